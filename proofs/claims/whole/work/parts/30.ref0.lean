def f_X10_within_0 (N : Nat) (a0 : Int64) (a2 : Int64) (a4 : Int64) (μ : am_M) : Option (Int32 × am_M) :=
if (lg_cmp a0 a2) < 0 then (am_z (0 : Int32) μ) else (if 0 < (lg_cmp a0 a4) then (am_z (0 : Int32) μ) else (am_z (1 : Int32) μ))
def f_X10_within (N : Nat) (a0 : Int64) (a2 : Int64) (a4 : Int64) (μ : am_M) : Option (Int32 × am_M) := f_X10_within_0 N a0 a2 a4 μ
set_option maxHeartbeats 4000000 in
set_option maxRecDepth 100000 in
theorem p_X10_within_0 (G : am_G) (l : Launch) (d : Nat) (hd0 : 0 ≤ d) (N : Nat) (a0 : Int64) (a2 : Int64) (a4 : Int64) (μ : am_M) : sm_P G l am_ci d me_X10_within 0 [(0, .long a0), (2, .long a2), (4, .long a4)] [] μ (f_X10_within_0 N a0 a2 a4 μ) := by
  unfold f_X10_within_0
  refine sm_lload_n (pc := 0) dX10_within_0 rfl 0 rfl ?_
  refine sm_lload_n (pc := 1) dX10_within_1 rfl 1 rfl ?_
  refine sm_lcmp (pc := 2) dX10_within_2 ?_
  refine sm_if_lt (pc := 3) (tgt := 17) dX10_within_3 (by decide) ?_ ?_
  · refine sm_iconst (pc := 17) dX10_within_17 (v := 0) (by decide) ?_
    exact sm_zret (pc := 18) dX10_within_18 rfl
  · refine sm_lload_n (pc := 6) dX10_within_6 rfl 0 rfl ?_
    refine sm_lload (pc := 7) dX10_within_7 2 rfl ?_
    refine sm_lcmp (pc := 9) dX10_within_9 ?_
    refine sm_if_gt (pc := 10) (tgt := 17) dX10_within_10 (by decide) ?_ ?_
    · refine sm_iconst (pc := 17) dX10_within_17 (v := 0) (by decide) ?_
      exact sm_zret (pc := 18) dX10_within_18 rfl
    · refine sm_iconst (pc := 13) dX10_within_13 (v := 1) (by decide) ?_
      refine sm_goto (pc := 14) (tgt := 18) dX10_within_14 (by decide) ?_
      exact sm_zret (pc := 18) dX10_within_18 rfl
theorem c_X10_within (G : am_G) (l : Launch) (N : Nat) (a0 : Int64) (a2 : Int64) (a4 : Int64) (μ : am_M) : ct_P G l am_ci 0 me_X10_within [.long a0, .long a2, .long a4] μ (f_X10_within N a0 a2 a4 μ) := ct_of (by decide +kernel) (Nat.le_of_ble_eq_true rfl) rfl (p_X10_within_0 G l 0 (Nat.le_refl _) N a0 a2 a4 μ)

def f_X10_size_0 (N : Nat) (a0 : Int32) (μ : am_M) : Option (Int32 × am_M) :=
if 0 ≤ a0 then (some (a0, μ)) else (some ((-a0), μ))
def f_X10_size (N : Nat) (a0 : Int32) (μ : am_M) : Option (Int32 × am_M) := f_X10_size_0 N a0 μ
set_option maxHeartbeats 4000000 in
set_option maxRecDepth 100000 in
theorem p_X10_size_0 (G : am_G) (l : Launch) (d : Nat) (hd0 : 0 ≤ d) (N : Nat) (a0 : Int32) (μ : am_M) : sm_P G l am_ci d me_X10_size 0 [(0, .int a0)] [] μ (f_X10_size_0 N a0 μ) := by
  unfold f_X10_size_0
  refine sm_iload_n (pc := 0) dX10_size_0 rfl 0 rfl ?_
  refine sm_if_ge (pc := 1) (tgt := 9) dX10_size_1 (by decide) ?_ ?_
  · refine sm_iload_n (pc := 9) dX10_size_9 rfl 0 rfl ?_
    exact sm_iret (pc := 10) dX10_size_10 rfl
  · refine sm_iload_n (pc := 4) dX10_size_4 rfl 0 rfl ?_
    refine sm_ineg (pc := 5) dX10_size_5 ?_
    refine sm_goto (pc := 6) (tgt := 10) dX10_size_6 (by decide) ?_
    exact sm_iret (pc := 10) dX10_size_10 rfl
theorem c_X10_size (G : am_G) (l : Launch) (N : Nat) (a0 : Int32) (μ : am_M) : ct_P G l am_ci 0 me_X10_size [.int a0] μ (f_X10_size N a0 μ) := ct_of (by decide +kernel) (Nat.le_of_ble_eq_true rfl) rfl (p_X10_size_0 G l 0 (Nat.le_refl _) N a0 μ)

def f_X10_becomes_97 (N : Nat) (x1 : Int32) (x2 : Int32) (x3 : Int32) (μ : am_M) : Option (Int32 × am_M) :=
am_gd (μ.1 10 0 5) 40 (fun j3 => am_nm (am_ui μ 161 0 j3 x1) (fun μ4 => am_gd (μ4.1 10 0 5) 40 (fun j5 => am_nm (am_ui μ4 162 0 j5 x3) (fun μ6 => am_gd (μ6.1 10 0 5) 40 (fun j7 => am_nm (am_ui μ6 163 0 j7 x2) (fun μ8 => am_nm (am_ui μ8 10 0 5 ((μ8.1 10 0 5) + (1 : Int32))) (fun μ9 => am_nm (am_ui μ9 10 0 4 (μ9.1 10 0 5)) (fun μ10 => am_gd x1 28 (fun j11 => am_nm (am_ui μ10 160 0 j11 x2) (fun μ12 => some (x3, μ12)))))))))))
def f_X10_becomes_26 (N : Nat) (r_26 : Int32 → Int32 → Int32 → Int32 → am_M → Option (Int32 × am_M)) (x1 : Int32) (x2 : Int32) (x3 : Int32) (x4 : Int32) (μ : am_M) : Option (Int32 × am_M) :=
if (40 : Int32) ≤ x4 then (am_nm (am_ui μ 10 0 5 ((μ.1 10 0 5) - (1 : Int32))) (fun μ13 => f_X10_becomes_97 N x1 x2 x3 μ13)) else (am_gd x4 40 (fun j14 => am_gd (x4 - (1 : Int32)) 40 (fun j15 => am_nm (am_ui μ 161 0 j15 (μ.1 161 0 j14)) (fun μ16 => am_gd x4 40 (fun j17 => am_gd (x4 - (1 : Int32)) 40 (fun j18 => am_nm (am_ui μ16 162 0 j18 (μ16.1 162 0 j17)) (fun μ19 => am_gd x4 40 (fun j20 => am_gd (x4 - (1 : Int32)) 40 (fun j21 => am_nm (am_ui μ19 163 0 j21 (μ19.1 163 0 j20)) (fun μ22 => r_26 x1 x2 x3 (x4 + (1 : Int32)) μ22))))))))))
def f_X10_becomes_26_lp (N : Nat) : Nat → Int32 → Int32 → Int32 → Int32 → am_M → Option (Int32 × am_M)
  | 0, _, _, _, _, _ => none
  | n + 1, x1, x2, x3, x4, μ => f_X10_becomes_26 N (f_X10_becomes_26_lp N n) x1 x2 x3 x4 μ
def f_X10_becomes_0 (N : Nat) (a1 : Int32) (a2 : Int32) (μ : am_M) : Option (Int32 × am_M) :=
am_gd a1 28 (fun j1 => am_nm (μ.1 160 0 j1) (fun y2 => if y2 = a2 then (some (y2, μ)) else (if (μ.1 10 0 5) = (40 : Int32) then (f_X10_becomes_26_lp N N a1 a2 y2 (1 : Int32) μ) else (f_X10_becomes_97 N a1 a2 y2 μ))))
def f_X10_becomes (N : Nat) (a1 : Int32) (a2 : Int32) (μ : am_M) : Option (Int32 × am_M) := f_X10_becomes_0 N a1 a2 μ
set_option maxHeartbeats 4000000 in
set_option maxRecDepth 100000 in
theorem p_X10_becomes_97 (G : am_G) (l : Launch) (d : Nat) (hd0 : 0 ≤ d) (N : Nat) (x1 : Int32) (x2 : Int32) (x3 : Int32) (μ : am_M) : sm_P G l am_ci d me_X10_becomes 97 [(0, .ref (am_ad G 10 0)), (1, .int x1), (2, .int x2), (3, .int x3)] [] μ (f_X10_becomes_97 N x1 x2 x3 μ) := by
  unfold f_X10_becomes_97
  refine sm_aload_n (pc := 97) dX10_becomes_97 rfl 0 rfl ?_
  refine sm_getr (pc := 98) dX10_becomes_98 fi_X10_13 ?_
  refine sm_aload_n (pc := 101) dX10_becomes_101 rfl 0 rfl ?_
  refine sm_geti (pc := 102) dX10_becomes_102 fi_X10_96 ?_
  refine sm_iload_n (pc := 105) dX10_becomes_105 rfl 1 rfl ?_
  refine sm_iast (pc := 106) dX10_becomes_106 ly_161 (by decide) (fun j3 hj3 => ?_)
  refine sm_nmM (fun μ4 => ?_)
  refine sm_aload_n (pc := 107) dX10_becomes_107 rfl 0 rfl ?_
  refine sm_getr (pc := 108) dX10_becomes_108 fi_X10_16 ?_
  refine sm_aload_n (pc := 111) dX10_becomes_111 rfl 0 rfl ?_
  refine sm_geti (pc := 112) dX10_becomes_112 fi_X10_96 ?_
  refine sm_iload_n (pc := 115) dX10_becomes_115 rfl 3 rfl ?_
  refine sm_iast (pc := 116) dX10_becomes_116 ly_162 (by decide) (fun j5 hj5 => ?_)
  refine sm_nmM (fun μ6 => ?_)
  refine sm_aload_n (pc := 117) dX10_becomes_117 rfl 0 rfl ?_
  refine sm_getr (pc := 118) dX10_becomes_118 fi_X10_19 ?_
  refine sm_aload_n (pc := 121) dX10_becomes_121 rfl 0 rfl ?_
  refine sm_geti (pc := 122) dX10_becomes_122 fi_X10_96 ?_
  refine sm_iload_n (pc := 125) dX10_becomes_125 rfl 2 rfl ?_
  refine sm_iast (pc := 126) dX10_becomes_126 ly_163 (by decide) (fun j7 hj7 => ?_)
  refine sm_nmM (fun μ8 => ?_)
  refine sm_aload_n (pc := 127) dX10_becomes_127 rfl 0 rfl ?_
  refine sm_dup (pc := 128) dX10_becomes_128 rfl ?_
  refine sm_geti (pc := 129) dX10_becomes_129 fi_X10_96 ?_
  refine sm_iconst (pc := 132) dX10_becomes_132 (v := 1) (by decide) ?_
  refine sm_iadd (pc := 133) dX10_becomes_133 ?_
  refine sm_puti (pc := 134) dX10_becomes_134 fi_X10_96 ?_
  refine sm_nmM (fun μ9 => ?_)
  refine sm_aload_n (pc := 137) dX10_becomes_137 rfl 0 rfl ?_
  refine sm_aload_n (pc := 138) dX10_becomes_138 rfl 0 rfl ?_
  refine sm_geti (pc := 139) dX10_becomes_139 fi_X10_96 ?_
  refine sm_puti (pc := 142) dX10_becomes_142 fi_X10_99 ?_
  refine sm_nmM (fun μ10 => ?_)
  refine sm_aload_n (pc := 145) dX10_becomes_145 rfl 0 rfl ?_
  refine sm_getr (pc := 146) dX10_becomes_146 fi_X10_9 ?_
  refine sm_iload_n (pc := 149) dX10_becomes_149 rfl 1 rfl ?_
  refine sm_iload_n (pc := 150) dX10_becomes_150 rfl 2 rfl ?_
  refine sm_iast (pc := 151) dX10_becomes_151 ly_160 (by decide) (fun j11 hj11 => ?_)
  refine sm_nmM (fun μ12 => ?_)
  refine sm_iload_n (pc := 152) dX10_becomes_152 rfl 3 rfl ?_
  exact sm_iret (pc := 153) dX10_becomes_153 rfl
set_option maxHeartbeats 4000000 in
set_option maxRecDepth 100000 in
theorem p_X10_becomes_26 (G : am_G) (l : Launch) (d : Nat) (hd0 : 0 ≤ d) (N : Nat) (r_26 : Int32 → Int32 → Int32 → Int32 → am_M → Option (Int32 × am_M)) (H_26 : ∀ (x1 : Int32) (x2 : Int32) (x3 : Int32) (x4 : Int32) (μ : am_M), sm_P G l am_ci d me_X10_becomes 26 [(0, .ref (am_ad G 10 0)), (1, .int x1), (2, .int x2), (3, .int x3), (4, .int x4)] [] μ (r_26 x1 x2 x3 x4 μ)) (x1 : Int32) (x2 : Int32) (x3 : Int32) (x4 : Int32) (μ : am_M) : sm_P G l am_ci d me_X10_becomes 26 [(0, .ref (am_ad G 10 0)), (1, .int x1), (2, .int x2), (3, .int x3), (4, .int x4)] [] μ (f_X10_becomes_26 N r_26 x1 x2 x3 x4 μ) := by
  unfold f_X10_becomes_26
  refine sm_iload (pc := 26) dX10_becomes_26 4 rfl ?_
  refine sm_bipush (pc := 28) dX10_becomes_28 (v := 40) (by decide) ?_
  refine sm_icmp_ge (pc := 30) (tgt := 87) dX10_becomes_30 (by decide) ?_ ?_
  · refine sm_aload_n (pc := 87) dX10_becomes_87 rfl 0 rfl ?_
    refine sm_dup (pc := 88) dX10_becomes_88 rfl ?_
    refine sm_geti (pc := 89) dX10_becomes_89 fi_X10_96 ?_
    refine sm_iconst (pc := 92) dX10_becomes_92 (v := 1) (by decide) ?_
    refine sm_isub (pc := 93) dX10_becomes_93 ?_
    refine sm_puti (pc := 94) dX10_becomes_94 fi_X10_96 ?_
    refine sm_nmM (fun μ13 => ?_)
    refine sm_sub [0, 1, 2, 3] rfl ?_
    exact p_X10_becomes_97 G l d hd0 N x1 x2 x3 μ13
  · refine sm_aload_n (pc := 33) dX10_becomes_33 rfl 0 rfl ?_
    refine sm_getr (pc := 34) dX10_becomes_34 fi_X10_13 ?_
    refine sm_iload (pc := 37) dX10_becomes_37 4 rfl ?_
    refine sm_iconst (pc := 39) dX10_becomes_39 (v := 1) (by decide) ?_
    refine sm_isub (pc := 40) dX10_becomes_40 ?_
    refine sm_aload_n (pc := 41) dX10_becomes_41 rfl 0 rfl ?_
    refine sm_getr (pc := 42) dX10_becomes_42 fi_X10_13 ?_
    refine sm_iload (pc := 45) dX10_becomes_45 4 rfl ?_
    refine sm_iald (pc := 47) dX10_becomes_47 ly_161 (by decide) (fun j14 hj14 => ?_)
    refine sm_iast (pc := 48) dX10_becomes_48 ly_161 (by decide) (fun j15 hj15 => ?_)
    refine sm_nmM (fun μ16 => ?_)
    refine sm_aload_n (pc := 49) dX10_becomes_49 rfl 0 rfl ?_
    refine sm_getr (pc := 50) dX10_becomes_50 fi_X10_16 ?_
    refine sm_iload (pc := 53) dX10_becomes_53 4 rfl ?_
    refine sm_iconst (pc := 55) dX10_becomes_55 (v := 1) (by decide) ?_
    refine sm_isub (pc := 56) dX10_becomes_56 ?_
    refine sm_aload_n (pc := 57) dX10_becomes_57 rfl 0 rfl ?_
    refine sm_getr (pc := 58) dX10_becomes_58 fi_X10_16 ?_
    refine sm_iload (pc := 61) dX10_becomes_61 4 rfl ?_
    refine sm_iald (pc := 63) dX10_becomes_63 ly_162 (by decide) (fun j17 hj17 => ?_)
    refine sm_iast (pc := 64) dX10_becomes_64 ly_162 (by decide) (fun j18 hj18 => ?_)
    refine sm_nmM (fun μ19 => ?_)
    refine sm_aload_n (pc := 65) dX10_becomes_65 rfl 0 rfl ?_
    refine sm_getr (pc := 66) dX10_becomes_66 fi_X10_19 ?_
    refine sm_iload (pc := 69) dX10_becomes_69 4 rfl ?_
    refine sm_iconst (pc := 71) dX10_becomes_71 (v := 1) (by decide) ?_
    refine sm_isub (pc := 72) dX10_becomes_72 ?_
    refine sm_aload_n (pc := 73) dX10_becomes_73 rfl 0 rfl ?_
    refine sm_getr (pc := 74) dX10_becomes_74 fi_X10_19 ?_
    refine sm_iload (pc := 77) dX10_becomes_77 4 rfl ?_
    refine sm_iald (pc := 79) dX10_becomes_79 ly_163 (by decide) (fun j20 hj20 => ?_)
    refine sm_iast (pc := 80) dX10_becomes_80 ly_163 (by decide) (fun j21 hj21 => ?_)
    refine sm_nmM (fun μ22 => ?_)
    refine sm_iinc (pc := 81) (v := (x4 + (1 : Int32))) (lv' := [(4, .int (x4 + (1 : Int32))), (0, .ref (am_ad G 10 0)), (1, .int x1), (2, .int x2), (3, .int x3)]) dX10_becomes_81 4 rfl rfl (by decide) rfl ?_
    refine sm_goto (pc := 84) (tgt := 26) dX10_becomes_84 (by decide) ?_
    refine sm_sub [1, 2, 3, 4, 0] rfl ?_
    exact H_26 x1 x2 x3 (x4 + (1 : Int32)) μ22
theorem p_X10_becomes_26_lp (G : am_G) (l : Launch) (d : Nat) (hd0 : 0 ≤ d) (N : Nat) : ∀ (n : Nat) (x1 : Int32) (x2 : Int32) (x3 : Int32) (x4 : Int32) (μ : am_M), sm_P G l am_ci d me_X10_becomes 26 [(0, .ref (am_ad G 10 0)), (1, .int x1), (2, .int x2), (3, .int x3), (4, .int x4)] [] μ (f_X10_becomes_26_lp N n x1 x2 x3 x4 μ) := by
  intro n
  induction n with
  | zero => intros; exact sm_none
  | succ n ih => exact fun x1 x2 x3 x4 μ => p_X10_becomes_26 G l d hd0 N (f_X10_becomes_26_lp N n) ih x1 x2 x3 x4 μ
set_option maxHeartbeats 4000000 in
set_option maxRecDepth 100000 in
theorem p_X10_becomes_0 (G : am_G) (l : Launch) (d : Nat) (hd0 : 0 ≤ d) (N : Nat) (a1 : Int32) (a2 : Int32) (μ : am_M) : sm_P G l am_ci d me_X10_becomes 0 [(0, .ref (am_ad G 10 0)), (1, .int a1), (2, .int a2)] [] μ (f_X10_becomes_0 N a1 a2 μ) := by
  unfold f_X10_becomes_0
  refine sm_aload_n (pc := 0) dX10_becomes_0 rfl 0 rfl ?_
  refine sm_getr (pc := 1) dX10_becomes_1 fi_X10_9 ?_
  refine sm_iload_n (pc := 4) dX10_becomes_4 rfl 1 rfl ?_
  refine sm_iald (pc := 5) dX10_becomes_5 ly_160 (by decide) (fun j1 hj1 => ?_)
  refine sm_nmI (fun y2 => ?_)
  refine sm_istore_n (pc := 6) (lv' := [(3, .int y2), (0, .ref (am_ad G 10 0)), (1, .int a1), (2, .int a2)]) dX10_becomes_6 rfl (by decide) rfl ?_
  refine sm_iload_n (pc := 7) dX10_becomes_7 rfl 0 rfl ?_
  refine sm_iload_n (pc := 8) dX10_becomes_8 rfl 3 rfl ?_
  refine sm_icmp_ne (pc := 9) (tgt := 14) dX10_becomes_9 (by decide) ?_ ?_
  · refine sm_aload_n (pc := 14) dX10_becomes_14 rfl 1 rfl ?_
    refine sm_geti (pc := 15) dX10_becomes_15 fi_X10_96 ?_
    refine sm_bipush (pc := 18) dX10_becomes_18 (v := 40) (by decide) ?_
    refine sm_icmp_ne (pc := 20) (tgt := 97) dX10_becomes_20 (by decide) ?_ ?_
    · refine sm_sub [1, 2, 3, 0] rfl ?_
      exact p_X10_becomes_97 G l d hd0 N a1 a2 y2 μ
    · refine sm_iconst (pc := 23) dX10_becomes_23 (v := 1) (by decide) ?_
      refine sm_istore (pc := 24) (lv' := [(4, .int (1 : Int32)), (3, .int y2), (0, .ref (am_ad G 10 0)), (1, .int a1), (2, .int a2)]) dX10_becomes_24 (by decide) rfl ?_
      refine sm_sub [2, 3, 4, 1, 0] rfl ?_
      exact p_X10_becomes_26_lp G l d hd0 N N a1 a2 y2 (1 : Int32) μ
  · refine sm_iload_n (pc := 12) dX10_becomes_12 rfl 0 rfl ?_
    exact sm_iret (pc := 13) dX10_becomes_13 rfl
theorem c_X10_becomes (G : am_G) (l : Launch) (N : Nat) (a1 : Int32) (a2 : Int32) (μ : am_M) : ct_P G l am_ci 0 me_X10_becomes [.ref (am_ad G 10 0), .int a1, .int a2] μ (f_X10_becomes N a1 a2 μ) := ct_of (by decide +kernel) (Nat.le_of_ble_eq_true rfl) rfl (p_X10_becomes_0 G l 0 (Nat.le_refl _) N a1 a2 μ)

def f_X10_undo_0 (N : Nat) (μ : am_M) : Option (Int32 × am_M) :=
if (μ.1 10 0 5) = 0 then (some ((-5 : Int32), μ)) else (am_nm (am_ui μ 10 0 5 ((μ.1 10 0 5) - (1 : Int32))) (fun μ1 => am_gd (μ1.1 10 0 5) 40 (fun j2 => am_gd (μ1.1 10 0 5) 40 (fun j3 => am_gd (μ1.1 161 0 j2) 28 (fun j4 => am_nm (am_ui μ1 160 0 j4 (μ1.1 162 0 j3)) (fun μ5 => some ((μ5.1 10 0 5), μ5)))))))
def f_X10_undo (N : Nat) (μ : am_M) : Option (Int32 × am_M) := f_X10_undo_0 N μ
set_option maxHeartbeats 4000000 in
set_option maxRecDepth 100000 in
theorem p_X10_undo_0 (G : am_G) (l : Launch) (d : Nat) (hd0 : 0 ≤ d) (N : Nat) (μ : am_M) : sm_P G l am_ci d me_X10_undo 0 [(0, .ref (am_ad G 10 0))] [] μ (f_X10_undo_0 N μ) := by
  unfold f_X10_undo_0
  refine sm_aload_n (pc := 0) dX10_undo_0 rfl 0 rfl ?_
  refine sm_geti (pc := 1) dX10_undo_1 fi_X10_96 ?_
  refine sm_if_ne (pc := 4) (tgt := 10) dX10_undo_4 (by decide) ?_ ?_
  · refine sm_aload_n (pc := 10) dX10_undo_10 rfl 0 rfl ?_
    refine sm_dup (pc := 11) dX10_undo_11 rfl ?_
    refine sm_geti (pc := 12) dX10_undo_12 fi_X10_96 ?_
    refine sm_iconst (pc := 15) dX10_undo_15 (v := 1) (by decide) ?_
    refine sm_isub (pc := 16) dX10_undo_16 ?_
    refine sm_puti (pc := 17) dX10_undo_17 fi_X10_96 ?_
    refine sm_nmM (fun μ1 => ?_)
    refine sm_aload_n (pc := 20) dX10_undo_20 rfl 0 rfl ?_
    refine sm_getr (pc := 21) dX10_undo_21 fi_X10_9 ?_
    refine sm_aload_n (pc := 24) dX10_undo_24 rfl 0 rfl ?_
    refine sm_getr (pc := 25) dX10_undo_25 fi_X10_13 ?_
    refine sm_aload_n (pc := 28) dX10_undo_28 rfl 0 rfl ?_
    refine sm_geti (pc := 29) dX10_undo_29 fi_X10_96 ?_
    refine sm_iald (pc := 32) dX10_undo_32 ly_161 (by decide) (fun j2 hj2 => ?_)
    refine sm_aload_n (pc := 33) dX10_undo_33 rfl 0 rfl ?_
    refine sm_getr (pc := 34) dX10_undo_34 fi_X10_16 ?_
    refine sm_aload_n (pc := 37) dX10_undo_37 rfl 0 rfl ?_
    refine sm_geti (pc := 38) dX10_undo_38 fi_X10_96 ?_
    refine sm_iald (pc := 41) dX10_undo_41 ly_162 (by decide) (fun j3 hj3 => ?_)
    refine sm_iast (pc := 42) dX10_undo_42 ly_160 (by decide) (fun j4 hj4 => ?_)
    refine sm_nmM (fun μ5 => ?_)
    refine sm_aload_n (pc := 43) dX10_undo_43 rfl 0 rfl ?_
    refine sm_geti (pc := 44) dX10_undo_44 fi_X10_96 ?_
    exact sm_iret (pc := 47) dX10_undo_47 rfl
  · refine sm_bipush (pc := 7) dX10_undo_7 (v := -5) (by decide) ?_
    exact sm_iret (pc := 9) dX10_undo_9 rfl
theorem c_X10_undo (G : am_G) (l : Launch) (N : Nat) (μ : am_M) : ct_P G l am_ci 0 me_X10_undo [.ref (am_ad G 10 0)] μ (f_X10_undo N μ) := ct_of (by decide +kernel) (Nat.le_of_ble_eq_true rfl) rfl (p_X10_undo_0 G l 0 (Nat.le_refl _) N μ)

def f_X10_redo_0 (N : Nat) (μ : am_M) : Option (Int32 × am_M) :=
if (μ.1 10 0 5) = (μ.1 10 0 4) then (some ((-5 : Int32), μ)) else (am_gd (μ.1 10 0 5) 40 (fun j1 => am_gd (μ.1 10 0 5) 40 (fun j2 => am_gd (μ.1 161 0 j1) 28 (fun j3 => am_nm (am_ui μ 160 0 j3 (μ.1 163 0 j2)) (fun μ4 => am_nm (am_ui μ4 10 0 5 ((μ4.1 10 0 5) + (1 : Int32))) (fun μ5 => some (((μ5.1 10 0 4) - (μ5.1 10 0 5)), μ5)))))))
def f_X10_redo (N : Nat) (μ : am_M) : Option (Int32 × am_M) := f_X10_redo_0 N μ
set_option maxHeartbeats 4000000 in
set_option maxRecDepth 100000 in
theorem p_X10_redo_0 (G : am_G) (l : Launch) (d : Nat) (hd0 : 0 ≤ d) (N : Nat) (μ : am_M) : sm_P G l am_ci d me_X10_redo 0 [(0, .ref (am_ad G 10 0))] [] μ (f_X10_redo_0 N μ) := by
  unfold f_X10_redo_0
  refine sm_aload_n (pc := 0) dX10_redo_0 rfl 0 rfl ?_
  refine sm_geti (pc := 1) dX10_redo_1 fi_X10_96 ?_
  refine sm_aload_n (pc := 4) dX10_redo_4 rfl 0 rfl ?_
  refine sm_geti (pc := 5) dX10_redo_5 fi_X10_99 ?_
  refine sm_icmp_ne (pc := 8) (tgt := 14) dX10_redo_8 (by decide) ?_ ?_
  · refine sm_aload_n (pc := 14) dX10_redo_14 rfl 0 rfl ?_
    refine sm_getr (pc := 15) dX10_redo_15 fi_X10_9 ?_
    refine sm_aload_n (pc := 18) dX10_redo_18 rfl 0 rfl ?_
    refine sm_getr (pc := 19) dX10_redo_19 fi_X10_13 ?_
    refine sm_aload_n (pc := 22) dX10_redo_22 rfl 0 rfl ?_
    refine sm_geti (pc := 23) dX10_redo_23 fi_X10_96 ?_
    refine sm_iald (pc := 26) dX10_redo_26 ly_161 (by decide) (fun j1 hj1 => ?_)
    refine sm_aload_n (pc := 27) dX10_redo_27 rfl 0 rfl ?_
    refine sm_getr (pc := 28) dX10_redo_28 fi_X10_19 ?_
    refine sm_aload_n (pc := 31) dX10_redo_31 rfl 0 rfl ?_
    refine sm_geti (pc := 32) dX10_redo_32 fi_X10_96 ?_
    refine sm_iald (pc := 35) dX10_redo_35 ly_163 (by decide) (fun j2 hj2 => ?_)
    refine sm_iast (pc := 36) dX10_redo_36 ly_160 (by decide) (fun j3 hj3 => ?_)
    refine sm_nmM (fun μ4 => ?_)
    refine sm_aload_n (pc := 37) dX10_redo_37 rfl 0 rfl ?_
    refine sm_dup (pc := 38) dX10_redo_38 rfl ?_
    refine sm_geti (pc := 39) dX10_redo_39 fi_X10_96 ?_
    refine sm_iconst (pc := 42) dX10_redo_42 (v := 1) (by decide) ?_
    refine sm_iadd (pc := 43) dX10_redo_43 ?_
    refine sm_puti (pc := 44) dX10_redo_44 fi_X10_96 ?_
    refine sm_nmM (fun μ5 => ?_)
    refine sm_aload_n (pc := 47) dX10_redo_47 rfl 0 rfl ?_
    refine sm_geti (pc := 48) dX10_redo_48 fi_X10_99 ?_
    refine sm_aload_n (pc := 51) dX10_redo_51 rfl 0 rfl ?_
    refine sm_geti (pc := 52) dX10_redo_52 fi_X10_96 ?_
    refine sm_isub (pc := 55) dX10_redo_55 ?_
    exact sm_iret (pc := 56) dX10_redo_56 rfl
  · refine sm_bipush (pc := 11) dX10_redo_11 (v := -5) (by decide) ?_
    exact sm_iret (pc := 13) dX10_redo_13 rfl
theorem c_X10_redo (G : am_G) (l : Launch) (N : Nat) (μ : am_M) : ct_P G l am_ci 0 me_X10_redo [.ref (am_ad G 10 0)] μ (f_X10_redo N μ) := ct_of (by decide +kernel) (Nat.le_of_ble_eq_true rfl) rfl (p_X10_redo_0 G l 0 (Nat.le_refl _) N μ)

def f_X10_isThing_0 (N : Nat) (a1 : Int32) (μ : am_M) : Option (Int32 × am_M) :=
am_bd (f_X10_within N a1.toInt64 (0 : Int64) ((μ.1 10 0 6) - (1 : Int32)).toInt64 μ) (fun y2 μ1 => am_z y2 μ1)
def f_X10_isThing (N : Nat) (a1 : Int32) (μ : am_M) : Option (Int32 × am_M) := f_X10_isThing_0 N a1 μ
set_option maxHeartbeats 4000000 in
set_option maxRecDepth 100000 in
theorem p_X10_isThing_0 (G : am_G) (l : Launch) (d : Nat) (hd0 : 1 ≤ d) (N : Nat) (a1 : Int32) (μ : am_M) : sm_P G l am_ci d me_X10_isThing 0 [(0, .ref (am_ad G 10 0)), (1, .int a1)] [] μ (f_X10_isThing_0 N a1 μ) := by
  unfold f_X10_isThing_0
  refine sm_iload_n (pc := 0) dX10_isThing_0 rfl 1 rfl ?_
  refine sm_i2l (pc := 1) dX10_isThing_1 ?_
  refine sm_lconst (pc := 2) dX10_isThing_2 (v := 0) (by decide) ?_
  refine sm_aload_n (pc := 3) dX10_isThing_3 rfl 0 rfl ?_
  refine sm_geti (pc := 4) dX10_isThing_4 fi_X10_102 ?_
  refine sm_iconst (pc := 7) dX10_isThing_7 (v := 1) (by decide) ?_
  refine sm_isub (pc := 8) dX10_isThing_8 ?_
  refine sm_i2l (pc := 9) dX10_isThing_9 ?_
  refine sm_callSi (pc := 10) (As := [.long a1.toInt64, .long (0 : Int64), .long ((μ.1 10 0 6) - (1 : Int32)).toInt64]) (rest := []) dX10_isThing_10 (c_X10_within G l N a1.toInt64 (0 : Int64) ((μ.1 10 0 6) - (1 : Int32)).toInt64 μ) (by omega) wl_X10_105 st_X10_within rfl rfl (Nat.le_of_ble_eq_true rfl) (fun y2 μ1 => ?_)
  exact sm_zret (pc := 13) dX10_isThing_13 rfl
theorem c_X10_isThing (G : am_G) (l : Launch) (N : Nat) (a1 : Int32) (μ : am_M) : ct_P G l am_ci 1 me_X10_isThing [.ref (am_ad G 10 0), .int a1] μ (f_X10_isThing N a1 μ) := ct_of (by decide +kernel) (Nat.le_of_ble_eq_true rfl) rfl (p_X10_isThing_0 G l 1 (Nat.le_refl _) N a1 μ)

def f_X10_isSort_0 (N : Nat) (a1 : Int32) (μ : am_M) : Option (Int32 × am_M) :=
am_bd (f_X10_within N a1.toInt64 (0 : Int64) ((μ.1 10 0 8) - (1 : Int32)).toInt64 μ) (fun y2 μ1 => am_z y2 μ1)
def f_X10_isSort (N : Nat) (a1 : Int32) (μ : am_M) : Option (Int32 × am_M) := f_X10_isSort_0 N a1 μ
set_option maxHeartbeats 4000000 in
set_option maxRecDepth 100000 in
theorem p_X10_isSort_0 (G : am_G) (l : Launch) (d : Nat) (hd0 : 1 ≤ d) (N : Nat) (a1 : Int32) (μ : am_M) : sm_P G l am_ci d me_X10_isSort 0 [(0, .ref (am_ad G 10 0)), (1, .int a1)] [] μ (f_X10_isSort_0 N a1 μ) := by
  unfold f_X10_isSort_0
  refine sm_iload_n (pc := 0) dX10_isSort_0 rfl 1 rfl ?_
  refine sm_i2l (pc := 1) dX10_isSort_1 ?_
  refine sm_lconst (pc := 2) dX10_isSort_2 (v := 0) (by decide) ?_
  refine sm_aload_n (pc := 3) dX10_isSort_3 rfl 0 rfl ?_
  refine sm_geti (pc := 4) dX10_isSort_4 fi_X10_109 ?_
  refine sm_iconst (pc := 7) dX10_isSort_7 (v := 1) (by decide) ?_
  refine sm_isub (pc := 8) dX10_isSort_8 ?_
  refine sm_i2l (pc := 9) dX10_isSort_9 ?_
  refine sm_callSi (pc := 10) (As := [.long a1.toInt64, .long (0 : Int64), .long ((μ.1 10 0 8) - (1 : Int32)).toInt64]) (rest := []) dX10_isSort_10 (c_X10_within G l N a1.toInt64 (0 : Int64) ((μ.1 10 0 8) - (1 : Int32)).toInt64 μ) (by omega) wl_X10_105 st_X10_within rfl rfl (Nat.le_of_ble_eq_true rfl) (fun y2 μ1 => ?_)
  exact sm_zret (pc := 13) dX10_isSort_13 rfl
theorem c_X10_isSort (G : am_G) (l : Launch) (N : Nat) (a1 : Int32) (μ : am_M) : ct_P G l am_ci 1 me_X10_isSort [.ref (am_ad G 10 0), .int a1] μ (f_X10_isSort N a1 μ) := ct_of (by decide +kernel) (Nat.le_of_ble_eq_true rfl) rfl (p_X10_isSort_0 G l 1 (Nat.le_refl _) N a1 μ)

def f_X10_isTwo_0 (N : Nat) (a0 : Int64) (μ : am_M) : Option (Int32 × am_M) :=
am_bd (f_X10_within N a0 (0 : Int64) (99 : Int64) μ) (fun y2 μ1 => am_z y2 μ1)
def f_X10_isTwo (N : Nat) (a0 : Int64) (μ : am_M) : Option (Int32 × am_M) := f_X10_isTwo_0 N a0 μ
set_option maxHeartbeats 4000000 in
set_option maxRecDepth 100000 in
theorem p_X10_isTwo_0 (G : am_G) (l : Launch) (d : Nat) (hd0 : 1 ≤ d) (N : Nat) (a0 : Int64) (μ : am_M) : sm_P G l am_ci d me_X10_isTwo 0 [(0, .long a0)] [] μ (f_X10_isTwo_0 N a0 μ) := by
  unfold f_X10_isTwo_0
  refine sm_lload_n (pc := 0) dX10_isTwo_0 rfl 0 rfl ?_
  refine sm_lconst (pc := 1) dX10_isTwo_1 (v := 0) (by decide) ?_
  refine sm_ldc2 (pc := 2) dX10_isTwo_2 (v := 99) wk_X10_112 ?_
  refine sm_callSi (pc := 5) (As := [.long a0, .long (0 : Int64), .long (99 : Int64)]) (rest := []) dX10_isTwo_5 (c_X10_within G l N a0 (0 : Int64) (99 : Int64) μ) (by omega) wl_X10_105 st_X10_within rfl rfl (Nat.le_of_ble_eq_true rfl) (fun y2 μ1 => ?_)
  exact sm_zret (pc := 8) dX10_isTwo_8 rfl
theorem c_X10_isTwo (G : am_G) (l : Launch) (N : Nat) (a0 : Int64) (μ : am_M) : ct_P G l am_ci 1 me_X10_isTwo [.long a0] μ (f_X10_isTwo N a0 μ) := ct_of (by decide +kernel) (Nat.le_of_ble_eq_true rfl) rfl (p_X10_isTwo_0 G l 1 (Nat.le_refl _) N a0 μ)

def f_X10_adds_0 (N : Nat) (a1 : Int32) (a2 : Int32) (a3 : Int32) (a4 : Int32) (μ : am_M) : Option (Unit × am_M) :=
am_gd (μ.1 10 0 6) 28 (fun j1 => am_nm (am_ui μ 160 0 j1 a1) (fun μ2 => am_gd ((6 : Int32) + (μ2.1 10 0 6)) 28 (fun j3 => am_nm (am_ui μ2 160 0 j3 a2) (fun μ4 => am_gd ((12 : Int32) + (μ4.1 10 0 6)) 28 (fun j5 => am_nm (am_ui μ4 160 0 j5 a3) (fun μ6 => am_gd (μ6.1 10 0 6) 6 (fun j7 => am_nm (am_ui μ6 167 0 j7 a4) (fun μ8 => am_nm (am_ui μ8 10 0 6 ((μ8.1 10 0 6) + (1 : Int32))) (fun μ9 => some ((), μ9))))))))))
def f_X10_adds (N : Nat) (a1 : Int32) (a2 : Int32) (a3 : Int32) (a4 : Int32) (μ : am_M) : Option (Unit × am_M) := f_X10_adds_0 N a1 a2 a3 a4 μ
set_option maxHeartbeats 4000000 in
set_option maxRecDepth 100000 in
theorem p_X10_adds_0 (G : am_G) (l : Launch) (d : Nat) (hd0 : 0 ≤ d) (N : Nat) (a1 : Int32) (a2 : Int32) (a3 : Int32) (a4 : Int32) (μ : am_M) : sm_P G l am_cu d me_X10_adds 0 [(0, .ref (am_ad G 10 0)), (1, .int a1), (2, .int a2), (3, .int a3), (4, .int a4)] [] μ (f_X10_adds_0 N a1 a2 a3 a4 μ) := by
  unfold f_X10_adds_0
  refine sm_aload_n (pc := 0) dX10_adds_0 rfl 0 rfl ?_
  refine sm_getr (pc := 1) dX10_adds_1 fi_X10_9 ?_
  refine sm_aload_n (pc := 4) dX10_adds_4 rfl 0 rfl ?_
  refine sm_geti (pc := 5) dX10_adds_5 fi_X10_102 ?_
  refine sm_iload_n (pc := 8) dX10_adds_8 rfl 1 rfl ?_
  refine sm_iast (pc := 9) dX10_adds_9 ly_160 (by decide) (fun j1 hj1 => ?_)
  refine sm_nmM (fun μ2 => ?_)
  refine sm_aload_n (pc := 10) dX10_adds_10 rfl 0 rfl ?_
  refine sm_getr (pc := 11) dX10_adds_11 fi_X10_9 ?_
  refine sm_bipush (pc := 14) dX10_adds_14 (v := 6) (by decide) ?_
  refine sm_aload_n (pc := 16) dX10_adds_16 rfl 0 rfl ?_
  refine sm_geti (pc := 17) dX10_adds_17 fi_X10_102 ?_
  refine sm_iadd (pc := 20) dX10_adds_20 ?_
  refine sm_iload_n (pc := 21) dX10_adds_21 rfl 2 rfl ?_
  refine sm_iast (pc := 22) dX10_adds_22 ly_160 (by decide) (fun j3 hj3 => ?_)
  refine sm_nmM (fun μ4 => ?_)
  refine sm_aload_n (pc := 23) dX10_adds_23 rfl 0 rfl ?_
  refine sm_getr (pc := 24) dX10_adds_24 fi_X10_9 ?_
  refine sm_bipush (pc := 27) dX10_adds_27 (v := 12) (by decide) ?_
  refine sm_aload_n (pc := 29) dX10_adds_29 rfl 0 rfl ?_
  refine sm_geti (pc := 30) dX10_adds_30 fi_X10_102 ?_
  refine sm_iadd (pc := 33) dX10_adds_33 ?_
  refine sm_iload_n (pc := 34) dX10_adds_34 rfl 3 rfl ?_
  refine sm_iast (pc := 35) dX10_adds_35 ly_160 (by decide) (fun j5 hj5 => ?_)
  refine sm_nmM (fun μ6 => ?_)
  refine sm_aload_n (pc := 36) dX10_adds_36 rfl 0 rfl ?_
  refine sm_getr (pc := 37) dX10_adds_37 fi_X10_22 ?_
  refine sm_aload_n (pc := 40) dX10_adds_40 rfl 0 rfl ?_
  refine sm_geti (pc := 41) dX10_adds_41 fi_X10_102 ?_
  refine sm_iload (pc := 44) dX10_adds_44 4 rfl ?_
  refine sm_iast (pc := 46) dX10_adds_46 ly_167 (by decide) (fun j7 hj7 => ?_)
  refine sm_nmM (fun μ8 => ?_)
  refine sm_aload_n (pc := 47) dX10_adds_47 rfl 0 rfl ?_
  refine sm_dup (pc := 48) dX10_adds_48 rfl ?_
  refine sm_geti (pc := 49) dX10_adds_49 fi_X10_102 ?_
  refine sm_iconst (pc := 52) dX10_adds_52 (v := 1) (by decide) ?_
  refine sm_iadd (pc := 53) dX10_adds_53 ?_
  refine sm_puti (pc := 54) dX10_adds_54 fi_X10_102 ?_
  refine sm_nmM (fun μ9 => ?_)
  exact sm_vret (pc := 57) dX10_adds_57 rfl
theorem c_X10_adds (G : am_G) (l : Launch) (N : Nat) (a1 : Int32) (a2 : Int32) (a3 : Int32) (a4 : Int32) (μ : am_M) : ct_P G l am_cu 0 me_X10_adds [.ref (am_ad G 10 0), .int a1, .int a2, .int a3, .int a4] μ (f_X10_adds N a1 a2 a3 a4 μ) := ct_of (by decide +kernel) (Nat.le_of_ble_eq_true rfl) rfl (p_X10_adds_0 G l 0 (Nat.le_refl _) N a1 a2 a3 a4 μ)

def f_X10_thing_0 (N : Nat) (a1 : Int32) (a2 : Int32) (a3 : Int32) (μ : am_M) : Option (Int32 × am_M) :=
am_bd (f_X10_within N a1.toInt64 (0 : Int64) (999 : Int64) μ) (fun y2 μ1 => if y2 = 0 then (some ((-1 : Int32), μ1)) else (am_bd (f_X10_within N a2.toInt64 (0 : Int64) (9999 : Int64) μ1) (fun y4 μ3 => if y4 = 0 then (some ((-1 : Int32), μ3)) else (am_bd (f_X10_isTwo N a3.toInt64 μ3) (fun y6 μ5 => if y6 = 0 then (some ((-1 : Int32), μ5)) else (if (μ5.1 10 0 6) = (6 : Int32) then (some ((-3 : Int32), μ5)) else (am_bd (f_X10_adds N a1 (a2 / (100 : Int32)) (am_rem a2 (100 : Int32)) a3 μ5) (fun _ μ7 => some (((μ7.1 10 0 6) - (1 : Int32)), μ7)))))))))
def f_X10_thing (N : Nat) (a1 : Int32) (a2 : Int32) (a3 : Int32) (μ : am_M) : Option (Int32 × am_M) := f_X10_thing_0 N a1 a2 a3 μ
set_option maxHeartbeats 4000000 in
set_option maxRecDepth 100000 in
theorem p_X10_thing_0 (G : am_G) (l : Launch) (d : Nat) (hd0 : 2 ≤ d) (N : Nat) (a1 : Int32) (a2 : Int32) (a3 : Int32) (μ : am_M) : sm_P G l am_ci d me_X10_thing 0 [(0, .ref (am_ad G 10 0)), (1, .int a1), (2, .int a2), (3, .int a3)] [] μ (f_X10_thing_0 N a1 a2 a3 μ) := by
  unfold f_X10_thing_0
  refine sm_iload_n (pc := 0) dX10_thing_0 rfl 1 rfl ?_
  refine sm_i2l (pc := 1) dX10_thing_1 ?_
  refine sm_lconst (pc := 2) dX10_thing_2 (v := 0) (by decide) ?_
  refine sm_ldc2 (pc := 3) dX10_thing_3 (v := 999) wk_X10_114 ?_
  refine sm_callSi (pc := 6) (As := [.long a1.toInt64, .long (0 : Int64), .long (999 : Int64)]) (rest := []) dX10_thing_6 (c_X10_within G l N a1.toInt64 (0 : Int64) (999 : Int64) μ) (by omega) wl_X10_105 st_X10_within rfl rfl (Nat.le_of_ble_eq_true rfl) (fun y2 μ1 => ?_)
  refine sm_if_eq (pc := 9) (tgt := 32) dX10_thing_9 (by decide) ?_ ?_
  · refine sm_iconst (pc := 32) dX10_thing_32 (v := -1) (by decide) ?_
    exact sm_iret (pc := 33) dX10_thing_33 rfl
  · refine sm_iload_n (pc := 12) dX10_thing_12 rfl 2 rfl ?_
    refine sm_i2l (pc := 13) dX10_thing_13 ?_
    refine sm_lconst (pc := 14) dX10_thing_14 (v := 0) (by decide) ?_
    refine sm_ldc2 (pc := 15) dX10_thing_15 (v := 9999) wk_X10_116 ?_
    refine sm_callSi (pc := 18) (As := [.long a2.toInt64, .long (0 : Int64), .long (9999 : Int64)]) (rest := []) dX10_thing_18 (c_X10_within G l N a2.toInt64 (0 : Int64) (9999 : Int64) μ1) (by omega) wl_X10_105 st_X10_within rfl rfl (Nat.le_of_ble_eq_true rfl) (fun y4 μ3 => ?_)
    refine sm_if_eq (pc := 21) (tgt := 32) dX10_thing_21 (by decide) ?_ ?_
    · refine sm_iconst (pc := 32) dX10_thing_32 (v := -1) (by decide) ?_
      exact sm_iret (pc := 33) dX10_thing_33 rfl
    · refine sm_iload_n (pc := 24) dX10_thing_24 rfl 3 rfl ?_
      refine sm_i2l (pc := 25) dX10_thing_25 ?_
      refine sm_callSi (pc := 26) (As := [.long a3.toInt64]) (rest := []) dX10_thing_26 (c_X10_isTwo G l N a3.toInt64 μ3) (by omega) wl_X10_118 st_X10_isTwo rfl rfl (Nat.le_of_ble_eq_true rfl) (fun y6 μ5 => ?_)
      refine sm_if_ne (pc := 29) (tgt := 34) dX10_thing_29 (by decide) ?_ ?_
      · refine sm_aload_n (pc := 34) dX10_thing_34 rfl 0 rfl ?_
        refine sm_geti (pc := 35) dX10_thing_35 fi_X10_102 ?_
        refine sm_bipush (pc := 38) dX10_thing_38 (v := 6) (by decide) ?_
        refine sm_icmp_ne (pc := 40) (tgt := 46) dX10_thing_40 (by decide) ?_ ?_
        · refine sm_aload_n (pc := 46) dX10_thing_46 rfl 0 rfl ?_
          refine sm_iload_n (pc := 47) dX10_thing_47 rfl 1 rfl ?_
          refine sm_iload_n (pc := 48) dX10_thing_48 rfl 2 rfl ?_
          refine sm_bipush (pc := 49) dX10_thing_49 (v := 100) (by decide) ?_
          refine sm_idivc (pc := 51) dX10_thing_51 (by decide) ?_
          refine sm_iload_n (pc := 52) dX10_thing_52 rfl 2 rfl ?_
          refine sm_bipush (pc := 53) dX10_thing_53 (v := 100) (by decide) ?_
          refine sm_iremc (pc := 55) dX10_thing_55 (by decide) ?_
          refine sm_iload_n (pc := 56) dX10_thing_56 rfl 3 rfl ?_
          refine sm_callVv (pc := 57) (As := [.int a1, .int (a2 / (100 : Int32)), .int (am_rem a2 (100 : Int32)), .int a3]) (rest := []) dX10_thing_57 (c_X10_adds G l N a1 (a2 / (100 : Int32)) (am_rem a2 (100 : Int32)) a3 μ5) (by omega) wl_X10_122 vm_X10_adds rfl rfl (Nat.le_of_ble_eq_true rfl) (fun _ μ7 => ?_)
          refine sm_aload_n (pc := 60) dX10_thing_60 rfl 0 rfl ?_
          refine sm_geti (pc := 61) dX10_thing_61 fi_X10_102 ?_
          refine sm_iconst (pc := 64) dX10_thing_64 (v := 1) (by decide) ?_
          refine sm_isub (pc := 65) dX10_thing_65 ?_
          exact sm_iret (pc := 66) dX10_thing_66 rfl
        · refine sm_bipush (pc := 43) dX10_thing_43 (v := -3) (by decide) ?_
          exact sm_iret (pc := 45) dX10_thing_45 rfl
      · refine sm_iconst (pc := 32) dX10_thing_32 (v := -1) (by decide) ?_
        exact sm_iret (pc := 33) dX10_thing_33 rfl
theorem c_X10_thing (G : am_G) (l : Launch) (N : Nat) (a1 : Int32) (a2 : Int32) (a3 : Int32) (μ : am_M) : ct_P G l am_ci 2 me_X10_thing [.ref (am_ad G 10 0), .int a1, .int a2, .int a3] μ (f_X10_thing N a1 a2 a3 μ) := ct_of (by decide +kernel) (Nat.le_of_ble_eq_true rfl) rfl (p_X10_thing_0 G l 2 (Nat.le_refl _) N a1 a2 a3 μ)

def f_X10_isShelf_0 (N : Nat) (a0 : Int32) (μ : am_M) : Option (Int32 × am_M) :=
am_bd (f_X10_within N a0.toInt64 (0 : Int64) (5 : Int64) μ) (fun y2 μ1 => am_z y2 μ1)
def f_X10_isShelf (N : Nat) (a0 : Int32) (μ : am_M) : Option (Int32 × am_M) := f_X10_isShelf_0 N a0 μ
set_option maxHeartbeats 4000000 in
set_option maxRecDepth 100000 in
theorem p_X10_isShelf_0 (G : am_G) (l : Launch) (d : Nat) (hd0 : 1 ≤ d) (N : Nat) (a0 : Int32) (μ : am_M) : sm_P G l am_ci d me_X10_isShelf 0 [(0, .int a0)] [] μ (f_X10_isShelf_0 N a0 μ) := by
  unfold f_X10_isShelf_0
  refine sm_iload_n (pc := 0) dX10_isShelf_0 rfl 0 rfl ?_
  refine sm_i2l (pc := 1) dX10_isShelf_1 ?_
  refine sm_lconst (pc := 2) dX10_isShelf_2 (v := 0) (by decide) ?_
  refine sm_ldc2 (pc := 3) dX10_isShelf_3 (v := 5) wk_X10_359 ?_
  refine sm_callSi (pc := 6) (As := [.long a0.toInt64, .long (0 : Int64), .long (5 : Int64)]) (rest := []) dX10_isShelf_6 (c_X10_within G l N a0.toInt64 (0 : Int64) (5 : Int64) μ) (by omega) wl_X10_105 st_X10_within rfl rfl (Nat.le_of_ble_eq_true rfl) (fun y2 μ1 => ?_)
  exact sm_zret (pc := 9) dX10_isShelf_9 rfl
theorem c_X10_isShelf (G : am_G) (l : Launch) (N : Nat) (a0 : Int32) (μ : am_M) : ct_P G l am_ci 1 me_X10_isShelf [.int a0] μ (f_X10_isShelf N a0 μ) := ct_of (by decide +kernel) (Nat.le_of_ble_eq_true rfl) rfl (p_X10_isShelf_0 G l 1 (Nat.le_refl _) N a0 μ)

def f_X10_things_250 (N : Nat) (r_69 : Int32 → Int32 → Int32 → Int32 → Int32 → am_M → Option (Int32 × am_M)) (x1 : Int32) (x2 : Int32) (x3 : Int32) (x4 : Int32) (x5 : Int32) (μ : am_M) : Option (Int32 × am_M) :=
r_69 x1 x2 x3 x4 x5 μ
def f_X10_things_198 (N : Nat) (r_69 : Int32 → Int32 → Int32 → Int32 → Int32 → am_M → Option (Int32 × am_M)) (x1 : Int32) (x2 : Int32) (x3 : Int32) (x4 : Int32) (x6 : Int32) (s0 : Int32) (μ : am_M) : Option (Int32 × am_M) :=
if s0 = 0 then (f_X10_things_250 N r_69 x1 x2 x3 x4 s0 μ) else (am_gd x6 360 (fun j9 => am_gd (x6 + (1 : Int32)) 360 (fun j10 => am_gd (x6 + (2 : Int32)) 360 (fun j11 => am_gd (x6 + (3 : Int32)) 360 (fun j12 => am_bd (f_X10_adds N (μ.2 213 0 j9).toInt32 (μ.2 213 0 j10).toInt32 (μ.2 213 0 j11).toInt32 (μ.2 213 0 j12).toInt32 μ) (fun _ μ13 => f_X10_things_250 N r_69 x1 x2 x3 (x4 + (1 : Int32)) s0 μ13))))))
def f_X10_things_197 (N : Nat) (r_69 : Int32 → Int32 → Int32 → Int32 → Int32 → am_M → Option (Int32 × am_M)) (x1 : Int32) (x2 : Int32) (x3 : Int32) (x4 : Int32) (x6 : Int32) (μ : am_M) : Option (Int32 × am_M) :=
f_X10_things_198 N r_69 x1 x2 x3 x4 x6 (0 : Int32) μ
def f_X10_things_111 (N : Nat) (r_69 : Int32 → Int32 → Int32 → Int32 → Int32 → am_M → Option (Int32 × am_M)) (x1 : Int32) (x2 : Int32) (x3 : Int32) (x4 : Int32) (s0 : Int32) (μ : am_M) : Option (Int32 × am_M) :=
am_nm ((((60 : Int32) * x1) + x2) + ((4 : Int32) * x4)) (fun y8 => if s0 = 0 then (f_X10_things_197 N r_69 x1 x2 x3 x4 y8 μ) else (am_gd y8 360 (fun j14 => am_bd (f_X10_within N (μ.2 213 0 j14) (0 : Int64) (999 : Int64) μ) (fun y16 μ15 => if y16 = 0 then (f_X10_things_197 N r_69 x1 x2 x3 x4 y8 μ15) else (am_gd (y8 + (1 : Int32)) 360 (fun j17 => am_bd (f_X10_isTwo N (μ15.2 213 0 j17) μ15) (fun y19 μ18 => if y19 = 0 then (f_X10_things_197 N r_69 x1 x2 x3 x4 y8 μ18) else (am_gd (y8 + (2 : Int32)) 360 (fun j20 => am_bd (f_X10_isTwo N (μ18.2 213 0 j20) μ18) (fun y22 μ21 => if y22 = 0 then (f_X10_things_197 N r_69 x1 x2 x3 x4 y8 μ21) else (am_gd (y8 + (3 : Int32)) 360 (fun j23 => am_bd (f_X10_isTwo N (μ21.2 213 0 j23) μ21) (fun y25 μ24 => if y25 = 0 then (f_X10_things_197 N r_69 x1 x2 x3 x4 y8 μ24) else (f_X10_things_198 N r_69 x1 x2 x3 x4 y8 (1 : Int32) μ24))))))))))))))
def f_X10_things_110 (N : Nat) (r_69 : Int32 → Int32 → Int32 → Int32 → Int32 → am_M → Option (Int32 × am_M)) (x1 : Int32) (x2 : Int32) (x3 : Int32) (x4 : Int32) (μ : am_M) : Option (Int32 × am_M) :=
f_X10_things_111 N r_69 x1 x2 x3 x4 (0 : Int32) μ
def f_X10_things_69 (N : Nat) (r_69 : Int32 → Int32 → Int32 → Int32 → Int32 → am_M → Option (Int32 × am_M)) (x1 : Int32) (x2 : Int32) (x3 : Int32) (x4 : Int32) (x5 : Int32) (μ : am_M) : Option (Int32 × am_M) :=
if x5 = 0 then (some (x4, μ)) else (if x3 ≤ x4 then (some (x4, μ)) else (am_gd x1 6 (fun j7 => if (((μ.1 212 0 j7) - (4 : Int32)) - ((4 : Int32) * x4)) < x2 then (f_X10_things_110 N r_69 x1 x2 x3 x4 μ) else (if (6 : Int32) ≤ (μ.1 10 0 6) then (f_X10_things_110 N r_69 x1 x2 x3 x4 μ) else (f_X10_things_111 N r_69 x1 x2 x3 x4 (1 : Int32) μ)))))
def f_X10_things_69_lp (N : Nat) : Nat → Int32 → Int32 → Int32 → Int32 → Int32 → am_M → Option (Int32 × am_M)
  | 0, _, _, _, _, _, _ => none
  | n + 1, x1, x2, x3, x4, x5, μ => f_X10_things_69 N (f_X10_things_69_lp N n) x1 x2 x3 x4 x5 μ
def f_X10_things_67 (N : Nat) (x1 : Int32) (x2 : Int32) (x3 : Int32) (x4 : Int32) (s0 : Int32) (μ : am_M) : Option (Int32 × am_M) :=
f_X10_things_69_lp N N x1 x2 x3 x4 s0 μ
def f_X10_things_66 (N : Nat) (x1 : Int32) (x2 : Int32) (x3 : Int32) (x4 : Int32) (μ : am_M) : Option (Int32 × am_M) :=
f_X10_things_67 N x1 x2 x3 x4 (0 : Int32) μ
def f_X10_things_44 (N : Nat) (x1 : Int32) (x2 : Int32) (x3 : Int32) (μ : am_M) : Option (Int32 × am_M) :=
am_gd x1 6 (fun j6 => if (μ.1 211 0 j6) = (51 : Int32) then (if x2 < 0 then (f_X10_things_66 N x1 x2 x3 (0 : Int32) μ) else (f_X10_things_67 N x1 x2 x3 (0 : Int32) (1 : Int32) μ)) else (f_X10_things_66 N x1 x2 x3 (0 : Int32) μ))
def f_X10_things_0 (N : Nat) (a1 : Int32) (a2 : Int32) (a3 : Int32) (μ : am_M) : Option (Int32 × am_M) :=
am_bd (f_X10_isShelf N a1 μ) (fun y2 μ1 => if y2 = 0 then (some ((-1 : Int32), μ1)) else (am_bd (f_X10_within N a3.toInt64 (1 : Int64) (6 : Int64) μ1) (fun y4 μ3 => if y4 = 0 then (some ((-1 : Int32), μ3)) else (am_gd a1 6 (fun j5 => if (μ3.1 211 0 j5) < 0 then (f_X10_things_44 N a1 a2 a3 μ3) else (am_gd a1 6 (fun j26 => if (μ3.1 211 0 j26) = (51 : Int32) then (f_X10_things_44 N a1 a2 a3 μ3) else (some ((-12 : Int32), μ3)))))))))
def f_X10_things (N : Nat) (a1 : Int32) (a2 : Int32) (a3 : Int32) (μ : am_M) : Option (Int32 × am_M) := f_X10_things_0 N a1 a2 a3 μ
set_option maxHeartbeats 4000000 in
set_option maxRecDepth 100000 in
theorem p_X10_things_250 (G : am_G) (l : Launch) (d : Nat) (hd0 : 2 ≤ d) (N : Nat) (r_69 : Int32 → Int32 → Int32 → Int32 → Int32 → am_M → Option (Int32 × am_M)) (H_69 : ∀ (x1 : Int32) (x2 : Int32) (x3 : Int32) (x4 : Int32) (x5 : Int32) (μ : am_M), sm_P G l am_ci d me_X10_things 69 [(0, .ref (am_ad G 10 0)), (1, .int x1), (2, .int x2), (3, .int x3), (4, .int x4), (5, .int x5)] [] μ (r_69 x1 x2 x3 x4 x5 μ)) (x1 : Int32) (x2 : Int32) (x3 : Int32) (x4 : Int32) (x5 : Int32) (μ : am_M) : sm_P G l am_ci d me_X10_things 250 [(0, .ref (am_ad G 10 0)), (1, .int x1), (2, .int x2), (3, .int x3), (4, .int x4), (5, .int x5)] [] μ (f_X10_things_250 N r_69 x1 x2 x3 x4 x5 μ) := by
  unfold f_X10_things_250
  refine sm_goto (pc := 250) (tgt := 69) dX10_things_250 (by decide) ?_
  exact H_69 x1 x2 x3 x4 x5 μ
set_option maxHeartbeats 4000000 in
set_option maxRecDepth 100000 in
theorem p_X10_things_198 (G : am_G) (l : Launch) (d : Nat) (hd0 : 2 ≤ d) (N : Nat) (r_69 : Int32 → Int32 → Int32 → Int32 → Int32 → am_M → Option (Int32 × am_M)) (H_69 : ∀ (x1 : Int32) (x2 : Int32) (x3 : Int32) (x4 : Int32) (x5 : Int32) (μ : am_M), sm_P G l am_ci d me_X10_things 69 [(0, .ref (am_ad G 10 0)), (1, .int x1), (2, .int x2), (3, .int x3), (4, .int x4), (5, .int x5)] [] μ (r_69 x1 x2 x3 x4 x5 μ)) (x1 : Int32) (x2 : Int32) (x3 : Int32) (x4 : Int32) (x6 : Int32) (s0 : Int32) (μ : am_M) : sm_P G l am_ci d me_X10_things 198 [(0, .ref (am_ad G 10 0)), (1, .int x1), (2, .int x2), (3, .int x3), (4, .int x4), (6, .int x6)] [.int s0] μ (f_X10_things_198 N r_69 x1 x2 x3 x4 x6 s0 μ) := by
  unfold f_X10_things_198
  refine sm_istore (pc := 198) (lv' := [(5, .int s0), (0, .ref (am_ad G 10 0)), (1, .int x1), (2, .int x2), (3, .int x3), (4, .int x4), (6, .int x6)]) dX10_things_198 (by decide) rfl ?_
  refine sm_iload (pc := 200) dX10_things_200 0 rfl ?_
  refine sm_if_eq (pc := 202) (tgt := 250) dX10_things_202 (by decide) ?_ ?_
  · refine sm_sub [1, 2, 3, 4, 5, 0] rfl ?_
    exact p_X10_things_250 G l d hd0 N r_69 H_69 x1 x2 x3 x4 s0 μ
  · refine sm_aload_n (pc := 205) dX10_things_205 rfl 1 rfl ?_
    refine sm_aload_n (pc := 206) dX10_things_206 rfl 1 rfl ?_
    refine sm_getr (pc := 207) dX10_things_207 fi_X10_89 ?_
    refine sm_iload (pc := 210) dX10_things_210 6 rfl ?_
    refine sm_lald (pc := 212) dX10_things_212 ly_213 (by decide) (fun j9 hj9 => ?_)
    refine sm_l2i (pc := 213) dX10_things_213 ?_
    refine sm_aload_n (pc := 214) dX10_things_214 rfl 1 rfl ?_
    refine sm_getr (pc := 215) dX10_things_215 fi_X10_89 ?_
    refine sm_iload (pc := 218) dX10_things_218 6 rfl ?_
    refine sm_iconst (pc := 220) dX10_things_220 (v := 1) (by decide) ?_
    refine sm_iadd (pc := 221) dX10_things_221 ?_
    refine sm_lald (pc := 222) dX10_things_222 ly_213 (by decide) (fun j10 hj10 => ?_)
    refine sm_l2i (pc := 223) dX10_things_223 ?_
    refine sm_aload_n (pc := 224) dX10_things_224 rfl 1 rfl ?_
    refine sm_getr (pc := 225) dX10_things_225 fi_X10_89 ?_
    refine sm_iload (pc := 228) dX10_things_228 6 rfl ?_
    refine sm_iconst (pc := 230) dX10_things_230 (v := 2) (by decide) ?_
    refine sm_iadd (pc := 231) dX10_things_231 ?_
    refine sm_lald (pc := 232) dX10_things_232 ly_213 (by decide) (fun j11 hj11 => ?_)
    refine sm_l2i (pc := 233) dX10_things_233 ?_
    refine sm_aload_n (pc := 234) dX10_things_234 rfl 1 rfl ?_
    refine sm_getr (pc := 235) dX10_things_235 fi_X10_89 ?_
    refine sm_iload (pc := 238) dX10_things_238 6 rfl ?_
    refine sm_iconst (pc := 240) dX10_things_240 (v := 3) (by decide) ?_
    refine sm_iadd (pc := 241) dX10_things_241 ?_
    refine sm_lald (pc := 242) dX10_things_242 ly_213 (by decide) (fun j12 hj12 => ?_)
    refine sm_l2i (pc := 243) dX10_things_243 ?_
    refine sm_callVv (pc := 244) (As := [.int (μ.2 213 0 j9).toInt32, .int (μ.2 213 0 j10).toInt32, .int (μ.2 213 0 j11).toInt32, .int (μ.2 213 0 j12).toInt32]) (rest := []) dX10_things_244 (c_X10_adds G l N (μ.2 213 0 j9).toInt32 (μ.2 213 0 j10).toInt32 (μ.2 213 0 j11).toInt32 (μ.2 213 0 j12).toInt32 μ) (by omega) wl_X10_122 vm_X10_adds rfl rfl (Nat.le_of_ble_eq_true rfl) (fun _ μ13 => ?_)
    refine sm_iinc (pc := 247) (v := (x4 + (1 : Int32))) (lv' := [(4, .int (x4 + (1 : Int32))), (5, .int s0), (0, .ref (am_ad G 10 0)), (1, .int x1), (2, .int x2), (3, .int x3), (6, .int x6)]) dX10_things_247 5 rfl rfl (by decide) rfl ?_
    refine sm_sub [2, 3, 4, 5, 0, 1] rfl ?_
    exact p_X10_things_250 G l d hd0 N r_69 H_69 x1 x2 x3 (x4 + (1 : Int32)) s0 μ13
set_option maxHeartbeats 4000000 in
set_option maxRecDepth 100000 in
theorem p_X10_things_197 (G : am_G) (l : Launch) (d : Nat) (hd0 : 2 ≤ d) (N : Nat) (r_69 : Int32 → Int32 → Int32 → Int32 → Int32 → am_M → Option (Int32 × am_M)) (H_69 : ∀ (x1 : Int32) (x2 : Int32) (x3 : Int32) (x4 : Int32) (x5 : Int32) (μ : am_M), sm_P G l am_ci d me_X10_things 69 [(0, .ref (am_ad G 10 0)), (1, .int x1), (2, .int x2), (3, .int x3), (4, .int x4), (5, .int x5)] [] μ (r_69 x1 x2 x3 x4 x5 μ)) (x1 : Int32) (x2 : Int32) (x3 : Int32) (x4 : Int32) (x6 : Int32) (μ : am_M) : sm_P G l am_ci d me_X10_things 197 [(0, .ref (am_ad G 10 0)), (1, .int x1), (2, .int x2), (3, .int x3), (4, .int x4), (6, .int x6)] [] μ (f_X10_things_197 N r_69 x1 x2 x3 x4 x6 μ) := by
  unfold f_X10_things_197
  refine sm_iconst (pc := 197) dX10_things_197 (v := 0) (by decide) ?_
  exact p_X10_things_198 G l d hd0 N r_69 H_69 x1 x2 x3 x4 x6 (0 : Int32) μ
set_option maxHeartbeats 4000000 in
set_option maxRecDepth 100000 in
theorem p_X10_things_111 (G : am_G) (l : Launch) (d : Nat) (hd0 : 2 ≤ d) (N : Nat) (r_69 : Int32 → Int32 → Int32 → Int32 → Int32 → am_M → Option (Int32 × am_M)) (H_69 : ∀ (x1 : Int32) (x2 : Int32) (x3 : Int32) (x4 : Int32) (x5 : Int32) (μ : am_M), sm_P G l am_ci d me_X10_things 69 [(0, .ref (am_ad G 10 0)), (1, .int x1), (2, .int x2), (3, .int x3), (4, .int x4), (5, .int x5)] [] μ (r_69 x1 x2 x3 x4 x5 μ)) (x1 : Int32) (x2 : Int32) (x3 : Int32) (x4 : Int32) (s0 : Int32) (μ : am_M) : sm_P G l am_ci d me_X10_things 111 [(0, .ref (am_ad G 10 0)), (1, .int x1), (2, .int x2), (3, .int x3), (4, .int x4)] [.int s0] μ (f_X10_things_111 N r_69 x1 x2 x3 x4 s0 μ) := by
  unfold f_X10_things_111
  refine sm_istore (pc := 111) (lv' := [(5, .int s0), (0, .ref (am_ad G 10 0)), (1, .int x1), (2, .int x2), (3, .int x3), (4, .int x4)]) dX10_things_111 (by decide) rfl ?_
  refine sm_bipush (pc := 113) dX10_things_113 (v := 60) (by decide) ?_
  refine sm_iload_n (pc := 115) dX10_things_115 rfl 2 rfl ?_
  refine sm_imul (pc := 116) dX10_things_116 ?_
  refine sm_iload_n (pc := 117) dX10_things_117 rfl 3 rfl ?_
  refine sm_iadd (pc := 118) dX10_things_118 ?_
  refine sm_iconst (pc := 119) dX10_things_119 (v := 4) (by decide) ?_
  refine sm_iload (pc := 120) dX10_things_120 5 rfl ?_
  refine sm_imul (pc := 122) dX10_things_122 ?_
  refine sm_iadd (pc := 123) dX10_things_123 ?_
  refine sm_nmI (fun y8 => ?_)
  refine sm_istore (pc := 124) (lv' := [(6, .int y8), (5, .int s0), (0, .ref (am_ad G 10 0)), (1, .int x1), (2, .int x2), (3, .int x3), (4, .int x4)]) dX10_things_124 (by decide) rfl ?_
  refine sm_iload (pc := 126) dX10_things_126 1 rfl ?_
  refine sm_if_eq (pc := 128) (tgt := 197) dX10_things_128 (by decide) ?_ ?_
  · refine sm_sub [2, 3, 4, 5, 6, 0] rfl ?_
    exact p_X10_things_197 G l d hd0 N r_69 H_69 x1 x2 x3 x4 y8 μ
  · refine sm_aload_n (pc := 131) dX10_things_131 rfl 2 rfl ?_
    refine sm_getr (pc := 132) dX10_things_132 fi_X10_89 ?_
    refine sm_iload (pc := 135) dX10_things_135 0 rfl ?_
    refine sm_lald (pc := 137) dX10_things_137 ly_213 (by decide) (fun j14 hj14 => ?_)
    refine sm_lconst (pc := 138) dX10_things_138 (v := 0) (by decide) ?_
    refine sm_ldc2 (pc := 139) dX10_things_139 (v := 999) wk_X10_114 ?_
    refine sm_callSi (pc := 142) (As := [.long (μ.2 213 0 j14), .long (0 : Int64), .long (999 : Int64)]) (rest := []) dX10_things_142 (c_X10_within G l N (μ.2 213 0 j14) (0 : Int64) (999 : Int64) μ) (by omega) wl_X10_105 st_X10_within rfl rfl (Nat.le_of_ble_eq_true rfl) (fun y16 μ15 => ?_)
    refine sm_if_eq (pc := 145) (tgt := 197) dX10_things_145 (by decide) ?_ ?_
    · refine sm_sub [2, 3, 4, 5, 6, 0] rfl ?_
      exact p_X10_things_197 G l d hd0 N r_69 H_69 x1 x2 x3 x4 y8 μ15
    · refine sm_aload_n (pc := 148) dX10_things_148 rfl 2 rfl ?_
      refine sm_getr (pc := 149) dX10_things_149 fi_X10_89 ?_
      refine sm_iload (pc := 152) dX10_things_152 0 rfl ?_
      refine sm_iconst (pc := 154) dX10_things_154 (v := 1) (by decide) ?_
      refine sm_iadd (pc := 155) dX10_things_155 ?_
      refine sm_lald (pc := 156) dX10_things_156 ly_213 (by decide) (fun j17 hj17 => ?_)
      refine sm_callSi (pc := 157) (As := [.long (μ15.2 213 0 j17)]) (rest := []) dX10_things_157 (c_X10_isTwo G l N (μ15.2 213 0 j17) μ15) (by omega) wl_X10_118 st_X10_isTwo rfl rfl (Nat.le_of_ble_eq_true rfl) (fun y19 μ18 => ?_)
      refine sm_if_eq (pc := 160) (tgt := 197) dX10_things_160 (by decide) ?_ ?_
      · refine sm_sub [2, 3, 4, 5, 6, 0] rfl ?_
        exact p_X10_things_197 G l d hd0 N r_69 H_69 x1 x2 x3 x4 y8 μ18
      · refine sm_aload_n (pc := 163) dX10_things_163 rfl 2 rfl ?_
        refine sm_getr (pc := 164) dX10_things_164 fi_X10_89 ?_
        refine sm_iload (pc := 167) dX10_things_167 0 rfl ?_
        refine sm_iconst (pc := 169) dX10_things_169 (v := 2) (by decide) ?_
        refine sm_iadd (pc := 170) dX10_things_170 ?_
        refine sm_lald (pc := 171) dX10_things_171 ly_213 (by decide) (fun j20 hj20 => ?_)
        refine sm_callSi (pc := 172) (As := [.long (μ18.2 213 0 j20)]) (rest := []) dX10_things_172 (c_X10_isTwo G l N (μ18.2 213 0 j20) μ18) (by omega) wl_X10_118 st_X10_isTwo rfl rfl (Nat.le_of_ble_eq_true rfl) (fun y22 μ21 => ?_)
        refine sm_if_eq (pc := 175) (tgt := 197) dX10_things_175 (by decide) ?_ ?_
        · refine sm_sub [2, 3, 4, 5, 6, 0] rfl ?_
          exact p_X10_things_197 G l d hd0 N r_69 H_69 x1 x2 x3 x4 y8 μ21
        · refine sm_aload_n (pc := 178) dX10_things_178 rfl 2 rfl ?_
          refine sm_getr (pc := 179) dX10_things_179 fi_X10_89 ?_
          refine sm_iload (pc := 182) dX10_things_182 0 rfl ?_
          refine sm_iconst (pc := 184) dX10_things_184 (v := 3) (by decide) ?_
          refine sm_iadd (pc := 185) dX10_things_185 ?_
          refine sm_lald (pc := 186) dX10_things_186 ly_213 (by decide) (fun j23 hj23 => ?_)
          refine sm_callSi (pc := 187) (As := [.long (μ21.2 213 0 j23)]) (rest := []) dX10_things_187 (c_X10_isTwo G l N (μ21.2 213 0 j23) μ21) (by omega) wl_X10_118 st_X10_isTwo rfl rfl (Nat.le_of_ble_eq_true rfl) (fun y25 μ24 => ?_)
          refine sm_if_eq (pc := 190) (tgt := 197) dX10_things_190 (by decide) ?_ ?_
          · refine sm_sub [2, 3, 4, 5, 6, 0] rfl ?_
            exact p_X10_things_197 G l d hd0 N r_69 H_69 x1 x2 x3 x4 y8 μ24
          · refine sm_iconst (pc := 193) dX10_things_193 (v := 1) (by decide) ?_
            refine sm_goto (pc := 194) (tgt := 198) dX10_things_194 (by decide) ?_
            refine sm_sub [2, 3, 4, 5, 6, 0] rfl ?_
            exact p_X10_things_198 G l d hd0 N r_69 H_69 x1 x2 x3 x4 y8 (1 : Int32) μ24
set_option maxHeartbeats 4000000 in
set_option maxRecDepth 100000 in
theorem p_X10_things_110 (G : am_G) (l : Launch) (d : Nat) (hd0 : 2 ≤ d) (N : Nat) (r_69 : Int32 → Int32 → Int32 → Int32 → Int32 → am_M → Option (Int32 × am_M)) (H_69 : ∀ (x1 : Int32) (x2 : Int32) (x3 : Int32) (x4 : Int32) (x5 : Int32) (μ : am_M), sm_P G l am_ci d me_X10_things 69 [(0, .ref (am_ad G 10 0)), (1, .int x1), (2, .int x2), (3, .int x3), (4, .int x4), (5, .int x5)] [] μ (r_69 x1 x2 x3 x4 x5 μ)) (x1 : Int32) (x2 : Int32) (x3 : Int32) (x4 : Int32) (μ : am_M) : sm_P G l am_ci d me_X10_things 110 [(0, .ref (am_ad G 10 0)), (1, .int x1), (2, .int x2), (3, .int x3), (4, .int x4)] [] μ (f_X10_things_110 N r_69 x1 x2 x3 x4 μ) := by
  unfold f_X10_things_110
  refine sm_iconst (pc := 110) dX10_things_110 (v := 0) (by decide) ?_
  exact p_X10_things_111 G l d hd0 N r_69 H_69 x1 x2 x3 x4 (0 : Int32) μ
set_option maxHeartbeats 4000000 in
set_option maxRecDepth 100000 in
theorem p_X10_things_69 (G : am_G) (l : Launch) (d : Nat) (hd0 : 2 ≤ d) (N : Nat) (r_69 : Int32 → Int32 → Int32 → Int32 → Int32 → am_M → Option (Int32 × am_M)) (H_69 : ∀ (x1 : Int32) (x2 : Int32) (x3 : Int32) (x4 : Int32) (x5 : Int32) (μ : am_M), sm_P G l am_ci d me_X10_things 69 [(0, .ref (am_ad G 10 0)), (1, .int x1), (2, .int x2), (3, .int x3), (4, .int x4), (5, .int x5)] [] μ (r_69 x1 x2 x3 x4 x5 μ)) (x1 : Int32) (x2 : Int32) (x3 : Int32) (x4 : Int32) (x5 : Int32) (μ : am_M) : sm_P G l am_ci d me_X10_things 69 [(0, .ref (am_ad G 10 0)), (1, .int x1), (2, .int x2), (3, .int x3), (4, .int x4), (5, .int x5)] [] μ (f_X10_things_69 N r_69 x1 x2 x3 x4 x5 μ) := by
  unfold f_X10_things_69
  refine sm_iload (pc := 69) dX10_things_69 5 rfl ?_
  refine sm_if_eq (pc := 71) (tgt := 253) dX10_things_71 (by decide) ?_ ?_
  · refine sm_iload (pc := 253) dX10_things_253 4 rfl ?_
    exact sm_iret (pc := 255) dX10_things_255 rfl
  · refine sm_iload (pc := 74) dX10_things_74 4 rfl ?_
    refine sm_iload_n (pc := 76) dX10_things_76 rfl 3 rfl ?_
    refine sm_icmp_ge (pc := 77) (tgt := 253) dX10_things_77 (by decide) ?_ ?_
    · refine sm_iload (pc := 253) dX10_things_253 4 rfl ?_
      exact sm_iret (pc := 255) dX10_things_255 rfl
    · refine sm_iload_n (pc := 80) dX10_things_80 rfl 2 rfl ?_
      refine sm_aload_n (pc := 81) dX10_things_81 rfl 0 rfl ?_
      refine sm_getr (pc := 82) dX10_things_82 fi_X10_86 ?_
      refine sm_iload_n (pc := 85) dX10_things_85 rfl 1 rfl ?_
      refine sm_iald (pc := 86) dX10_things_86 ly_212 (by decide) (fun j7 hj7 => ?_)
      refine sm_iconst (pc := 87) dX10_things_87 (v := 4) (by decide) ?_
      refine sm_isub (pc := 88) dX10_things_88 ?_
      refine sm_iconst (pc := 89) dX10_things_89 (v := 4) (by decide) ?_
      refine sm_iload (pc := 90) dX10_things_90 4 rfl ?_
      refine sm_imul (pc := 92) dX10_things_92 ?_
      refine sm_isub (pc := 93) dX10_things_93 ?_
      refine sm_icmp_gt (pc := 94) (tgt := 110) dX10_things_94 (by decide) ?_ ?_
      · refine sm_sub [0, 1, 2, 3, 4] rfl ?_
        exact p_X10_things_110 G l d hd0 N r_69 H_69 x1 x2 x3 x4 μ
      · refine sm_aload_n (pc := 97) dX10_things_97 rfl 0 rfl ?_
        refine sm_geti (pc := 98) dX10_things_98 fi_X10_102 ?_
        refine sm_bipush (pc := 101) dX10_things_101 (v := 6) (by decide) ?_
        refine sm_icmp_ge (pc := 103) (tgt := 110) dX10_things_103 (by decide) ?_ ?_
        · refine sm_sub [0, 1, 2, 3, 4] rfl ?_
          exact p_X10_things_110 G l d hd0 N r_69 H_69 x1 x2 x3 x4 μ
        · refine sm_iconst (pc := 106) dX10_things_106 (v := 1) (by decide) ?_
          refine sm_goto (pc := 107) (tgt := 111) dX10_things_107 (by decide) ?_
          refine sm_sub [0, 1, 2, 3, 4] rfl ?_
          exact p_X10_things_111 G l d hd0 N r_69 H_69 x1 x2 x3 x4 (1 : Int32) μ
theorem p_X10_things_69_lp (G : am_G) (l : Launch) (d : Nat) (hd0 : 2 ≤ d) (N : Nat) : ∀ (n : Nat) (x1 : Int32) (x2 : Int32) (x3 : Int32) (x4 : Int32) (x5 : Int32) (μ : am_M), sm_P G l am_ci d me_X10_things 69 [(0, .ref (am_ad G 10 0)), (1, .int x1), (2, .int x2), (3, .int x3), (4, .int x4), (5, .int x5)] [] μ (f_X10_things_69_lp N n x1 x2 x3 x4 x5 μ) := by
  intro n
  induction n with
  | zero => intros; exact sm_none
  | succ n ih => exact fun x1 x2 x3 x4 x5 μ => p_X10_things_69 G l d hd0 N (f_X10_things_69_lp N n) ih x1 x2 x3 x4 x5 μ
set_option maxHeartbeats 4000000 in
set_option maxRecDepth 100000 in
theorem p_X10_things_67 (G : am_G) (l : Launch) (d : Nat) (hd0 : 2 ≤ d) (N : Nat) (x1 : Int32) (x2 : Int32) (x3 : Int32) (x4 : Int32) (s0 : Int32) (μ : am_M) : sm_P G l am_ci d me_X10_things 67 [(0, .ref (am_ad G 10 0)), (1, .int x1), (2, .int x2), (3, .int x3), (4, .int x4)] [.int s0] μ (f_X10_things_67 N x1 x2 x3 x4 s0 μ) := by
  unfold f_X10_things_67
  refine sm_istore (pc := 67) (lv' := [(5, .int s0), (0, .ref (am_ad G 10 0)), (1, .int x1), (2, .int x2), (3, .int x3), (4, .int x4)]) dX10_things_67 (by decide) rfl ?_
  refine sm_sub [1, 2, 3, 4, 5, 0] rfl ?_
  exact p_X10_things_69_lp G l d hd0 N N x1 x2 x3 x4 s0 μ
set_option maxHeartbeats 4000000 in
set_option maxRecDepth 100000 in
theorem p_X10_things_66 (G : am_G) (l : Launch) (d : Nat) (hd0 : 2 ≤ d) (N : Nat) (x1 : Int32) (x2 : Int32) (x3 : Int32) (x4 : Int32) (μ : am_M) : sm_P G l am_ci d me_X10_things 66 [(0, .ref (am_ad G 10 0)), (1, .int x1), (2, .int x2), (3, .int x3), (4, .int x4)] [] μ (f_X10_things_66 N x1 x2 x3 x4 μ) := by
  unfold f_X10_things_66
  refine sm_iconst (pc := 66) dX10_things_66 (v := 0) (by decide) ?_
  exact p_X10_things_67 G l d hd0 N x1 x2 x3 x4 (0 : Int32) μ
set_option maxHeartbeats 4000000 in
set_option maxRecDepth 100000 in
theorem p_X10_things_44 (G : am_G) (l : Launch) (d : Nat) (hd0 : 2 ≤ d) (N : Nat) (x1 : Int32) (x2 : Int32) (x3 : Int32) (μ : am_M) : sm_P G l am_ci d me_X10_things 44 [(0, .ref (am_ad G 10 0)), (1, .int x1), (2, .int x2), (3, .int x3)] [] μ (f_X10_things_44 N x1 x2 x3 μ) := by
  unfold f_X10_things_44
  refine sm_iconst (pc := 44) dX10_things_44 (v := 0) (by decide) ?_
  refine sm_istore (pc := 45) (lv' := [(4, .int (0 : Int32)), (0, .ref (am_ad G 10 0)), (1, .int x1), (2, .int x2), (3, .int x3)]) dX10_things_45 (by decide) rfl ?_
  refine sm_aload_n (pc := 47) dX10_things_47 rfl 1 rfl ?_
  refine sm_getr (pc := 48) dX10_things_48 fi_X10_83 ?_
  refine sm_iload_n (pc := 51) dX10_things_51 rfl 2 rfl ?_
  refine sm_iald (pc := 52) dX10_things_52 ly_211 (by decide) (fun j6 hj6 => ?_)
  refine sm_bipush (pc := 53) dX10_things_53 (v := 51) (by decide) ?_
  refine sm_icmp_ne (pc := 55) (tgt := 66) dX10_things_55 (by decide) ?_ ?_
  · refine sm_sub [1, 2, 3, 4, 0] rfl ?_
    exact p_X10_things_66 G l d hd0 N x1 x2 x3 (0 : Int32) μ
  · refine sm_iload_n (pc := 58) dX10_things_58 rfl 3 rfl ?_
    refine sm_if_lt (pc := 59) (tgt := 66) dX10_things_59 (by decide) ?_ ?_
    · refine sm_sub [1, 2, 3, 4, 0] rfl ?_
      exact p_X10_things_66 G l d hd0 N x1 x2 x3 (0 : Int32) μ
    · refine sm_iconst (pc := 62) dX10_things_62 (v := 1) (by decide) ?_
      refine sm_goto (pc := 63) (tgt := 67) dX10_things_63 (by decide) ?_
      refine sm_sub [1, 2, 3, 4, 0] rfl ?_
      exact p_X10_things_67 G l d hd0 N x1 x2 x3 (0 : Int32) (1 : Int32) μ
set_option maxHeartbeats 4000000 in
set_option maxRecDepth 100000 in
theorem p_X10_things_0 (G : am_G) (l : Launch) (d : Nat) (hd0 : 2 ≤ d) (N : Nat) (a1 : Int32) (a2 : Int32) (a3 : Int32) (μ : am_M) : sm_P G l am_ci d me_X10_things 0 [(0, .ref (am_ad G 10 0)), (1, .int a1), (2, .int a2), (3, .int a3)] [] μ (f_X10_things_0 N a1 a2 a3 μ) := by
  unfold f_X10_things_0
  refine sm_iload_n (pc := 0) dX10_things_0 rfl 1 rfl ?_
  refine sm_callSi (pc := 1) (As := [.int a1]) (rest := []) dX10_things_1 (c_X10_isShelf G l N a1 μ) (by omega) wl_X10_126 st_X10_isShelf rfl rfl (Nat.le_of_ble_eq_true rfl) (fun y2 μ1 => ?_)
  refine sm_if_eq (pc := 4) (tgt := 19) dX10_things_4 (by decide) ?_ ?_
  · refine sm_iconst (pc := 19) dX10_things_19 (v := -1) (by decide) ?_
    exact sm_iret (pc := 20) dX10_things_20 rfl
  · refine sm_iload_n (pc := 7) dX10_things_7 rfl 3 rfl ?_
    refine sm_i2l (pc := 8) dX10_things_8 ?_
    refine sm_lconst (pc := 9) dX10_things_9 (v := 1) (by decide) ?_
    refine sm_ldc2 (pc := 10) dX10_things_10 (v := 6) wk_X10_130 ?_
    refine sm_callSi (pc := 13) (As := [.long a3.toInt64, .long (1 : Int64), .long (6 : Int64)]) (rest := []) dX10_things_13 (c_X10_within G l N a3.toInt64 (1 : Int64) (6 : Int64) μ1) (by omega) wl_X10_105 st_X10_within rfl rfl (Nat.le_of_ble_eq_true rfl) (fun y4 μ3 => ?_)
    refine sm_if_ne (pc := 16) (tgt := 21) dX10_things_16 (by decide) ?_ ?_
    · refine sm_aload_n (pc := 21) dX10_things_21 rfl 0 rfl ?_
      refine sm_getr (pc := 22) dX10_things_22 fi_X10_83 ?_
      refine sm_iload_n (pc := 25) dX10_things_25 rfl 1 rfl ?_
      refine sm_iald (pc := 26) dX10_things_26 ly_211 (by decide) (fun j5 hj5 => ?_)
      refine sm_if_lt (pc := 27) (tgt := 44) dX10_things_27 (by decide) ?_ ?_
      · exact p_X10_things_44 G l d hd0 N a1 a2 a3 μ3
      · refine sm_aload_n (pc := 30) dX10_things_30 rfl 0 rfl ?_
        refine sm_getr (pc := 31) dX10_things_31 fi_X10_83 ?_
        refine sm_iload_n (pc := 34) dX10_things_34 rfl 1 rfl ?_
        refine sm_iald (pc := 35) dX10_things_35 ly_211 (by decide) (fun j26 hj26 => ?_)
        refine sm_bipush (pc := 36) dX10_things_36 (v := 51) (by decide) ?_
        refine sm_icmp_eq (pc := 38) (tgt := 44) dX10_things_38 (by decide) ?_ ?_
        · exact p_X10_things_44 G l d hd0 N a1 a2 a3 μ3
        · refine sm_bipush (pc := 41) dX10_things_41 (v := -12) (by decide) ?_
          exact sm_iret (pc := 43) dX10_things_43 rfl
    · refine sm_iconst (pc := 19) dX10_things_19 (v := -1) (by decide) ?_
      exact sm_iret (pc := 20) dX10_things_20 rfl
theorem c_X10_things (G : am_G) (l : Launch) (N : Nat) (a1 : Int32) (a2 : Int32) (a3 : Int32) (μ : am_M) : ct_P G l am_ci 2 me_X10_things [.ref (am_ad G 10 0), .int a1, .int a2, .int a3] μ (f_X10_things N a1 a2 a3 μ) := ct_of (by decide +kernel) (Nat.le_of_ble_eq_true rfl) rfl (p_X10_things_0 G l 2 (Nat.le_refl _) N a1 a2 a3 μ)

def f_X10_mend_36 (N : Nat) (x1 : Int32) (x2 : Int32) (x3 : Int32) (s0 : Int64) (s1 : Int64) (s2 : Int64) (μ : am_M) : Option (Int32 × am_M) :=
am_bd (f_X10_within N s2 s1 s0 μ) (fun y6 μ5 => if y6 = 0 then (some ((-1 : Int32), μ5)) else (am_bd (f_X10_becomes N (((6 : Int32) * x2) + x1) x3 μ5) (fun y8 μ7 => some (y8, μ7))))
def f_X10_mend_0 (N : Nat) (a1 : Int32) (a2 : Int32) (a3 : Int32) (μ : am_M) : Option (Int32 × am_M) :=
am_bd (f_X10_isThing N a1 μ) (fun y2 μ1 => if y2 = 0 then (some ((-1 : Int32), μ1)) else (am_bd (f_X10_within N a2.toInt64 (0 : Int64) (2 : Int64) μ1) (fun y4 μ3 => if y4 = 0 then (some ((-1 : Int32), μ3)) else (if a2 = 0 then (f_X10_mend_36 N a1 a2 a3 (999 : Int64) (0 : Int64) a3.toInt64 μ3) else (f_X10_mend_36 N a1 a2 a3 (99 : Int64) (0 : Int64) a3.toInt64 μ3)))))
def f_X10_mend (N : Nat) (a1 : Int32) (a2 : Int32) (a3 : Int32) (μ : am_M) : Option (Int32 × am_M) := f_X10_mend_0 N a1 a2 a3 μ
set_option maxHeartbeats 4000000 in
set_option maxRecDepth 100000 in
theorem p_X10_mend_36 (G : am_G) (l : Launch) (d : Nat) (hd0 : 2 ≤ d) (N : Nat) (x1 : Int32) (x2 : Int32) (x3 : Int32) (s0 : Int64) (s1 : Int64) (s2 : Int64) (μ : am_M) : sm_P G l am_ci d me_X10_mend 36 [(0, .ref (am_ad G 10 0)), (1, .int x1), (2, .int x2), (3, .int x3)] [.long s0, .long s1, .long s2] μ (f_X10_mend_36 N x1 x2 x3 s0 s1 s2 μ) := by
  unfold f_X10_mend_36
  refine sm_callSi (pc := 36) (As := [.long s2, .long s1, .long s0]) (rest := []) dX10_mend_36 (c_X10_within G l N s2 s1 s0 μ) (by omega) wl_X10_105 st_X10_within rfl rfl (Nat.le_of_ble_eq_true rfl) (fun y6 μ5 => ?_)
  refine sm_if_eq (pc := 39) (tgt := 56) dX10_mend_39 (by decide) ?_ ?_
  · refine sm_iconst (pc := 56) dX10_mend_56 (v := -1) (by decide) ?_
    exact sm_iret (pc := 57) dX10_mend_57 rfl
  · refine sm_aload_n (pc := 42) dX10_mend_42 rfl 0 rfl ?_
    refine sm_bipush (pc := 43) dX10_mend_43 (v := 6) (by decide) ?_
    refine sm_iload_n (pc := 45) dX10_mend_45 rfl 2 rfl ?_
    refine sm_imul (pc := 46) dX10_mend_46 ?_
    refine sm_iload_n (pc := 47) dX10_mend_47 rfl 1 rfl ?_
    refine sm_iadd (pc := 48) dX10_mend_48 ?_
    refine sm_iload_n (pc := 49) dX10_mend_49 rfl 3 rfl ?_
    refine sm_callVi (pc := 50) (As := [.int (((6 : Int32) * x2) + x1), .int x3]) (rest := []) dX10_mend_50 (c_X10_becomes G l N (((6 : Int32) * x2) + x1) x3 μ5) (by omega) wl_X10_137 vm_X10_becomes rfl rfl (Nat.le_of_ble_eq_true rfl) (fun y8 μ7 => ?_)
    refine sm_goto (pc := 53) (tgt := 57) dX10_mend_53 (by decide) ?_
    exact sm_iret (pc := 57) dX10_mend_57 rfl
set_option maxHeartbeats 4000000 in
set_option maxRecDepth 100000 in
theorem p_X10_mend_0 (G : am_G) (l : Launch) (d : Nat) (hd0 : 2 ≤ d) (N : Nat) (a1 : Int32) (a2 : Int32) (a3 : Int32) (μ : am_M) : sm_P G l am_ci d me_X10_mend 0 [(0, .ref (am_ad G 10 0)), (1, .int a1), (2, .int a2), (3, .int a3)] [] μ (f_X10_mend_0 N a1 a2 a3 μ) := by
  unfold f_X10_mend_0
  refine sm_aload_n (pc := 0) dX10_mend_0 rfl 0 rfl ?_
  refine sm_iload_n (pc := 1) dX10_mend_1 rfl 1 rfl ?_
  refine sm_callVi (pc := 2) (As := [.int a1]) (rest := []) dX10_mend_2 (c_X10_isThing G l N a1 μ) (by omega) wl_X10_132 vm_X10_isThing rfl rfl (Nat.le_of_ble_eq_true rfl) (fun y2 μ1 => ?_)
  refine sm_if_eq (pc := 5) (tgt := 56) dX10_mend_5 (by decide) ?_ ?_
  · refine sm_iconst (pc := 56) dX10_mend_56 (v := -1) (by decide) ?_
    exact sm_iret (pc := 57) dX10_mend_57 rfl
  · refine sm_iload_n (pc := 8) dX10_mend_8 rfl 2 rfl ?_
    refine sm_i2l (pc := 9) dX10_mend_9 ?_
    refine sm_lconst (pc := 10) dX10_mend_10 (v := 0) (by decide) ?_
    refine sm_ldc2 (pc := 11) dX10_mend_11 (v := 2) wk_X10_135 ?_
    refine sm_callSi (pc := 14) (As := [.long a2.toInt64, .long (0 : Int64), .long (2 : Int64)]) (rest := []) dX10_mend_14 (c_X10_within G l N a2.toInt64 (0 : Int64) (2 : Int64) μ1) (by omega) wl_X10_105 st_X10_within rfl rfl (Nat.le_of_ble_eq_true rfl) (fun y4 μ3 => ?_)
    refine sm_if_eq (pc := 17) (tgt := 56) dX10_mend_17 (by decide) ?_ ?_
    · refine sm_iconst (pc := 56) dX10_mend_56 (v := -1) (by decide) ?_
      exact sm_iret (pc := 57) dX10_mend_57 rfl
    · refine sm_iload_n (pc := 20) dX10_mend_20 rfl 3 rfl ?_
      refine sm_i2l (pc := 21) dX10_mend_21 ?_
      refine sm_lconst (pc := 22) dX10_mend_22 (v := 0) (by decide) ?_
      refine sm_iload_n (pc := 23) dX10_mend_23 rfl 2 rfl ?_
      refine sm_if_ne (pc := 24) (tgt := 33) dX10_mend_24 (by decide) ?_ ?_
      · refine sm_ldc2 (pc := 33) dX10_mend_33 (v := 99) wk_X10_112 ?_
        exact p_X10_mend_36 G l d hd0 N a1 a2 a3 (99 : Int64) (0 : Int64) a3.toInt64 μ3
      · refine sm_ldc2 (pc := 27) dX10_mend_27 (v := 999) wk_X10_114 ?_
        refine sm_goto (pc := 30) (tgt := 36) dX10_mend_30 (by decide) ?_
        exact p_X10_mend_36 G l d hd0 N a1 a2 a3 (999 : Int64) (0 : Int64) a3.toInt64 μ3
theorem c_X10_mend (G : am_G) (l : Launch) (N : Nat) (a1 : Int32) (a2 : Int32) (a3 : Int32) (μ : am_M) : ct_P G l am_ci 2 me_X10_mend [.ref (am_ad G 10 0), .int a1, .int a2, .int a3] μ (f_X10_mend N a1 a2 a3 μ) := ct_of (by decide +kernel) (Nat.le_of_ble_eq_true rfl) rfl (p_X10_mend_0 G l 2 (Nat.le_refl _) N a1 a2 a3 μ)

def f_X10_sort_0 (N : Nat) (a1 : Int32) (a2 : Int32) (a3 : Int32) (μ : am_M) : Option (Int32 × am_M) :=
am_bd (f_X10_within N a1.toInt64 (1 : Int64) (99 : Int64) μ) (fun y2 μ1 => if y2 = 0 then (some ((-1 : Int32), μ1)) else (am_bd (f_X10_within N a2.toInt64 (0 : Int64) (9999 : Int64) μ1) (fun y4 μ3 => if y4 = 0 then (some ((-1 : Int32), μ3)) else (if a3 < 0 then (some ((-1 : Int32), μ3)) else (if (3 : Int32) < (a3 / (10 : Int32)) then (some ((-1 : Int32), μ3)) else (if (am_rem a3 (10 : Int32)) < (μ3.1 10 0 15) then (if (μ3.1 10 0 8) = (5 : Int32) then (some ((-3 : Int32), μ3)) else (am_gd (μ3.1 10 0 8) 5 (fun j5 => am_nm (am_ui μ3 169 0 j5 a1) (fun μ6 => am_gd ((18 : Int32) + (μ6.1 10 0 8)) 28 (fun j7 => am_nm (am_ui μ6 160 0 j7 (a2 / (100 : Int32))) (fun μ8 => am_gd ((23 : Int32) + (μ8.1 10 0 8)) 28 (fun j9 => am_nm (am_ui μ8 160 0 j9 (am_rem a2 (100 : Int32))) (fun μ10 => am_gd (μ10.1 10 0 8) 5 (fun j11 => am_nm (am_ui μ10 170 0 j11 (a3 / (10 : Int32))) (fun μ12 => am_gd (μ12.1 10 0 8) 5 (fun j13 => am_nm (am_ui μ12 171 0 j13 (am_rem a3 (10 : Int32))) (fun μ14 => am_gd (μ14.1 10 0 8) 5 (fun j15 => am_nm (am_ui μ14 172 0 j15 (0 : Int32)) (fun μ16 => am_nm (am_ui μ16 10 0 8 ((μ16.1 10 0 8) + (1 : Int32))) (fun μ17 => some (((μ17.1 10 0 8) - (1 : Int32)), μ17)))))))))))))))) else (some ((-1 : Int32), μ3))))))))
def f_X10_sort (N : Nat) (a1 : Int32) (a2 : Int32) (a3 : Int32) (μ : am_M) : Option (Int32 × am_M) := f_X10_sort_0 N a1 a2 a3 μ
set_option maxHeartbeats 4000000 in
set_option maxRecDepth 100000 in
theorem p_X10_sort_0 (G : am_G) (l : Launch) (d : Nat) (hd0 : 1 ≤ d) (N : Nat) (a1 : Int32) (a2 : Int32) (a3 : Int32) (μ : am_M) : sm_P G l am_ci d me_X10_sort 0 [(0, .ref (am_ad G 10 0)), (1, .int a1), (2, .int a2), (3, .int a3)] [] μ (f_X10_sort_0 N a1 a2 a3 μ) := by
  unfold f_X10_sort_0
  refine sm_iload_n (pc := 0) dX10_sort_0 rfl 1 rfl ?_
  refine sm_i2l (pc := 1) dX10_sort_1 ?_
  refine sm_lconst (pc := 2) dX10_sort_2 (v := 1) (by decide) ?_
  refine sm_ldc2 (pc := 3) dX10_sort_3 (v := 99) wk_X10_112 ?_
  refine sm_callSi (pc := 6) (As := [.long a1.toInt64, .long (1 : Int64), .long (99 : Int64)]) (rest := []) dX10_sort_6 (c_X10_within G l N a1.toInt64 (1 : Int64) (99 : Int64) μ) (by omega) wl_X10_105 st_X10_within rfl rfl (Nat.le_of_ble_eq_true rfl) (fun y2 μ1 => ?_)
  refine sm_if_eq (pc := 9) (tgt := 47) dX10_sort_9 (by decide) ?_ ?_
  · refine sm_iconst (pc := 47) dX10_sort_47 (v := -1) (by decide) ?_
    exact sm_iret (pc := 48) dX10_sort_48 rfl
  · refine sm_iload_n (pc := 12) dX10_sort_12 rfl 2 rfl ?_
    refine sm_i2l (pc := 13) dX10_sort_13 ?_
    refine sm_lconst (pc := 14) dX10_sort_14 (v := 0) (by decide) ?_
    refine sm_ldc2 (pc := 15) dX10_sort_15 (v := 9999) wk_X10_116 ?_
    refine sm_callSi (pc := 18) (As := [.long a2.toInt64, .long (0 : Int64), .long (9999 : Int64)]) (rest := []) dX10_sort_18 (c_X10_within G l N a2.toInt64 (0 : Int64) (9999 : Int64) μ1) (by omega) wl_X10_105 st_X10_within rfl rfl (Nat.le_of_ble_eq_true rfl) (fun y4 μ3 => ?_)
    refine sm_if_eq (pc := 21) (tgt := 47) dX10_sort_21 (by decide) ?_ ?_
    · refine sm_iconst (pc := 47) dX10_sort_47 (v := -1) (by decide) ?_
      exact sm_iret (pc := 48) dX10_sort_48 rfl
    · refine sm_iload_n (pc := 24) dX10_sort_24 rfl 3 rfl ?_
      refine sm_if_lt (pc := 25) (tgt := 47) dX10_sort_25 (by decide) ?_ ?_
      · refine sm_iconst (pc := 47) dX10_sort_47 (v := -1) (by decide) ?_
        exact sm_iret (pc := 48) dX10_sort_48 rfl
      · refine sm_iload_n (pc := 28) dX10_sort_28 rfl 3 rfl ?_
        refine sm_bipush (pc := 29) dX10_sort_29 (v := 10) (by decide) ?_
        refine sm_idivc (pc := 31) dX10_sort_31 (by decide) ?_
        refine sm_iconst (pc := 32) dX10_sort_32 (v := 3) (by decide) ?_
        refine sm_icmp_gt (pc := 33) (tgt := 47) dX10_sort_33 (by decide) ?_ ?_
        · refine sm_iconst (pc := 47) dX10_sort_47 (v := -1) (by decide) ?_
          exact sm_iret (pc := 48) dX10_sort_48 rfl
        · refine sm_iload_n (pc := 36) dX10_sort_36 rfl 3 rfl ?_
          refine sm_bipush (pc := 37) dX10_sort_37 (v := 10) (by decide) ?_
          refine sm_iremc (pc := 39) dX10_sort_39 (by decide) ?_
          refine sm_aload_n (pc := 40) dX10_sort_40 rfl 0 rfl ?_
          refine sm_geti (pc := 41) dX10_sort_41 fi_X10_141 ?_
          refine sm_icmp_lt (pc := 44) (tgt := 49) dX10_sort_44 (by decide) ?_ ?_
          · refine sm_aload_n (pc := 49) dX10_sort_49 rfl 0 rfl ?_
            refine sm_geti (pc := 50) dX10_sort_50 fi_X10_109 ?_
            refine sm_iconst (pc := 53) dX10_sort_53 (v := 5) (by decide) ?_
            refine sm_icmp_ne (pc := 54) (tgt := 60) dX10_sort_54 (by decide) ?_ ?_
            · refine sm_aload_n (pc := 60) dX10_sort_60 rfl 0 rfl ?_
              refine sm_getr (pc := 61) dX10_sort_61 fi_X10_25 ?_
              refine sm_aload_n (pc := 64) dX10_sort_64 rfl 0 rfl ?_
              refine sm_geti (pc := 65) dX10_sort_65 fi_X10_109 ?_
              refine sm_iload_n (pc := 68) dX10_sort_68 rfl 1 rfl ?_
              refine sm_iast (pc := 69) dX10_sort_69 ly_169 (by decide) (fun j5 hj5 => ?_)
              refine sm_nmM (fun μ6 => ?_)
              refine sm_aload_n (pc := 70) dX10_sort_70 rfl 0 rfl ?_
              refine sm_getr (pc := 71) dX10_sort_71 fi_X10_9 ?_
              refine sm_bipush (pc := 74) dX10_sort_74 (v := 18) (by decide) ?_
              refine sm_aload_n (pc := 76) dX10_sort_76 rfl 0 rfl ?_
              refine sm_geti (pc := 77) dX10_sort_77 fi_X10_109 ?_
              refine sm_iadd (pc := 80) dX10_sort_80 ?_
              refine sm_iload_n (pc := 81) dX10_sort_81 rfl 2 rfl ?_
              refine sm_bipush (pc := 82) dX10_sort_82 (v := 100) (by decide) ?_
              refine sm_idivc (pc := 84) dX10_sort_84 (by decide) ?_
              refine sm_iast (pc := 85) dX10_sort_85 ly_160 (by decide) (fun j7 hj7 => ?_)
              refine sm_nmM (fun μ8 => ?_)
              refine sm_aload_n (pc := 86) dX10_sort_86 rfl 0 rfl ?_
              refine sm_getr (pc := 87) dX10_sort_87 fi_X10_9 ?_
              refine sm_bipush (pc := 90) dX10_sort_90 (v := 23) (by decide) ?_
              refine sm_aload_n (pc := 92) dX10_sort_92 rfl 0 rfl ?_
              refine sm_geti (pc := 93) dX10_sort_93 fi_X10_109 ?_
              refine sm_iadd (pc := 96) dX10_sort_96 ?_
              refine sm_iload_n (pc := 97) dX10_sort_97 rfl 2 rfl ?_
              refine sm_bipush (pc := 98) dX10_sort_98 (v := 100) (by decide) ?_
              refine sm_iremc (pc := 100) dX10_sort_100 (by decide) ?_
              refine sm_iast (pc := 101) dX10_sort_101 ly_160 (by decide) (fun j9 hj9 => ?_)
              refine sm_nmM (fun μ10 => ?_)
              refine sm_aload_n (pc := 102) dX10_sort_102 rfl 0 rfl ?_
              refine sm_getr (pc := 103) dX10_sort_103 fi_X10_28 ?_
              refine sm_aload_n (pc := 106) dX10_sort_106 rfl 0 rfl ?_
              refine sm_geti (pc := 107) dX10_sort_107 fi_X10_109 ?_
              refine sm_iload_n (pc := 110) dX10_sort_110 rfl 3 rfl ?_
              refine sm_bipush (pc := 111) dX10_sort_111 (v := 10) (by decide) ?_
              refine sm_idivc (pc := 113) dX10_sort_113 (by decide) ?_
              refine sm_iast (pc := 114) dX10_sort_114 ly_170 (by decide) (fun j11 hj11 => ?_)
              refine sm_nmM (fun μ12 => ?_)
              refine sm_aload_n (pc := 115) dX10_sort_115 rfl 0 rfl ?_
              refine sm_getr (pc := 116) dX10_sort_116 fi_X10_31 ?_
              refine sm_aload_n (pc := 119) dX10_sort_119 rfl 0 rfl ?_
              refine sm_geti (pc := 120) dX10_sort_120 fi_X10_109 ?_
              refine sm_iload_n (pc := 123) dX10_sort_123 rfl 3 rfl ?_
              refine sm_bipush (pc := 124) dX10_sort_124 (v := 10) (by decide) ?_
              refine sm_iremc (pc := 126) dX10_sort_126 (by decide) ?_
              refine sm_iast (pc := 127) dX10_sort_127 ly_171 (by decide) (fun j13 hj13 => ?_)
              refine sm_nmM (fun μ14 => ?_)
              refine sm_aload_n (pc := 128) dX10_sort_128 rfl 0 rfl ?_
              refine sm_getr (pc := 129) dX10_sort_129 fi_X10_34 ?_
              refine sm_aload_n (pc := 132) dX10_sort_132 rfl 0 rfl ?_
              refine sm_geti (pc := 133) dX10_sort_133 fi_X10_109 ?_
              refine sm_iconst (pc := 136) dX10_sort_136 (v := 0) (by decide) ?_
              refine sm_iast (pc := 137) dX10_sort_137 ly_172 (by decide) (fun j15 hj15 => ?_)
              refine sm_nmM (fun μ16 => ?_)
              refine sm_aload_n (pc := 138) dX10_sort_138 rfl 0 rfl ?_
              refine sm_dup (pc := 139) dX10_sort_139 rfl ?_
              refine sm_geti (pc := 140) dX10_sort_140 fi_X10_109 ?_
              refine sm_iconst (pc := 143) dX10_sort_143 (v := 1) (by decide) ?_
              refine sm_iadd (pc := 144) dX10_sort_144 ?_
              refine sm_puti (pc := 145) dX10_sort_145 fi_X10_109 ?_
              refine sm_nmM (fun μ17 => ?_)
              refine sm_aload_n (pc := 148) dX10_sort_148 rfl 0 rfl ?_
              refine sm_geti (pc := 149) dX10_sort_149 fi_X10_109 ?_
              refine sm_iconst (pc := 152) dX10_sort_152 (v := 1) (by decide) ?_
              refine sm_isub (pc := 153) dX10_sort_153 ?_
              exact sm_iret (pc := 154) dX10_sort_154 rfl
            · refine sm_bipush (pc := 57) dX10_sort_57 (v := -3) (by decide) ?_
              exact sm_iret (pc := 59) dX10_sort_59 rfl
          · refine sm_iconst (pc := 47) dX10_sort_47 (v := -1) (by decide) ?_
            exact sm_iret (pc := 48) dX10_sort_48 rfl
theorem c_X10_sort (G : am_G) (l : Launch) (N : Nat) (a1 : Int32) (a2 : Int32) (a3 : Int32) (μ : am_M) : ct_P G l am_ci 1 me_X10_sort [.ref (am_ad G 10 0), .int a1, .int a2, .int a3] μ (f_X10_sort N a1 a2 a3 μ) := ct_of (by decide +kernel) (Nat.le_of_ble_eq_true rfl) rfl (p_X10_sort_0 G l 1 (Nat.le_refl _) N a1 a2 a3 μ)

def f_X10_purse_38 (N : Nat) (x1 : Int32) (x3 : Int32) (s0 : Int32) (μ : am_M) : Option (Int32 × am_M) :=
am_bd (f_X10_becomes N (s0 + x1) x3 μ) (fun y8 μ7 => some (y8, μ7))
def f_X10_purse_0 (N : Nat) (a1 : Int32) (a2 : Int32) (a3 : Int32) (μ : am_M) : Option (Int32 × am_M) :=
am_bd (f_X10_isSort N a1 μ) (fun y2 μ1 => if y2 = 0 then (some ((-1 : Int32), μ1)) else (am_bd (f_X10_within N a2.toInt64 (0 : Int64) (1 : Int64) μ1) (fun y4 μ3 => if y4 = 0 then (some ((-1 : Int32), μ3)) else (am_bd (f_X10_isTwo N a3.toInt64 μ3) (fun y6 μ5 => if y6 = 0 then (some ((-1 : Int32), μ5)) else (if a2 = 0 then (f_X10_purse_38 N a1 a3 (18 : Int32) μ5) else (f_X10_purse_38 N a1 a3 (23 : Int32) μ5)))))))
def f_X10_purse (N : Nat) (a1 : Int32) (a2 : Int32) (a3 : Int32) (μ : am_M) : Option (Int32 × am_M) := f_X10_purse_0 N a1 a2 a3 μ
set_option maxHeartbeats 4000000 in
set_option maxRecDepth 100000 in
theorem p_X10_purse_38 (G : am_G) (l : Launch) (d : Nat) (hd0 : 2 ≤ d) (N : Nat) (x1 : Int32) (x3 : Int32) (s0 : Int32) (μ : am_M) : sm_P G l am_ci d me_X10_purse 38 [(0, .ref (am_ad G 10 0)), (1, .int x1), (3, .int x3)] [.int s0, .ref (am_ad G 10 0)] μ (f_X10_purse_38 N x1 x3 s0 μ) := by
  unfold f_X10_purse_38
  refine sm_iload_n (pc := 38) dX10_purse_38 rfl 1 rfl ?_
  refine sm_iadd (pc := 39) dX10_purse_39 ?_
  refine sm_iload_n (pc := 40) dX10_purse_40 rfl 2 rfl ?_
  refine sm_callVi (pc := 41) (As := [.int (s0 + x1), .int x3]) (rest := []) dX10_purse_41 (c_X10_becomes G l N (s0 + x1) x3 μ) (by omega) wl_X10_137 vm_X10_becomes rfl rfl (Nat.le_of_ble_eq_true rfl) (fun y8 μ7 => ?_)
  refine sm_goto (pc := 44) (tgt := 48) dX10_purse_44 (by decide) ?_
  exact sm_iret (pc := 48) dX10_purse_48 rfl
set_option maxHeartbeats 4000000 in
set_option maxRecDepth 100000 in
theorem p_X10_purse_0 (G : am_G) (l : Launch) (d : Nat) (hd0 : 2 ≤ d) (N : Nat) (a1 : Int32) (a2 : Int32) (a3 : Int32) (μ : am_M) : sm_P G l am_ci d me_X10_purse 0 [(0, .ref (am_ad G 10 0)), (1, .int a1), (2, .int a2), (3, .int a3)] [] μ (f_X10_purse_0 N a1 a2 a3 μ) := by
  unfold f_X10_purse_0
  refine sm_aload_n (pc := 0) dX10_purse_0 rfl 0 rfl ?_
  refine sm_iload_n (pc := 1) dX10_purse_1 rfl 1 rfl ?_
  refine sm_callVi (pc := 2) (As := [.int a1]) (rest := []) dX10_purse_2 (c_X10_isSort G l N a1 μ) (by omega) wl_X10_144 vm_X10_isSort rfl rfl (Nat.le_of_ble_eq_true rfl) (fun y2 μ1 => ?_)
  refine sm_if_eq (pc := 5) (tgt := 47) dX10_purse_5 (by decide) ?_ ?_
  · refine sm_iconst (pc := 47) dX10_purse_47 (v := -1) (by decide) ?_
    exact sm_iret (pc := 48) dX10_purse_48 rfl
  · refine sm_iload_n (pc := 8) dX10_purse_8 rfl 2 rfl ?_
    refine sm_i2l (pc := 9) dX10_purse_9 ?_
    refine sm_lconst (pc := 10) dX10_purse_10 (v := 0) (by decide) ?_
    refine sm_lconst (pc := 11) dX10_purse_11 (v := 1) (by decide) ?_
    refine sm_callSi (pc := 12) (As := [.long a2.toInt64, .long (0 : Int64), .long (1 : Int64)]) (rest := []) dX10_purse_12 (c_X10_within G l N a2.toInt64 (0 : Int64) (1 : Int64) μ1) (by omega) wl_X10_105 st_X10_within rfl rfl (Nat.le_of_ble_eq_true rfl) (fun y4 μ3 => ?_)
    refine sm_if_eq (pc := 15) (tgt := 47) dX10_purse_15 (by decide) ?_ ?_
    · refine sm_iconst (pc := 47) dX10_purse_47 (v := -1) (by decide) ?_
      exact sm_iret (pc := 48) dX10_purse_48 rfl
    · refine sm_iload_n (pc := 18) dX10_purse_18 rfl 3 rfl ?_
      refine sm_i2l (pc := 19) dX10_purse_19 ?_
      refine sm_callSi (pc := 20) (As := [.long a3.toInt64]) (rest := []) dX10_purse_20 (c_X10_isTwo G l N a3.toInt64 μ3) (by omega) wl_X10_118 st_X10_isTwo rfl rfl (Nat.le_of_ble_eq_true rfl) (fun y6 μ5 => ?_)
      refine sm_if_eq (pc := 23) (tgt := 47) dX10_purse_23 (by decide) ?_ ?_
      · refine sm_iconst (pc := 47) dX10_purse_47 (v := -1) (by decide) ?_
        exact sm_iret (pc := 48) dX10_purse_48 rfl
      · refine sm_aload_n (pc := 26) dX10_purse_26 rfl 0 rfl ?_
        refine sm_iload_n (pc := 27) dX10_purse_27 rfl 2 rfl ?_
        refine sm_if_ne (pc := 28) (tgt := 36) dX10_purse_28 (by decide) ?_ ?_
        · refine sm_bipush (pc := 36) dX10_purse_36 (v := 23) (by decide) ?_
          refine sm_sub [0, 1, 3] rfl ?_
          exact p_X10_purse_38 G l d hd0 N a1 a3 (23 : Int32) μ5
        · refine sm_bipush (pc := 31) dX10_purse_31 (v := 18) (by decide) ?_
          refine sm_goto (pc := 33) (tgt := 38) dX10_purse_33 (by decide) ?_
          refine sm_sub [0, 1, 3] rfl ?_
          exact p_X10_purse_38 G l d hd0 N a1 a3 (18 : Int32) μ5
theorem c_X10_purse (G : am_G) (l : Launch) (N : Nat) (a1 : Int32) (a2 : Int32) (a3 : Int32) (μ : am_M) : ct_P G l am_ci 2 me_X10_purse [.ref (am_ad G 10 0), .int a1, .int a2, .int a3] μ (f_X10_purse N a1 a2 a3 μ) := ct_of (by decide +kernel) (Nat.le_of_ble_eq_true rfl) rfl (p_X10_purse_0 G l 2 (Nat.le_refl _) N a1 a2 a3 μ)

def f_X10_purseOf_0 (N : Nat) (a1 : Int32) (μ : am_M) : Option (Int32 × am_M) :=
am_gd ((18 : Int32) + a1) 28 (fun j1 => some ((μ.1 160 0 j1), μ))
def f_X10_purseOf (N : Nat) (a1 : Int32) (μ : am_M) : Option (Int32 × am_M) := f_X10_purseOf_0 N a1 μ
set_option maxHeartbeats 4000000 in
set_option maxRecDepth 100000 in
theorem p_X10_purseOf_0 (G : am_G) (l : Launch) (d : Nat) (hd0 : 0 ≤ d) (N : Nat) (a1 : Int32) (μ : am_M) : sm_P G l am_ci d me_X10_purseOf 0 [(0, .ref (am_ad G 10 0)), (1, .int a1)] [] μ (f_X10_purseOf_0 N a1 μ) := by
  unfold f_X10_purseOf_0
  refine sm_aload_n (pc := 0) dX10_purseOf_0 rfl 0 rfl ?_
  refine sm_getr (pc := 1) dX10_purseOf_1 fi_X10_9 ?_
  refine sm_bipush (pc := 4) dX10_purseOf_4 (v := 18) (by decide) ?_
  refine sm_iload_n (pc := 6) dX10_purseOf_6 rfl 1 rfl ?_
  refine sm_iadd (pc := 7) dX10_purseOf_7 ?_
  refine sm_iald (pc := 8) dX10_purseOf_8 ly_160 (by decide) (fun j1 hj1 => ?_)
  exact sm_iret (pc := 9) dX10_purseOf_9 rfl
theorem c_X10_purseOf (G : am_G) (l : Launch) (N : Nat) (a1 : Int32) (μ : am_M) : ct_P G l am_ci 0 me_X10_purseOf [.ref (am_ad G 10 0), .int a1] μ (f_X10_purseOf N a1 μ) := ct_of (by decide +kernel) (Nat.le_of_ble_eq_true rfl) rfl (p_X10_purseOf_0 G l 0 (Nat.le_refl _) N a1 μ)

def f_X10_pointsInAll_0 (N : Nat) (a1 : Int32) (μ : am_M) : Option (Int32 × am_M) :=
am_gd ((23 : Int32) + a1) 28 (fun j1 => am_gd a1 5 (fun j2 => some (((μ.1 160 0 j1) + ((10 : Int32) * (μ.1 170 0 j2))), μ)))
def f_X10_pointsInAll (N : Nat) (a1 : Int32) (μ : am_M) : Option (Int32 × am_M) := f_X10_pointsInAll_0 N a1 μ
set_option maxHeartbeats 4000000 in
set_option maxRecDepth 100000 in
theorem p_X10_pointsInAll_0 (G : am_G) (l : Launch) (d : Nat) (hd0 : 0 ≤ d) (N : Nat) (a1 : Int32) (μ : am_M) : sm_P G l am_ci d me_X10_pointsInAll 0 [(0, .ref (am_ad G 10 0)), (1, .int a1)] [] μ (f_X10_pointsInAll_0 N a1 μ) := by
  unfold f_X10_pointsInAll_0
  refine sm_aload_n (pc := 0) dX10_pointsInAll_0 rfl 0 rfl ?_
  refine sm_getr (pc := 1) dX10_pointsInAll_1 fi_X10_9 ?_
  refine sm_bipush (pc := 4) dX10_pointsInAll_4 (v := 23) (by decide) ?_
  refine sm_iload_n (pc := 6) dX10_pointsInAll_6 rfl 1 rfl ?_
  refine sm_iadd (pc := 7) dX10_pointsInAll_7 ?_
  refine sm_iald (pc := 8) dX10_pointsInAll_8 ly_160 (by decide) (fun j1 hj1 => ?_)
  refine sm_bipush (pc := 9) dX10_pointsInAll_9 (v := 10) (by decide) ?_
  refine sm_aload_n (pc := 11) dX10_pointsInAll_11 rfl 0 rfl ?_
  refine sm_getr (pc := 12) dX10_pointsInAll_12 fi_X10_28 ?_
  refine sm_iload_n (pc := 15) dX10_pointsInAll_15 rfl 1 rfl ?_
  refine sm_iald (pc := 16) dX10_pointsInAll_16 ly_170 (by decide) (fun j2 hj2 => ?_)
  refine sm_imul (pc := 17) dX10_pointsInAll_17 ?_
  refine sm_iadd (pc := 18) dX10_pointsInAll_18 ?_
  exact sm_iret (pc := 19) dX10_pointsInAll_19 rfl
theorem c_X10_pointsInAll (G : am_G) (l : Launch) (N : Nat) (a1 : Int32) (μ : am_M) : ct_P G l am_ci 0 me_X10_pointsInAll [.ref (am_ad G 10 0), .int a1] μ (f_X10_pointsInAll N a1 μ) := ct_of (by decide +kernel) (Nat.le_of_ble_eq_true rfl) rfl (p_X10_pointsInAll_0 G l 0 (Nat.le_refl _) N a1 μ)

def f_X10_of_0 (N : Nat) (a1 : Int32) (a2 : Int32) (μ : am_M) : Option (Int32 × am_M) :=
am_bd (f_X10_within N a2.toInt64 (0 : Int64) (3 : Int64) μ) (fun y2 μ1 => if y2 = 0 then (am_bd (f_X10_isSort N a1 μ1) (fun y4 μ3 => if y4 = 0 then (some ((-1 : Int32), μ3)) else (if a2 = (10 : Int32) then (am_gd a1 5 (fun j6 => some ((μ3.1 169 0 j6), μ3))) else (if a2 = (11 : Int32) then (am_bd (f_X10_purseOf N a1 μ3) (fun y9 μ8 => some (y9, μ8))) else (if a2 = (12 : Int32) then (am_bd (f_X10_pointsInAll N a1 μ3) (fun y12 μ11 => some (y12, μ11))) else (if a2 = (13 : Int32) then (am_gd a1 5 (fun j14 => some ((μ3.1 170 0 j14), μ3))) else (if a2 = (14 : Int32) then (am_gd a1 5 (fun j16 => some ((μ3.1 171 0 j16), μ3))) else (some ((-1 : Int32), μ3))))))))) else (am_bd (f_X10_isThing N a1 μ1) (fun y18 μ17 => if y18 = 0 then (some ((-1 : Int32), μ17)) else (if a2 = (3 : Int32) then (am_gd a1 6 (fun j20 => some ((μ17.1 167 0 j20), μ17))) else (am_gd (((6 : Int32) * a2) + a1) 28 (fun j19 => some ((μ17.1 160 0 j19), μ17)))))))
def f_X10_of (N : Nat) (a1 : Int32) (a2 : Int32) (μ : am_M) : Option (Int32 × am_M) := f_X10_of_0 N a1 a2 μ
set_option maxHeartbeats 4000000 in
set_option maxRecDepth 100000 in
theorem p_X10_of_0 (G : am_G) (l : Launch) (d : Nat) (hd0 : 2 ≤ d) (N : Nat) (a1 : Int32) (a2 : Int32) (μ : am_M) : sm_P G l am_ci d me_X10_of 0 [(0, .ref (am_ad G 10 0)), (1, .int a1), (2, .int a2)] [] μ (f_X10_of_0 N a1 a2 μ) := by
  unfold f_X10_of_0
  refine sm_iload_n (pc := 0) dX10_of_0 rfl 2 rfl ?_
  refine sm_i2l (pc := 1) dX10_of_1 ?_
  refine sm_lconst (pc := 2) dX10_of_2 (v := 0) (by decide) ?_
  refine sm_ldc2 (pc := 3) dX10_of_3 (v := 3) wk_X10_147 ?_
  refine sm_callSi (pc := 6) (As := [.long a2.toInt64, .long (0 : Int64), .long (3 : Int64)]) (rest := []) dX10_of_6 (c_X10_within G l N a2.toInt64 (0 : Int64) (3 : Int64) μ) (by omega) wl_X10_105 st_X10_within rfl rfl (Nat.le_of_ble_eq_true rfl) (fun y2 μ1 => ?_)
  refine sm_if_eq (pc := 9) (tgt := 50) dX10_of_9 (by decide) ?_ ?_
  · refine sm_aload_n (pc := 50) dX10_of_50 rfl 0 rfl ?_
    refine sm_iload_n (pc := 51) dX10_of_51 rfl 1 rfl ?_
    refine sm_callVi (pc := 52) (As := [.int a1]) (rest := []) dX10_of_52 (c_X10_isSort G l N a1 μ1) (by omega) wl_X10_144 vm_X10_isSort rfl rfl (Nat.le_of_ble_eq_true rfl) (fun y4 μ3 => ?_)
    refine sm_if_ne (pc := 55) (tgt := 60) dX10_of_55 (by decide) ?_ ?_
    · refine sm_iload_n (pc := 60) dX10_of_60 rfl 2 rfl ?_
      refine sm_ite (fun e5 => ?_) (fun e5 => ?_)
      · refine sm_tsi (pc := 61) (c1 := 10) (off := 35) (tgt := 96) e5 dX10_of_61 (by decide) (by decide) (by decide) (by decide) ?_
        refine sm_aload_n (pc := 96) dX10_of_96 rfl 0 rfl ?_
        refine sm_getr (pc := 97) dX10_of_97 fi_X10_25 ?_
        refine sm_iload_n (pc := 100) dX10_of_100 rfl 1 rfl ?_
        refine sm_iald (pc := 101) dX10_of_101 ly_169 (by decide) (fun j6 hj6 => ?_)
        exact sm_iret (pc := 102) dX10_of_102 rfl
      refine sm_ite (fun e7 => ?_) (fun e7 => ?_)
      · refine sm_tsi (pc := 61) (c1 := 11) (off := 42) (tgt := 103) e7 dX10_of_61 (by decide) (by decide) (by decide) (by decide) ?_
        refine sm_aload_n (pc := 103) dX10_of_103 rfl 0 rfl ?_
        refine sm_iload_n (pc := 104) dX10_of_104 rfl 1 rfl ?_
        refine sm_callVi (pc := 105) (As := [.int a1]) (rest := []) dX10_of_105 (c_X10_purseOf G l N a1 μ3) (by omega) wl_X10_149 vm_X10_purseOf rfl rfl (Nat.le_of_ble_eq_true rfl) (fun y9 μ8 => ?_)
        exact sm_iret (pc := 108) dX10_of_108 rfl
      refine sm_ite (fun e10 => ?_) (fun e10 => ?_)
      · refine sm_tsi (pc := 61) (c1 := 12) (off := 48) (tgt := 109) e10 dX10_of_61 (by decide) (by decide) (by decide) (by decide) ?_
        refine sm_aload_n (pc := 109) dX10_of_109 rfl 0 rfl ?_
        refine sm_iload_n (pc := 110) dX10_of_110 rfl 1 rfl ?_
        refine sm_callVi (pc := 111) (As := [.int a1]) (rest := []) dX10_of_111 (c_X10_pointsInAll G l N a1 μ3) (by omega) wl_X10_153 vm_X10_pointsInAll rfl rfl (Nat.le_of_ble_eq_true rfl) (fun y12 μ11 => ?_)
        exact sm_iret (pc := 114) dX10_of_114 rfl
      refine sm_ite (fun e13 => ?_) (fun e13 => ?_)
      · refine sm_tsi (pc := 61) (c1 := 13) (off := 54) (tgt := 115) e13 dX10_of_61 (by decide) (by decide) (by decide) (by decide) ?_
        refine sm_aload_n (pc := 115) dX10_of_115 rfl 0 rfl ?_
        refine sm_getr (pc := 116) dX10_of_116 fi_X10_28 ?_
        refine sm_iload_n (pc := 119) dX10_of_119 rfl 1 rfl ?_
        refine sm_iald (pc := 120) dX10_of_120 ly_170 (by decide) (fun j14 hj14 => ?_)
        exact sm_iret (pc := 121) dX10_of_121 rfl
      refine sm_ite (fun e15 => ?_) (fun e15 => ?_)
      · refine sm_tsi (pc := 61) (c1 := 14) (off := 61) (tgt := 122) e15 dX10_of_61 (by decide) (by decide) (by decide) (by decide) ?_
        refine sm_aload_n (pc := 122) dX10_of_122 rfl 0 rfl ?_
        refine sm_getr (pc := 123) dX10_of_123 fi_X10_31 ?_
        refine sm_iload_n (pc := 126) dX10_of_126 rfl 1 rfl ?_
        refine sm_iald (pc := 127) dX10_of_127 ly_171 (by decide) (fun j16 hj16 => ?_)
        exact sm_iret (pc := 128) dX10_of_128 rfl
      replace e5 := am_ne (n := 10) (by decide) e5
      replace e7 := am_ne (n := 11) (by decide) e7
      replace e10 := am_ne (n := 12) (by decide) e10
      replace e13 := am_ne (n := 13) (by decide) e13
      replace e15 := am_ne (n := 14) (by decide) e15
      refine sm_tso (pc := 61) (tgt := 129) dX10_of_61 (by omega) (by decide) ?_
      refine sm_iconst (pc := 129) dX10_of_129 (v := -1) (by decide) ?_
      exact sm_iret (pc := 130) dX10_of_130 rfl
    · refine sm_iconst (pc := 58) dX10_of_58 (v := -1) (by decide) ?_
      exact sm_iret (pc := 59) dX10_of_59 rfl
  · refine sm_aload_n (pc := 12) dX10_of_12 rfl 0 rfl ?_
    refine sm_iload_n (pc := 13) dX10_of_13 rfl 1 rfl ?_
    refine sm_callVi (pc := 14) (As := [.int a1]) (rest := []) dX10_of_14 (c_X10_isThing G l N a1 μ1) (by omega) wl_X10_132 vm_X10_isThing rfl rfl (Nat.le_of_ble_eq_true rfl) (fun y18 μ17 => ?_)
    refine sm_if_ne (pc := 17) (tgt := 24) dX10_of_17 (by decide) ?_ ?_
    · refine sm_iload_n (pc := 24) dX10_of_24 rfl 2 rfl ?_
      refine sm_iconst (pc := 25) dX10_of_25 (v := 3) (by decide) ?_
      refine sm_icmp_ne (pc := 26) (tgt := 38) dX10_of_26 (by decide) ?_ ?_
      · refine sm_aload_n (pc := 38) dX10_of_38 rfl 0 rfl ?_
        refine sm_getr (pc := 39) dX10_of_39 fi_X10_9 ?_
        refine sm_bipush (pc := 42) dX10_of_42 (v := 6) (by decide) ?_
        refine sm_iload_n (pc := 44) dX10_of_44 rfl 2 rfl ?_
        refine sm_imul (pc := 45) dX10_of_45 ?_
        refine sm_iload_n (pc := 46) dX10_of_46 rfl 1 rfl ?_
        refine sm_iadd (pc := 47) dX10_of_47 ?_
        refine sm_iald (pc := 48) dX10_of_48 ly_160 (by decide) (fun j19 hj19 => ?_)
        exact sm_iret (pc := 49) dX10_of_49 rfl
      · refine sm_aload_n (pc := 29) dX10_of_29 rfl 0 rfl ?_
        refine sm_getr (pc := 30) dX10_of_30 fi_X10_22 ?_
        refine sm_iload_n (pc := 33) dX10_of_33 rfl 1 rfl ?_
        refine sm_iald (pc := 34) dX10_of_34 ly_167 (by decide) (fun j20 hj20 => ?_)
        refine sm_goto (pc := 35) (tgt := 49) dX10_of_35 (by decide) ?_
        exact sm_iret (pc := 49) dX10_of_49 rfl
    · refine sm_iconst (pc := 20) dX10_of_20 (v := -1) (by decide) ?_
      refine sm_goto (pc := 21) (tgt := 49) dX10_of_21 (by decide) ?_
      exact sm_iret (pc := 49) dX10_of_49 rfl
theorem c_X10_of (G : am_G) (l : Launch) (N : Nat) (a1 : Int32) (a2 : Int32) (μ : am_M) : ct_P G l am_ci 2 me_X10_of [.ref (am_ad G 10 0), .int a1, .int a2] μ (f_X10_of N a1 a2 μ) := ct_of (by decide +kernel) (Nat.le_of_ble_eq_true rfl) rfl (p_X10_of_0 G l 2 (Nat.le_refl _) N a1 a2 μ)

def f_X10_feed_30 (N : Nat) (r_30 : Int32 → Int32 → Int32 → am_M → Option (Int32 × am_M)) (x1 : Int32) (x2 : Int32) (x3 : Int32) (μ : am_M) : Option (Int32 × am_M) :=
if x1 ≤ x3 then (some ((μ.1 10 0 14), μ)) else (am_gd (μ.1 10 0 14) 120 (fun j3 => am_nm (am_ui μ 173 0 j3 ((x2 >>> (((8 : Int32) * x3) &&& 31)) &&& (255 : Int32))) (fun μ4 => am_nm (am_ui μ4 10 0 14 ((μ4.1 10 0 14) + (1 : Int32))) (fun μ5 => r_30 x1 x2 (x3 + (1 : Int32)) μ5))))
def f_X10_feed_30_lp (N : Nat) : Nat → Int32 → Int32 → Int32 → am_M → Option (Int32 × am_M)
  | 0, _, _, _, _ => none
  | n + 1, x1, x2, x3, μ => f_X10_feed_30 N (f_X10_feed_30_lp N n) x1 x2 x3 μ
def f_X10_feed_0 (N : Nat) (a1 : Int32) (a2 : Int32) (μ : am_M) : Option (Int32 × am_M) :=
am_bd (f_X10_within N a1.toInt64 (1 : Int64) (4 : Int64) μ) (fun y2 μ1 => if y2 = 0 then (some ((-1 : Int32), μ1)) else (if ((μ1.1 10 0 14) + a1) ≤ (120 : Int32) then (f_X10_feed_30_lp N N a1 a2 (0 : Int32) μ1) else (some ((-3 : Int32), μ1))))
def f_X10_feed (N : Nat) (a1 : Int32) (a2 : Int32) (μ : am_M) : Option (Int32 × am_M) := f_X10_feed_0 N a1 a2 μ
set_option maxHeartbeats 4000000 in
set_option maxRecDepth 100000 in
theorem p_X10_feed_30 (G : am_G) (l : Launch) (d : Nat) (hd0 : 1 ≤ d) (N : Nat) (r_30 : Int32 → Int32 → Int32 → am_M → Option (Int32 × am_M)) (H_30 : ∀ (x1 : Int32) (x2 : Int32) (x3 : Int32) (μ : am_M), sm_P G l am_ci d me_X10_feed 30 [(0, .ref (am_ad G 10 0)), (1, .int x1), (2, .int x2), (3, .int x3)] [] μ (r_30 x1 x2 x3 μ)) (x1 : Int32) (x2 : Int32) (x3 : Int32) (μ : am_M) : sm_P G l am_ci d me_X10_feed 30 [(0, .ref (am_ad G 10 0)), (1, .int x1), (2, .int x2), (3, .int x3)] [] μ (f_X10_feed_30 N r_30 x1 x2 x3 μ) := by
  unfold f_X10_feed_30
  refine sm_iload_n (pc := 30) dX10_feed_30 rfl 3 rfl ?_
  refine sm_iload_n (pc := 31) dX10_feed_31 rfl 1 rfl ?_
  refine sm_icmp_ge (pc := 32) (tgt := 70) dX10_feed_32 (by decide) ?_ ?_
  · refine sm_aload_n (pc := 70) dX10_feed_70 rfl 0 rfl ?_
    refine sm_geti (pc := 71) dX10_feed_71 fi_X10_158 ?_
    exact sm_iret (pc := 74) dX10_feed_74 rfl
  · refine sm_aload_n (pc := 35) dX10_feed_35 rfl 0 rfl ?_
    refine sm_getr (pc := 36) dX10_feed_36 fi_X10_37 ?_
    refine sm_aload_n (pc := 39) dX10_feed_39 rfl 0 rfl ?_
    refine sm_geti (pc := 40) dX10_feed_40 fi_X10_158 ?_
    refine sm_iload_n (pc := 43) dX10_feed_43 rfl 2 rfl ?_
    refine sm_bipush (pc := 44) dX10_feed_44 (v := 8) (by decide) ?_
    refine sm_iload_n (pc := 46) dX10_feed_46 rfl 3 rfl ?_
    refine sm_imul (pc := 47) dX10_feed_47 ?_
    refine sm_ishr (pc := 48) dX10_feed_48 ?_
    refine sm_sipush (pc := 49) dX10_feed_49 (v := 255) (by decide) ?_
    refine sm_iand (pc := 52) dX10_feed_52 ?_
    refine sm_iast (pc := 53) dX10_feed_53 ly_173 (by decide) (fun j3 hj3 => ?_)
    refine sm_nmM (fun μ4 => ?_)
    refine sm_aload_n (pc := 54) dX10_feed_54 rfl 0 rfl ?_
    refine sm_dup (pc := 55) dX10_feed_55 rfl ?_
    refine sm_geti (pc := 56) dX10_feed_56 fi_X10_158 ?_
    refine sm_iconst (pc := 59) dX10_feed_59 (v := 1) (by decide) ?_
    refine sm_iadd (pc := 60) dX10_feed_60 ?_
    refine sm_puti (pc := 61) dX10_feed_61 fi_X10_158 ?_
    refine sm_nmM (fun μ5 => ?_)
    refine sm_iinc (pc := 64) (v := (x3 + (1 : Int32))) (lv' := [(3, .int (x3 + (1 : Int32))), (0, .ref (am_ad G 10 0)), (1, .int x1), (2, .int x2)]) dX10_feed_64 3 rfl rfl (by decide) rfl ?_
    refine sm_goto (pc := 67) (tgt := 30) dX10_feed_67 (by decide) ?_
    refine sm_sub [1, 2, 3, 0] rfl ?_
    exact H_30 x1 x2 (x3 + (1 : Int32)) μ5
theorem p_X10_feed_30_lp (G : am_G) (l : Launch) (d : Nat) (hd0 : 1 ≤ d) (N : Nat) : ∀ (n : Nat) (x1 : Int32) (x2 : Int32) (x3 : Int32) (μ : am_M), sm_P G l am_ci d me_X10_feed 30 [(0, .ref (am_ad G 10 0)), (1, .int x1), (2, .int x2), (3, .int x3)] [] μ (f_X10_feed_30_lp N n x1 x2 x3 μ) := by
  intro n
  induction n with
  | zero => intros; exact sm_none
  | succ n ih => exact fun x1 x2 x3 μ => p_X10_feed_30 G l d hd0 N (f_X10_feed_30_lp N n) ih x1 x2 x3 μ
set_option maxHeartbeats 4000000 in
set_option maxRecDepth 100000 in
theorem p_X10_feed_0 (G : am_G) (l : Launch) (d : Nat) (hd0 : 1 ≤ d) (N : Nat) (a1 : Int32) (a2 : Int32) (μ : am_M) : sm_P G l am_ci d me_X10_feed 0 [(0, .ref (am_ad G 10 0)), (1, .int a1), (2, .int a2)] [] μ (f_X10_feed_0 N a1 a2 μ) := by
  unfold f_X10_feed_0
  refine sm_iload_n (pc := 0) dX10_feed_0 rfl 1 rfl ?_
  refine sm_i2l (pc := 1) dX10_feed_1 ?_
  refine sm_lconst (pc := 2) dX10_feed_2 (v := 1) (by decide) ?_
  refine sm_ldc2 (pc := 3) dX10_feed_3 (v := 4) wk_X10_156 ?_
  refine sm_callSi (pc := 6) (As := [.long a1.toInt64, .long (1 : Int64), .long (4 : Int64)]) (rest := []) dX10_feed_6 (c_X10_within G l N a1.toInt64 (1 : Int64) (4 : Int64) μ) (by omega) wl_X10_105 st_X10_within rfl rfl (Nat.le_of_ble_eq_true rfl) (fun y2 μ1 => ?_)
  refine sm_if_ne (pc := 9) (tgt := 14) dX10_feed_9 (by decide) ?_ ?_
  · refine sm_aload_n (pc := 14) dX10_feed_14 rfl 0 rfl ?_
    refine sm_geti (pc := 15) dX10_feed_15 fi_X10_158 ?_
    refine sm_iload_n (pc := 18) dX10_feed_18 rfl 1 rfl ?_
    refine sm_iadd (pc := 19) dX10_feed_19 ?_
    refine sm_bipush (pc := 20) dX10_feed_20 (v := 120) (by decide) ?_
    refine sm_icmp_le (pc := 22) (tgt := 28) dX10_feed_22 (by decide) ?_ ?_
    · refine sm_iconst (pc := 28) dX10_feed_28 (v := 0) (by decide) ?_
      refine sm_istore_n (pc := 29) (lv' := [(3, .int (0 : Int32)), (0, .ref (am_ad G 10 0)), (1, .int a1), (2, .int a2)]) dX10_feed_29 rfl (by decide) rfl ?_
      refine sm_sub [1, 2, 3, 0] rfl ?_
      exact p_X10_feed_30_lp G l d hd0 N N a1 a2 (0 : Int32) μ1
    · refine sm_bipush (pc := 25) dX10_feed_25 (v := -3) (by decide) ?_
      exact sm_iret (pc := 27) dX10_feed_27 rfl
  · refine sm_iconst (pc := 12) dX10_feed_12 (v := -1) (by decide) ?_
    exact sm_iret (pc := 13) dX10_feed_13 rfl
theorem c_X10_feed (G : am_G) (l : Launch) (N : Nat) (a1 : Int32) (a2 : Int32) (μ : am_M) : ct_P G l am_ci 1 me_X10_feed [.ref (am_ad G 10 0), .int a1, .int a2] μ (f_X10_feed N a1 a2 μ) := ct_of (by decide +kernel) (Nat.le_of_ble_eq_true rfl) rfl (p_X10_feed_0 G l 1 (Nat.le_refl _) N a1 a2 μ)

def f_X10_byteAt_0 (N : Nat) (μ : am_M) : Option (Int32 × am_M) :=
if (μ.1 10 0 20) ≤ (μ.1 10 0 19) then (some ((0 : Int32), μ)) else (if 0 ≤ (μ.1 10 0 18) then (am_gd ((μ.1 10 0 18) + (μ.1 10 0 19)) 480 (fun j1 => some ((μ.1 176 0 j1), μ))) else (am_gd (μ.1 10 0 19) 120 (fun j2 => some ((μ.1 173 0 j2), μ))))
def f_X10_byteAt (N : Nat) (μ : am_M) : Option (Int32 × am_M) := f_X10_byteAt_0 N μ
set_option maxHeartbeats 4000000 in
set_option maxRecDepth 100000 in
theorem p_X10_byteAt_0 (G : am_G) (l : Launch) (d : Nat) (hd0 : 0 ≤ d) (N : Nat) (μ : am_M) : sm_P G l am_ci d me_X10_byteAt 0 [(0, .ref (am_ad G 10 0))] [] μ (f_X10_byteAt_0 N μ) := by
  unfold f_X10_byteAt_0
  refine sm_aload_n (pc := 0) dX10_byteAt_0 rfl 0 rfl ?_
  refine sm_geti (pc := 1) dX10_byteAt_1 fi_X10_161 ?_
  refine sm_aload_n (pc := 4) dX10_byteAt_4 rfl 0 rfl ?_
  refine sm_geti (pc := 5) dX10_byteAt_5 fi_X10_164 ?_
  refine sm_icmp_ge (pc := 8) (tgt := 47) dX10_byteAt_8 (by decide) ?_ ?_
  · refine sm_iconst (pc := 47) dX10_byteAt_47 (v := 0) (by decide) ?_
    exact sm_iret (pc := 48) dX10_byteAt_48 rfl
  · refine sm_aload_n (pc := 11) dX10_byteAt_11 rfl 0 rfl ?_
    refine sm_geti (pc := 12) dX10_byteAt_12 fi_X10_167 ?_
    refine sm_if_ge (pc := 15) (tgt := 30) dX10_byteAt_15 (by decide) ?_ ?_
    · refine sm_aload_n (pc := 30) dX10_byteAt_30 rfl 0 rfl ?_
      refine sm_getr (pc := 31) dX10_byteAt_31 fi_X10_40 ?_
      refine sm_aload_n (pc := 34) dX10_byteAt_34 rfl 0 rfl ?_
      refine sm_geti (pc := 35) dX10_byteAt_35 fi_X10_167 ?_
      refine sm_aload_n (pc := 38) dX10_byteAt_38 rfl 0 rfl ?_
      refine sm_geti (pc := 39) dX10_byteAt_39 fi_X10_161 ?_
      refine sm_iadd (pc := 42) dX10_byteAt_42 ?_
      refine sm_iald (pc := 43) dX10_byteAt_43 ly_176 (by decide) (fun j1 hj1 => ?_)
      refine sm_goto (pc := 44) (tgt := 48) dX10_byteAt_44 (by decide) ?_
      exact sm_iret (pc := 48) dX10_byteAt_48 rfl
    · refine sm_aload_n (pc := 18) dX10_byteAt_18 rfl 0 rfl ?_
      refine sm_getr (pc := 19) dX10_byteAt_19 fi_X10_37 ?_
      refine sm_aload_n (pc := 22) dX10_byteAt_22 rfl 0 rfl ?_
      refine sm_geti (pc := 23) dX10_byteAt_23 fi_X10_161 ?_
      refine sm_iald (pc := 26) dX10_byteAt_26 ly_173 (by decide) (fun j2 hj2 => ?_)
      refine sm_goto (pc := 27) (tgt := 48) dX10_byteAt_27 (by decide) ?_
      exact sm_iret (pc := 48) dX10_byteAt_48 rfl
theorem c_X10_byteAt (G : am_G) (l : Launch) (N : Nat) (μ : am_M) : ct_P G l am_ci 0 me_X10_byteAt [.ref (am_ad G 10 0)] μ (f_X10_byteAt N μ) := ct_of (by decide +kernel) (Nat.le_of_ble_eq_true rfl) rfl (p_X10_byteAt_0 G l 0 (Nat.le_refl _) N μ)

def f_X10_fails_0 (N : Nat) (μ : am_M) : Option (Int32 × am_M) :=
if 0 ≤ (μ.1 10 0 21) then (am_nm (am_ui μ 10 0 21 (μ.1 10 0 21)) (fun μ1 => some ((0 : Int32), μ1))) else (am_nm (am_ui μ 10 0 21 (μ.1 10 0 19)) (fun μ2 => some ((0 : Int32), μ2)))
def f_X10_fails (N : Nat) (μ : am_M) : Option (Int32 × am_M) := f_X10_fails_0 N μ
set_option maxHeartbeats 4000000 in
set_option maxRecDepth 100000 in
theorem p_X10_fails_0 (G : am_G) (l : Launch) (d : Nat) (hd0 : 0 ≤ d) (N : Nat) (μ : am_M) : sm_P G l am_ci d me_X10_fails 0 [(0, .ref (am_ad G 10 0))] [] μ (f_X10_fails_0 N μ) := by
  unfold f_X10_fails_0
  refine sm_aload_n (pc := 0) dX10_fails_0 rfl 0 rfl ?_
  refine sm_aload_n (pc := 1) dX10_fails_1 rfl 0 rfl ?_
  refine sm_geti (pc := 2) dX10_fails_2 fi_X10_170 ?_
  refine sm_if_ge (pc := 5) (tgt := 15) dX10_fails_5 (by decide) ?_ ?_
  · refine sm_aload_n (pc := 15) dX10_fails_15 rfl 0 rfl ?_
    refine sm_geti (pc := 16) dX10_fails_16 fi_X10_170 ?_
    refine sm_puti (pc := 19) dX10_fails_19 fi_X10_170 ?_
    refine sm_nmM (fun μ1 => ?_)
    refine sm_iconst (pc := 22) dX10_fails_22 (v := 0) (by decide) ?_
    exact sm_iret (pc := 23) dX10_fails_23 rfl
  · refine sm_aload_n (pc := 8) dX10_fails_8 rfl 0 rfl ?_
    refine sm_geti (pc := 9) dX10_fails_9 fi_X10_161 ?_
    refine sm_goto (pc := 12) (tgt := 19) dX10_fails_12 (by decide) ?_
    refine sm_puti (pc := 19) dX10_fails_19 fi_X10_170 ?_
    refine sm_nmM (fun μ2 => ?_)
    refine sm_iconst (pc := 22) dX10_fails_22 (v := 0) (by decide) ?_
    exact sm_iret (pc := 23) dX10_fails_23 rfl
theorem c_X10_fails (G : am_G) (l : Launch) (N : Nat) (μ : am_M) : ct_P G l am_ci 0 me_X10_fails [.ref (am_ad G 10 0)] μ (f_X10_fails N μ) := ct_of (by decide +kernel) (Nat.le_of_ble_eq_true rfl) rfl (p_X10_fails_0 G l 0 (Nat.le_refl _) N μ)

def f_X10_takes_0 (N : Nat) (a1 : Int32) (μ : am_M) : Option (Int32 × am_M) :=
if 0 ≤ (μ.1 10 0 21) then (am_z (0 : Int32) μ) else (am_bd (f_X10_byteAt N μ) (fun y2 μ1 => if y2 = a1 then (am_nm (am_ui μ1 10 0 19 ((μ1.1 10 0 19) + (1 : Int32))) (fun μ3 => am_z (1 : Int32) μ3)) else (am_z (0 : Int32) μ1)))
def f_X10_takes (N : Nat) (a1 : Int32) (μ : am_M) : Option (Int32 × am_M) := f_X10_takes_0 N a1 μ
set_option maxHeartbeats 4000000 in
set_option maxRecDepth 100000 in
theorem p_X10_takes_0 (G : am_G) (l : Launch) (d : Nat) (hd0 : 1 ≤ d) (N : Nat) (a1 : Int32) (μ : am_M) : sm_P G l am_ci d me_X10_takes 0 [(0, .ref (am_ad G 10 0)), (1, .int a1)] [] μ (f_X10_takes_0 N a1 μ) := by
  unfold f_X10_takes_0
  refine sm_aload_n (pc := 0) dX10_takes_0 rfl 0 rfl ?_
  refine sm_geti (pc := 1) dX10_takes_1 fi_X10_170 ?_
  refine sm_if_ge (pc := 4) (tgt := 15) dX10_takes_4 (by decide) ?_ ?_
  · refine sm_iconst (pc := 15) dX10_takes_15 (v := 0) (by decide) ?_
    exact sm_zret (pc := 16) dX10_takes_16 rfl
  · refine sm_aload_n (pc := 7) dX10_takes_7 rfl 0 rfl ?_
    refine sm_callVi (pc := 8) (As := []) (rest := []) dX10_takes_8 (c_X10_byteAt G l N μ) (by omega) wl_X10_173 vm_X10_byteAt rfl rfl (Nat.le_of_ble_eq_true rfl) (fun y2 μ1 => ?_)
    refine sm_iload_n (pc := 11) dX10_takes_11 rfl 1 rfl ?_
    refine sm_icmp_eq (pc := 12) (tgt := 17) dX10_takes_12 (by decide) ?_ ?_
    · refine sm_aload_n (pc := 17) dX10_takes_17 rfl 0 rfl ?_
      refine sm_dup (pc := 18) dX10_takes_18 rfl ?_
      refine sm_geti (pc := 19) dX10_takes_19 fi_X10_161 ?_
      refine sm_iconst (pc := 22) dX10_takes_22 (v := 1) (by decide) ?_
      refine sm_iadd (pc := 23) dX10_takes_23 ?_
      refine sm_puti (pc := 24) dX10_takes_24 fi_X10_161 ?_
      refine sm_nmM (fun μ3 => ?_)
      refine sm_iconst (pc := 27) dX10_takes_27 (v := 1) (by decide) ?_
      exact sm_zret (pc := 28) dX10_takes_28 rfl
    · refine sm_iconst (pc := 15) dX10_takes_15 (v := 0) (by decide) ?_
      exact sm_zret (pc := 16) dX10_takes_16 rfl
theorem c_X10_takes (G : am_G) (l : Launch) (N : Nat) (a1 : Int32) (μ : am_M) : ct_P G l am_ci 1 me_X10_takes [.ref (am_ad G 10 0), .int a1] μ (f_X10_takes N a1 μ) := ct_of (by decide +kernel) (Nat.le_of_ble_eq_true rfl) rfl (p_X10_takes_0 G l 1 (Nat.le_refl _) N a1 μ)

def f_X10_nameOf_0 (N : Nat) (a0 : Int32) (μ : am_M) : Option (Int32 × am_M) :=
if a0 = (98 : Int32) then (some ((5 : Int32), μ)) else (if a0 = (99 : Int32) then (some ((2 : Int32), μ)) else (if a0 = (100 : Int32) then (some ((-1 : Int32), μ)) else (if a0 = (101 : Int32) then (some ((-1 : Int32), μ)) else (if a0 = (102 : Int32) then (some ((-1 : Int32), μ)) else (if a0 = (103 : Int32) then (some ((-1 : Int32), μ)) else (if a0 = (104 : Int32) then (some ((-1 : Int32), μ)) else (if a0 = (105 : Int32) then (some ((-1 : Int32), μ)) else (if a0 = (106 : Int32) then (some ((-1 : Int32), μ)) else (if a0 = (107 : Int32) then (some ((1 : Int32), μ)) else (if a0 = (108 : Int32) then (some ((-1 : Int32), μ)) else (if a0 = (109 : Int32) then (some ((-1 : Int32), μ)) else (if a0 = (110 : Int32) then (some ((6 : Int32), μ)) else (if a0 = (111 : Int32) then (some ((-1 : Int32), μ)) else (if a0 = (112 : Int32) then (some ((3 : Int32), μ)) else (if a0 = (113 : Int32) then (some ((-1 : Int32), μ)) else (if a0 = (114 : Int32) then (some ((-1 : Int32), μ)) else (if a0 = (115 : Int32) then (some ((4 : Int32), μ)) else (if a0 = (116 : Int32) then (some ((0 : Int32), μ)) else (some ((-1 : Int32), μ))))))))))))))))))))
def f_X10_nameOf (N : Nat) (a0 : Int32) (μ : am_M) : Option (Int32 × am_M) := f_X10_nameOf_0 N a0 μ
set_option maxHeartbeats 4000000 in
set_option maxRecDepth 100000 in
theorem p_X10_nameOf_0 (G : am_G) (l : Launch) (d : Nat) (hd0 : 0 ≤ d) (N : Nat) (a0 : Int32) (μ : am_M) : sm_P G l am_ci d me_X10_nameOf 0 [(0, .int a0)] [] μ (f_X10_nameOf_0 N a0 μ) := by
  unfold f_X10_nameOf_0
  refine sm_iload_n (pc := 0) dX10_nameOf_0 rfl 0 rfl ?_
  refine sm_ite (fun e1 => ?_) (fun e1 => ?_)
  · refine sm_tsi (pc := 1) (c1 := 98) (off := 101) (tgt := 102) e1 dX10_nameOf_1 (by decide) (by decide) (by decide) (by decide) ?_
    refine sm_iconst (pc := 102) dX10_nameOf_102 (v := 5) (by decide) ?_
    exact sm_iret (pc := 103) dX10_nameOf_103 rfl
  refine sm_ite (fun e2 => ?_) (fun e2 => ?_)
  · refine sm_tsi (pc := 1) (c1 := 99) (off := 95) (tgt := 96) e2 dX10_nameOf_1 (by decide) (by decide) (by decide) (by decide) ?_
    refine sm_iconst (pc := 96) dX10_nameOf_96 (v := 2) (by decide) ?_
    exact sm_iret (pc := 97) dX10_nameOf_97 rfl
  refine sm_ite (fun e3 => ?_) (fun e3 => ?_)
  · refine sm_tsi (pc := 1) (c1 := 100) (off := 106) (tgt := 107) e3 dX10_nameOf_1 (by decide) (by decide) (by decide) (by decide) ?_
    refine sm_iconst (pc := 107) dX10_nameOf_107 (v := -1) (by decide) ?_
    exact sm_iret (pc := 108) dX10_nameOf_108 rfl
  refine sm_ite (fun e4 => ?_) (fun e4 => ?_)
  · refine sm_tsi (pc := 1) (c1 := 101) (off := 106) (tgt := 107) e4 dX10_nameOf_1 (by decide) (by decide) (by decide) (by decide) ?_
    refine sm_iconst (pc := 107) dX10_nameOf_107 (v := -1) (by decide) ?_
    exact sm_iret (pc := 108) dX10_nameOf_108 rfl
  refine sm_ite (fun e5 => ?_) (fun e5 => ?_)
  · refine sm_tsi (pc := 1) (c1 := 102) (off := 106) (tgt := 107) e5 dX10_nameOf_1 (by decide) (by decide) (by decide) (by decide) ?_
    refine sm_iconst (pc := 107) dX10_nameOf_107 (v := -1) (by decide) ?_
    exact sm_iret (pc := 108) dX10_nameOf_108 rfl
  refine sm_ite (fun e6 => ?_) (fun e6 => ?_)
  · refine sm_tsi (pc := 1) (c1 := 103) (off := 106) (tgt := 107) e6 dX10_nameOf_1 (by decide) (by decide) (by decide) (by decide) ?_
    refine sm_iconst (pc := 107) dX10_nameOf_107 (v := -1) (by decide) ?_
    exact sm_iret (pc := 108) dX10_nameOf_108 rfl
  refine sm_ite (fun e7 => ?_) (fun e7 => ?_)
  · refine sm_tsi (pc := 1) (c1 := 104) (off := 106) (tgt := 107) e7 dX10_nameOf_1 (by decide) (by decide) (by decide) (by decide) ?_
    refine sm_iconst (pc := 107) dX10_nameOf_107 (v := -1) (by decide) ?_
    exact sm_iret (pc := 108) dX10_nameOf_108 rfl
  refine sm_ite (fun e8 => ?_) (fun e8 => ?_)
  · refine sm_tsi (pc := 1) (c1 := 105) (off := 106) (tgt := 107) e8 dX10_nameOf_1 (by decide) (by decide) (by decide) (by decide) ?_
    refine sm_iconst (pc := 107) dX10_nameOf_107 (v := -1) (by decide) ?_
    exact sm_iret (pc := 108) dX10_nameOf_108 rfl
  refine sm_ite (fun e9 => ?_) (fun e9 => ?_)
  · refine sm_tsi (pc := 1) (c1 := 106) (off := 106) (tgt := 107) e9 dX10_nameOf_1 (by decide) (by decide) (by decide) (by decide) ?_
    refine sm_iconst (pc := 107) dX10_nameOf_107 (v := -1) (by decide) ?_
    exact sm_iret (pc := 108) dX10_nameOf_108 rfl
  refine sm_ite (fun e10 => ?_) (fun e10 => ?_)
  · refine sm_tsi (pc := 1) (c1 := 107) (off := 93) (tgt := 94) e10 dX10_nameOf_1 (by decide) (by decide) (by decide) (by decide) ?_
    refine sm_iconst (pc := 94) dX10_nameOf_94 (v := 1) (by decide) ?_
    exact sm_iret (pc := 95) dX10_nameOf_95 rfl
  refine sm_ite (fun e11 => ?_) (fun e11 => ?_)
  · refine sm_tsi (pc := 1) (c1 := 108) (off := 106) (tgt := 107) e11 dX10_nameOf_1 (by decide) (by decide) (by decide) (by decide) ?_
    refine sm_iconst (pc := 107) dX10_nameOf_107 (v := -1) (by decide) ?_
    exact sm_iret (pc := 108) dX10_nameOf_108 rfl
  refine sm_ite (fun e12 => ?_) (fun e12 => ?_)
  · refine sm_tsi (pc := 1) (c1 := 109) (off := 106) (tgt := 107) e12 dX10_nameOf_1 (by decide) (by decide) (by decide) (by decide) ?_
    refine sm_iconst (pc := 107) dX10_nameOf_107 (v := -1) (by decide) ?_
    exact sm_iret (pc := 108) dX10_nameOf_108 rfl
  refine sm_ite (fun e13 => ?_) (fun e13 => ?_)
  · refine sm_tsi (pc := 1) (c1 := 110) (off := 103) (tgt := 104) e13 dX10_nameOf_1 (by decide) (by decide) (by decide) (by decide) ?_
    refine sm_bipush (pc := 104) dX10_nameOf_104 (v := 6) (by decide) ?_
    exact sm_iret (pc := 106) dX10_nameOf_106 rfl
  refine sm_ite (fun e14 => ?_) (fun e14 => ?_)
  · refine sm_tsi (pc := 1) (c1 := 111) (off := 106) (tgt := 107) e14 dX10_nameOf_1 (by decide) (by decide) (by decide) (by decide) ?_
    refine sm_iconst (pc := 107) dX10_nameOf_107 (v := -1) (by decide) ?_
    exact sm_iret (pc := 108) dX10_nameOf_108 rfl
  refine sm_ite (fun e15 => ?_) (fun e15 => ?_)
  · refine sm_tsi (pc := 1) (c1 := 112) (off := 97) (tgt := 98) e15 dX10_nameOf_1 (by decide) (by decide) (by decide) (by decide) ?_
    refine sm_iconst (pc := 98) dX10_nameOf_98 (v := 3) (by decide) ?_
    exact sm_iret (pc := 99) dX10_nameOf_99 rfl
  refine sm_ite (fun e16 => ?_) (fun e16 => ?_)
  · refine sm_tsi (pc := 1) (c1 := 113) (off := 106) (tgt := 107) e16 dX10_nameOf_1 (by decide) (by decide) (by decide) (by decide) ?_
    refine sm_iconst (pc := 107) dX10_nameOf_107 (v := -1) (by decide) ?_
    exact sm_iret (pc := 108) dX10_nameOf_108 rfl
  refine sm_ite (fun e17 => ?_) (fun e17 => ?_)
  · refine sm_tsi (pc := 1) (c1 := 114) (off := 106) (tgt := 107) e17 dX10_nameOf_1 (by decide) (by decide) (by decide) (by decide) ?_
    refine sm_iconst (pc := 107) dX10_nameOf_107 (v := -1) (by decide) ?_
    exact sm_iret (pc := 108) dX10_nameOf_108 rfl
  refine sm_ite (fun e18 => ?_) (fun e18 => ?_)
  · refine sm_tsi (pc := 1) (c1 := 115) (off := 99) (tgt := 100) e18 dX10_nameOf_1 (by decide) (by decide) (by decide) (by decide) ?_
    refine sm_iconst (pc := 100) dX10_nameOf_100 (v := 4) (by decide) ?_
    exact sm_iret (pc := 101) dX10_nameOf_101 rfl
  refine sm_ite (fun e19 => ?_) (fun e19 => ?_)
  · refine sm_tsi (pc := 1) (c1 := 116) (off := 91) (tgt := 92) e19 dX10_nameOf_1 (by decide) (by decide) (by decide) (by decide) ?_
    refine sm_iconst (pc := 92) dX10_nameOf_92 (v := 0) (by decide) ?_
    exact sm_iret (pc := 93) dX10_nameOf_93 rfl
  replace e1 := am_ne (n := 98) (by decide) e1
  replace e2 := am_ne (n := 99) (by decide) e2
  replace e3 := am_ne (n := 100) (by decide) e3
  replace e4 := am_ne (n := 101) (by decide) e4
  replace e5 := am_ne (n := 102) (by decide) e5
  replace e6 := am_ne (n := 103) (by decide) e6
  replace e7 := am_ne (n := 104) (by decide) e7
  replace e8 := am_ne (n := 105) (by decide) e8
  replace e9 := am_ne (n := 106) (by decide) e9
  replace e10 := am_ne (n := 107) (by decide) e10
  replace e11 := am_ne (n := 108) (by decide) e11
  replace e12 := am_ne (n := 109) (by decide) e12
  replace e13 := am_ne (n := 110) (by decide) e13
  replace e14 := am_ne (n := 111) (by decide) e14
  replace e15 := am_ne (n := 112) (by decide) e15
  replace e16 := am_ne (n := 113) (by decide) e16
  replace e17 := am_ne (n := 114) (by decide) e17
  replace e18 := am_ne (n := 115) (by decide) e18
  replace e19 := am_ne (n := 116) (by decide) e19
  refine sm_tso (pc := 1) (tgt := 107) dX10_nameOf_1 (by omega) (by decide) ?_
  refine sm_iconst (pc := 107) dX10_nameOf_107 (v := -1) (by decide) ?_
  exact sm_iret (pc := 108) dX10_nameOf_108 rfl
theorem c_X10_nameOf (G : am_G) (l : Launch) (N : Nat) (a0 : Int32) (μ : am_M) : ct_P G l am_ci 0 me_X10_nameOf [.int a0] μ (f_X10_nameOf N a0 μ) := ct_of (by decide +kernel) (Nat.le_of_ble_eq_true rfl) rfl (p_X10_nameOf_0 G l 0 (Nat.le_refl _) N a0 μ)

def f_X10_both_32 (N : Nat) (g_X10_both : am_M → Option (Int32 × am_M)) (g_X10_compared : am_M → Option (Int32 × am_M)) (g_X10_either : am_M → Option (Int32 × am_M)) (g_X10_one : am_M → Option (Int32 × am_M)) (g_X10_product : am_M → Option (Int32 × am_M)) (g_X10_sums : am_M → Option (Int32 × am_M)) (r_5 : Int32 → am_M → Option (Int32 × am_M)) (s0 : Int32) (μ : am_M) : Option (Int32 × am_M) :=
r_5 s0 μ
def f_X10_both_31 (N : Nat) (g_X10_both : am_M → Option (Int32 × am_M)) (g_X10_compared : am_M → Option (Int32 × am_M)) (g_X10_either : am_M → Option (Int32 × am_M)) (g_X10_one : am_M → Option (Int32 × am_M)) (g_X10_product : am_M → Option (Int32 × am_M)) (g_X10_sums : am_M → Option (Int32 × am_M)) (r_5 : Int32 → am_M → Option (Int32 × am_M)) (μ : am_M) : Option (Int32 × am_M) :=
f_X10_both_32 N g_X10_both g_X10_compared g_X10_either g_X10_one g_X10_product g_X10_sums r_5 (0 : Int32) μ
def f_X10_both_5 (N : Nat) (g_X10_both : am_M → Option (Int32 × am_M)) (g_X10_compared : am_M → Option (Int32 × am_M)) (g_X10_either : am_M → Option (Int32 × am_M)) (g_X10_one : am_M → Option (Int32 × am_M)) (g_X10_product : am_M → Option (Int32 × am_M)) (g_X10_sums : am_M → Option (Int32 × am_M)) (r_5 : Int32 → am_M → Option (Int32 × am_M)) (x1 : Int32) (μ : am_M) : Option (Int32 × am_M) :=
am_bd (f_X10_takes N (38 : Int32) μ) (fun y4 μ3 => if y4 = 0 then (some (x1, μ3)) else (am_bd (g_X10_compared μ3) (fun y6 μ5 => if x1 = 0 then (f_X10_both_31 N g_X10_both g_X10_compared g_X10_either g_X10_one g_X10_product g_X10_sums r_5 μ5) else (if y6 = 0 then (f_X10_both_31 N g_X10_both g_X10_compared g_X10_either g_X10_one g_X10_product g_X10_sums r_5 μ5) else (f_X10_both_32 N g_X10_both g_X10_compared g_X10_either g_X10_one g_X10_product g_X10_sums r_5 (1 : Int32) μ5)))))
def f_X10_both_5_lp (N : Nat) (g_X10_both : am_M → Option (Int32 × am_M)) (g_X10_compared : am_M → Option (Int32 × am_M)) (g_X10_either : am_M → Option (Int32 × am_M)) (g_X10_one : am_M → Option (Int32 × am_M)) (g_X10_product : am_M → Option (Int32 × am_M)) (g_X10_sums : am_M → Option (Int32 × am_M)) : Nat → Int32 → am_M → Option (Int32 × am_M)
  | 0, _, _ => none
  | n + 1, x1, μ => f_X10_both_5 N g_X10_both g_X10_compared g_X10_either g_X10_one g_X10_product g_X10_sums (f_X10_both_5_lp N g_X10_both g_X10_compared g_X10_either g_X10_one g_X10_product g_X10_sums n) x1 μ
def f_X10_both_0 (N : Nat) (g_X10_both : am_M → Option (Int32 × am_M)) (g_X10_compared : am_M → Option (Int32 × am_M)) (g_X10_either : am_M → Option (Int32 × am_M)) (g_X10_one : am_M → Option (Int32 × am_M)) (g_X10_product : am_M → Option (Int32 × am_M)) (g_X10_sums : am_M → Option (Int32 × am_M)) (μ : am_M) : Option (Int32 × am_M) :=
am_bd (g_X10_compared μ) (fun y2 μ1 => f_X10_both_5_lp N g_X10_both g_X10_compared g_X10_either g_X10_one g_X10_product g_X10_sums N y2 μ1)
def f_X10_compared_85 (N : Nat) (g_X10_both : am_M → Option (Int32 × am_M)) (g_X10_compared : am_M → Option (Int32 × am_M)) (g_X10_either : am_M → Option (Int32 × am_M)) (g_X10_one : am_M → Option (Int32 × am_M)) (g_X10_product : am_M → Option (Int32 × am_M)) (g_X10_sums : am_M → Option (Int32 × am_M)) (μ : am_M) : Option (Int32 × am_M) :=
some ((1 : Int32), μ)
def f_X10_compared_37 (N : Nat) (g_X10_both : am_M → Option (Int32 × am_M)) (g_X10_compared : am_M → Option (Int32 × am_M)) (g_X10_either : am_M → Option (Int32 × am_M)) (g_X10_one : am_M → Option (Int32 × am_M)) (g_X10_product : am_M → Option (Int32 × am_M)) (g_X10_sums : am_M → Option (Int32 × am_M)) (x1 : Int32) (x2 : Int32) (μ : am_M) : Option (Int32 × am_M) :=
am_nm (am_ui μ 10 0 19 ((μ.1 10 0 19) + (1 : Int32))) (fun μ5 => am_bd (g_X10_sums μ5) (fun y7 μ6 => if x2 = (60 : Int32) then (if y7 ≤ x1 then (some ((0 : Int32), μ6)) else (f_X10_compared_85 N g_X10_both g_X10_compared g_X10_either g_X10_one g_X10_product g_X10_sums μ6)) else (if x2 = (61 : Int32) then (if x1 = y7 then (f_X10_compared_85 N g_X10_both g_X10_compared g_X10_either g_X10_one g_X10_product g_X10_sums μ6) else (some ((0 : Int32), μ6))) else (if x1 ≤ y7 then (some ((0 : Int32), μ6)) else (f_X10_compared_85 N g_X10_both g_X10_compared g_X10_either g_X10_one g_X10_product g_X10_sums μ6)))))
def f_X10_compared_0 (N : Nat) (g_X10_both : am_M → Option (Int32 × am_M)) (g_X10_compared : am_M → Option (Int32 × am_M)) (g_X10_either : am_M → Option (Int32 × am_M)) (g_X10_one : am_M → Option (Int32 × am_M)) (g_X10_product : am_M → Option (Int32 × am_M)) (g_X10_sums : am_M → Option (Int32 × am_M)) (μ : am_M) : Option (Int32 × am_M) :=
am_bd (g_X10_sums μ) (fun y2 μ1 => am_bd (f_X10_byteAt N μ1) (fun y4 μ3 => if 0 ≤ (μ3.1 10 0 21) then (some (y2, μ3)) else (if y4 = (60 : Int32) then (f_X10_compared_37 N g_X10_both g_X10_compared g_X10_either g_X10_one g_X10_product g_X10_sums y2 y4 μ3) else (if y4 = (61 : Int32) then (f_X10_compared_37 N g_X10_both g_X10_compared g_X10_either g_X10_one g_X10_product g_X10_sums y2 y4 μ3) else (if y4 = (62 : Int32) then (f_X10_compared_37 N g_X10_both g_X10_compared g_X10_either g_X10_one g_X10_product g_X10_sums y2 y4 μ3) else (some (y2, μ3)))))))
def f_X10_either_32 (N : Nat) (g_X10_both : am_M → Option (Int32 × am_M)) (g_X10_compared : am_M → Option (Int32 × am_M)) (g_X10_either : am_M → Option (Int32 × am_M)) (g_X10_one : am_M → Option (Int32 × am_M)) (g_X10_product : am_M → Option (Int32 × am_M)) (g_X10_sums : am_M → Option (Int32 × am_M)) (r_5 : Int32 → am_M → Option (Int32 × am_M)) (s0 : Int32) (μ : am_M) : Option (Int32 × am_M) :=
r_5 s0 μ
def f_X10_either_27 (N : Nat) (g_X10_both : am_M → Option (Int32 × am_M)) (g_X10_compared : am_M → Option (Int32 × am_M)) (g_X10_either : am_M → Option (Int32 × am_M)) (g_X10_one : am_M → Option (Int32 × am_M)) (g_X10_product : am_M → Option (Int32 × am_M)) (g_X10_sums : am_M → Option (Int32 × am_M)) (r_5 : Int32 → am_M → Option (Int32 × am_M)) (μ : am_M) : Option (Int32 × am_M) :=
f_X10_either_32 N g_X10_both g_X10_compared g_X10_either g_X10_one g_X10_product g_X10_sums r_5 (1 : Int32) μ
def f_X10_either_5 (N : Nat) (g_X10_both : am_M → Option (Int32 × am_M)) (g_X10_compared : am_M → Option (Int32 × am_M)) (g_X10_either : am_M → Option (Int32 × am_M)) (g_X10_one : am_M → Option (Int32 × am_M)) (g_X10_product : am_M → Option (Int32 × am_M)) (g_X10_sums : am_M → Option (Int32 × am_M)) (r_5 : Int32 → am_M → Option (Int32 × am_M)) (x1 : Int32) (μ : am_M) : Option (Int32 × am_M) :=
am_bd (f_X10_takes N (124 : Int32) μ) (fun y4 μ3 => if y4 = 0 then (some (x1, μ3)) else (am_bd (g_X10_both μ3) (fun y6 μ5 => if x1 = 0 then (if y6 = 0 then (f_X10_either_32 N g_X10_both g_X10_compared g_X10_either g_X10_one g_X10_product g_X10_sums r_5 (0 : Int32) μ5) else (f_X10_either_27 N g_X10_both g_X10_compared g_X10_either g_X10_one g_X10_product g_X10_sums r_5 μ5)) else (f_X10_either_27 N g_X10_both g_X10_compared g_X10_either g_X10_one g_X10_product g_X10_sums r_5 μ5))))
def f_X10_either_5_lp (N : Nat) (g_X10_both : am_M → Option (Int32 × am_M)) (g_X10_compared : am_M → Option (Int32 × am_M)) (g_X10_either : am_M → Option (Int32 × am_M)) (g_X10_one : am_M → Option (Int32 × am_M)) (g_X10_product : am_M → Option (Int32 × am_M)) (g_X10_sums : am_M → Option (Int32 × am_M)) : Nat → Int32 → am_M → Option (Int32 × am_M)
  | 0, _, _ => none
  | n + 1, x1, μ => f_X10_either_5 N g_X10_both g_X10_compared g_X10_either g_X10_one g_X10_product g_X10_sums (f_X10_either_5_lp N g_X10_both g_X10_compared g_X10_either g_X10_one g_X10_product g_X10_sums n) x1 μ
def f_X10_either_0 (N : Nat) (g_X10_both : am_M → Option (Int32 × am_M)) (g_X10_compared : am_M → Option (Int32 × am_M)) (g_X10_either : am_M → Option (Int32 × am_M)) (g_X10_one : am_M → Option (Int32 × am_M)) (g_X10_product : am_M → Option (Int32 × am_M)) (g_X10_sums : am_M → Option (Int32 × am_M)) (μ : am_M) : Option (Int32 × am_M) :=
am_bd (g_X10_both μ) (fun y2 μ1 => f_X10_either_5_lp N g_X10_both g_X10_compared g_X10_either g_X10_one g_X10_product g_X10_sums N y2 μ1)
def f_X10_one_104 (N : Nat) (g_X10_both : am_M → Option (Int32 × am_M)) (g_X10_compared : am_M → Option (Int32 × am_M)) (g_X10_either : am_M → Option (Int32 × am_M)) (g_X10_one : am_M → Option (Int32 × am_M)) (g_X10_product : am_M → Option (Int32 × am_M)) (g_X10_sums : am_M → Option (Int32 × am_M)) (x1 : Int32) (x2 : Int32) (μ : am_M) : Option (Int32 × am_M) :=
am_nm (am_ui μ 10 0 22 ((μ.1 10 0 22) - (1 : Int32))) (fun μ7 => if x1 = (40 : Int32) then (some (x2, μ7)) else (if x1 = (45 : Int32) then (some ((-x2), μ7)) else (if x2 = 0 then (some ((1 : Int32), μ7)) else (some ((0 : Int32), μ7)))))
def f_X10_one_83 (N : Nat) (g_X10_both : am_M → Option (Int32 × am_M)) (g_X10_compared : am_M → Option (Int32 × am_M)) (g_X10_either : am_M → Option (Int32 × am_M)) (g_X10_one : am_M → Option (Int32 × am_M)) (g_X10_product : am_M → Option (Int32 × am_M)) (g_X10_sums : am_M → Option (Int32 × am_M)) (x1 : Int32) (s0 : Int32) (μ : am_M) : Option (Int32 × am_M) :=
if x1 = (40 : Int32) then (am_bd (f_X10_takes N (41 : Int32) μ) (fun y9 μ8 => if y9 = 0 then (am_bd (f_X10_fails N μ8) (fun y11 μ10 => some (y11, μ10))) else (f_X10_one_104 N g_X10_both g_X10_compared g_X10_either g_X10_one g_X10_product g_X10_sums x1 s0 μ8))) else (f_X10_one_104 N g_X10_both g_X10_compared g_X10_either g_X10_one g_X10_product g_X10_sums x1 s0 μ)
def f_X10_one_32 (N : Nat) (g_X10_both : am_M → Option (Int32 × am_M)) (g_X10_compared : am_M → Option (Int32 × am_M)) (g_X10_either : am_M → Option (Int32 × am_M)) (g_X10_one : am_M → Option (Int32 × am_M)) (g_X10_product : am_M → Option (Int32 × am_M)) (g_X10_sums : am_M → Option (Int32 × am_M)) (x1 : Int32) (μ : am_M) : Option (Int32 × am_M) :=
if (μ.1 10 0 22) = (6 : Int32) then (am_bd (f_X10_fails N μ) (fun y15 μ14 => some (y15, μ14))) else (am_nm (am_ui μ 10 0 22 ((μ.1 10 0 22) + (1 : Int32))) (fun μ3 => am_nm (am_ui μ3 10 0 19 ((μ3.1 10 0 19) + (1 : Int32))) (fun μ4 => if x1 = (40 : Int32) then (am_bd (g_X10_either μ4) (fun y13 μ12 => f_X10_one_83 N g_X10_both g_X10_compared g_X10_either g_X10_one g_X10_product g_X10_sums x1 y13 μ12)) else (am_bd (g_X10_one μ4) (fun y6 μ5 => f_X10_one_83 N g_X10_both g_X10_compared g_X10_either g_X10_one g_X10_product g_X10_sums x1 y6 μ5)))))
def f_X10_one_229 (N : Nat) (g_X10_both : am_M → Option (Int32 × am_M)) (g_X10_compared : am_M → Option (Int32 × am_M)) (g_X10_either : am_M → Option (Int32 × am_M)) (g_X10_one : am_M → Option (Int32 × am_M)) (g_X10_product : am_M → Option (Int32 × am_M)) (g_X10_sums : am_M → Option (Int32 × am_M)) (x3 : Int32) (x4 : Int32) (μ : am_M) : Option (Int32 × am_M) :=
if x4 = 0 then (am_bd (f_X10_fails N μ) (fun y19 μ18 => some (y19, μ18))) else (some (x3, μ))
def f_X10_one_176 (N : Nat) (g_X10_both : am_M → Option (Int32 × am_M)) (g_X10_compared : am_M → Option (Int32 × am_M)) (g_X10_either : am_M → Option (Int32 × am_M)) (g_X10_one : am_M → Option (Int32 × am_M)) (g_X10_product : am_M → Option (Int32 × am_M)) (g_X10_sums : am_M → Option (Int32 × am_M)) (r_176 : Int32 → Int32 → am_M → Option (Int32 × am_M)) (x3 : Int32) (x4 : Int32) (μ : am_M) : Option (Int32 × am_M) :=
if (4 : Int32) ≤ x4 then (f_X10_one_229 N g_X10_both g_X10_compared g_X10_either g_X10_one g_X10_product g_X10_sums x3 x4 μ) else (am_bd (f_X10_byteAt N μ) (fun y21 μ20 => if y21 < (48 : Int32) then (f_X10_one_229 N g_X10_both g_X10_compared g_X10_either g_X10_one g_X10_product g_X10_sums x3 x4 μ20) else (am_bd (f_X10_byteAt N μ20) (fun y23 μ22 => if (57 : Int32) < y23 then (f_X10_one_229 N g_X10_both g_X10_compared g_X10_either g_X10_one g_X10_product g_X10_sums x3 x4 μ22) else (am_bd (f_X10_byteAt N μ22) (fun y25 μ24 => am_nm ((((10 : Int32) * x3) + y25) - (48 : Int32)) (fun y26 => am_nm (am_ui μ24 10 0 19 ((μ24.1 10 0 19) + (1 : Int32))) (fun μ27 => r_176 y26 (x4 + (1 : Int32)) μ27))))))))
def f_X10_one_176_lp (N : Nat) (g_X10_both : am_M → Option (Int32 × am_M)) (g_X10_compared : am_M → Option (Int32 × am_M)) (g_X10_either : am_M → Option (Int32 × am_M)) (g_X10_one : am_M → Option (Int32 × am_M)) (g_X10_product : am_M → Option (Int32 × am_M)) (g_X10_sums : am_M → Option (Int32 × am_M)) : Nat → Int32 → Int32 → am_M → Option (Int32 × am_M)
  | 0, _, _, _ => none
  | n + 1, x3, x4, μ => f_X10_one_176 N g_X10_both g_X10_compared g_X10_either g_X10_one g_X10_product g_X10_sums (f_X10_one_176_lp N g_X10_both g_X10_compared g_X10_either g_X10_one g_X10_product g_X10_sums n) x3 x4 μ
def f_X10_one_0 (N : Nat) (g_X10_both : am_M → Option (Int32 × am_M)) (g_X10_compared : am_M → Option (Int32 × am_M)) (g_X10_either : am_M → Option (Int32 × am_M)) (g_X10_one : am_M → Option (Int32 × am_M)) (g_X10_product : am_M → Option (Int32 × am_M)) (g_X10_sums : am_M → Option (Int32 × am_M)) (μ : am_M) : Option (Int32 × am_M) :=
if (μ.1 10 0 21) < 0 then (am_bd (f_X10_byteAt N μ) (fun y2 μ1 => if y2 = (33 : Int32) then (f_X10_one_32 N g_X10_both g_X10_compared g_X10_either g_X10_one g_X10_product g_X10_sums y2 μ1) else (if y2 = (45 : Int32) then (f_X10_one_32 N g_X10_both g_X10_compared g_X10_either g_X10_one g_X10_product g_X10_sums y2 μ1) else (if y2 = (40 : Int32) then (f_X10_one_32 N g_X10_both g_X10_compared g_X10_either g_X10_one g_X10_product g_X10_sums y2 μ1) else (am_bd (f_X10_nameOf N y2 μ1) (fun y17 μ16 => if y17 < 0 then (f_X10_one_176_lp N g_X10_both g_X10_compared g_X10_either g_X10_one g_X10_product g_X10_sums N (0 : Int32) (0 : Int32) μ16) else (am_nm (am_ui μ16 10 0 19 ((μ16.1 10 0 19) + (1 : Int32))) (fun μ28 => am_gd y17 7 (fun j29 => some ((μ28.1 183 0 j29), μ28)))))))))) else (some ((0 : Int32), μ))
def f_X10_product_85 (N : Nat) (g_X10_both : am_M → Option (Int32 × am_M)) (g_X10_compared : am_M → Option (Int32 × am_M)) (g_X10_either : am_M → Option (Int32 × am_M)) (g_X10_one : am_M → Option (Int32 × am_M)) (g_X10_product : am_M → Option (Int32 × am_M)) (g_X10_sums : am_M → Option (Int32 × am_M)) (r_10 : Int32 → Int32 → am_M → Option (Int32 × am_M)) (s0 : Int32) (μ : am_M) : Option (Int32 × am_M) :=
am_bd (f_X10_byteAt N μ) (fun y9 μ8 => r_10 s0 y9 μ8)
def f_X10_product_35 (N : Nat) (g_X10_both : am_M → Option (Int32 × am_M)) (g_X10_compared : am_M → Option (Int32 × am_M)) (g_X10_either : am_M → Option (Int32 × am_M)) (g_X10_one : am_M → Option (Int32 × am_M)) (g_X10_product : am_M → Option (Int32 × am_M)) (g_X10_sums : am_M → Option (Int32 × am_M)) (r_10 : Int32 → Int32 → am_M → Option (Int32 × am_M)) (x1 : Int32) (x2 : Int32) (μ : am_M) : Option (Int32 × am_M) :=
am_nm (am_ui μ 10 0 19 ((μ.1 10 0 19) + (1 : Int32))) (fun μ5 => am_bd (g_X10_one μ5) (fun y7 μ6 => if x2 = (42 : Int32) then (f_X10_product_85 N g_X10_both g_X10_compared g_X10_either g_X10_one g_X10_product g_X10_sums r_10 (x1 * y7) μ6) else (if y7 = 0 then (f_X10_product_85 N g_X10_both g_X10_compared g_X10_either g_X10_one g_X10_product g_X10_sums r_10 (0 : Int32) μ6) else (if x2 = (47 : Int32) then (am_dv y7 (f_X10_product_85 N g_X10_both g_X10_compared g_X10_either g_X10_one g_X10_product g_X10_sums r_10 (x1 / y7) μ6)) else (am_dv y7 (f_X10_product_85 N g_X10_both g_X10_compared g_X10_either g_X10_one g_X10_product g_X10_sums r_10 (am_rem x1 y7) μ6))))))
def f_X10_product_10 (N : Nat) (g_X10_both : am_M → Option (Int32 × am_M)) (g_X10_compared : am_M → Option (Int32 × am_M)) (g_X10_either : am_M → Option (Int32 × am_M)) (g_X10_one : am_M → Option (Int32 × am_M)) (g_X10_product : am_M → Option (Int32 × am_M)) (g_X10_sums : am_M → Option (Int32 × am_M)) (r_10 : Int32 → Int32 → am_M → Option (Int32 × am_M)) (x1 : Int32) (x2 : Int32) (μ : am_M) : Option (Int32 × am_M) :=
if 0 ≤ (μ.1 10 0 21) then (some (x1, μ)) else (if x2 = (42 : Int32) then (f_X10_product_35 N g_X10_both g_X10_compared g_X10_either g_X10_one g_X10_product g_X10_sums r_10 x1 x2 μ) else (if x2 = (47 : Int32) then (f_X10_product_35 N g_X10_both g_X10_compared g_X10_either g_X10_one g_X10_product g_X10_sums r_10 x1 x2 μ) else (if x2 = (37 : Int32) then (f_X10_product_35 N g_X10_both g_X10_compared g_X10_either g_X10_one g_X10_product g_X10_sums r_10 x1 x2 μ) else (some (x1, μ)))))
def f_X10_product_10_lp (N : Nat) (g_X10_both : am_M → Option (Int32 × am_M)) (g_X10_compared : am_M → Option (Int32 × am_M)) (g_X10_either : am_M → Option (Int32 × am_M)) (g_X10_one : am_M → Option (Int32 × am_M)) (g_X10_product : am_M → Option (Int32 × am_M)) (g_X10_sums : am_M → Option (Int32 × am_M)) : Nat → Int32 → Int32 → am_M → Option (Int32 × am_M)
  | 0, _, _, _ => none
  | n + 1, x1, x2, μ => f_X10_product_10 N g_X10_both g_X10_compared g_X10_either g_X10_one g_X10_product g_X10_sums (f_X10_product_10_lp N g_X10_both g_X10_compared g_X10_either g_X10_one g_X10_product g_X10_sums n) x1 x2 μ
def f_X10_product_0 (N : Nat) (g_X10_both : am_M → Option (Int32 × am_M)) (g_X10_compared : am_M → Option (Int32 × am_M)) (g_X10_either : am_M → Option (Int32 × am_M)) (g_X10_one : am_M → Option (Int32 × am_M)) (g_X10_product : am_M → Option (Int32 × am_M)) (g_X10_sums : am_M → Option (Int32 × am_M)) (μ : am_M) : Option (Int32 × am_M) :=
am_bd (g_X10_one μ) (fun y2 μ1 => am_bd (f_X10_byteAt N μ1) (fun y4 μ3 => f_X10_product_10_lp N g_X10_both g_X10_compared g_X10_either g_X10_one g_X10_product g_X10_sums N y2 y4 μ3))
def f_X10_sums_73 (N : Nat) (g_X10_both : am_M → Option (Int32 × am_M)) (g_X10_compared : am_M → Option (Int32 × am_M)) (g_X10_either : am_M → Option (Int32 × am_M)) (g_X10_one : am_M → Option (Int32 × am_M)) (g_X10_product : am_M → Option (Int32 × am_M)) (g_X10_sums : am_M → Option (Int32 × am_M)) (r_5 : Int32 → am_M → Option (Int32 × am_M)) (s0 : Int32) (μ : am_M) : Option (Int32 × am_M) :=
r_5 s0 μ
def f_X10_sums_44 (N : Nat) (g_X10_both : am_M → Option (Int32 × am_M)) (g_X10_compared : am_M → Option (Int32 × am_M)) (g_X10_either : am_M → Option (Int32 × am_M)) (g_X10_one : am_M → Option (Int32 × am_M)) (g_X10_product : am_M → Option (Int32 × am_M)) (g_X10_sums : am_M → Option (Int32 × am_M)) (r_5 : Int32 → am_M → Option (Int32 × am_M)) (x1 : Int32) (s0 : Int32) (μ : am_M) : Option (Int32 × am_M) :=
am_nm (am_ui μ 10 0 19 ((μ.1 10 0 19) + (1 : Int32))) (fun μ7 => am_bd (g_X10_product μ7) (fun y9 μ8 => if s0 = 0 then (f_X10_sums_73 N g_X10_both g_X10_compared g_X10_either g_X10_one g_X10_product g_X10_sums r_5 (x1 - y9) μ8) else (f_X10_sums_73 N g_X10_both g_X10_compared g_X10_either g_X10_one g_X10_product g_X10_sums r_5 (x1 + y9) μ8)))
def f_X10_sums_30 (N : Nat) (g_X10_both : am_M → Option (Int32 × am_M)) (g_X10_compared : am_M → Option (Int32 × am_M)) (g_X10_either : am_M → Option (Int32 × am_M)) (g_X10_one : am_M → Option (Int32 × am_M)) (g_X10_product : am_M → Option (Int32 × am_M)) (g_X10_sums : am_M → Option (Int32 × am_M)) (r_5 : Int32 → am_M → Option (Int32 × am_M)) (x1 : Int32) (μ : am_M) : Option (Int32 × am_M) :=
am_bd (f_X10_byteAt N μ) (fun y6 μ5 => if y6 = (43 : Int32) then (f_X10_sums_44 N g_X10_both g_X10_compared g_X10_either g_X10_one g_X10_product g_X10_sums r_5 x1 (1 : Int32) μ5) else (f_X10_sums_44 N g_X10_both g_X10_compared g_X10_either g_X10_one g_X10_product g_X10_sums r_5 x1 (0 : Int32) μ5))
def f_X10_sums_5 (N : Nat) (g_X10_both : am_M → Option (Int32 × am_M)) (g_X10_compared : am_M → Option (Int32 × am_M)) (g_X10_either : am_M → Option (Int32 × am_M)) (g_X10_one : am_M → Option (Int32 × am_M)) (g_X10_product : am_M → Option (Int32 × am_M)) (g_X10_sums : am_M → Option (Int32 × am_M)) (r_5 : Int32 → am_M → Option (Int32 × am_M)) (x1 : Int32) (μ : am_M) : Option (Int32 × am_M) :=
if 0 ≤ (μ.1 10 0 21) then (some (x1, μ)) else (am_bd (f_X10_byteAt N μ) (fun y4 μ3 => if y4 = (43 : Int32) then (f_X10_sums_30 N g_X10_both g_X10_compared g_X10_either g_X10_one g_X10_product g_X10_sums r_5 x1 μ3) else (am_bd (f_X10_byteAt N μ3) (fun y11 μ10 => if y11 = (45 : Int32) then (f_X10_sums_30 N g_X10_both g_X10_compared g_X10_either g_X10_one g_X10_product g_X10_sums r_5 x1 μ10) else (some (x1, μ10))))))
def f_X10_sums_5_lp (N : Nat) (g_X10_both : am_M → Option (Int32 × am_M)) (g_X10_compared : am_M → Option (Int32 × am_M)) (g_X10_either : am_M → Option (Int32 × am_M)) (g_X10_one : am_M → Option (Int32 × am_M)) (g_X10_product : am_M → Option (Int32 × am_M)) (g_X10_sums : am_M → Option (Int32 × am_M)) : Nat → Int32 → am_M → Option (Int32 × am_M)
  | 0, _, _ => none
  | n + 1, x1, μ => f_X10_sums_5 N g_X10_both g_X10_compared g_X10_either g_X10_one g_X10_product g_X10_sums (f_X10_sums_5_lp N g_X10_both g_X10_compared g_X10_either g_X10_one g_X10_product g_X10_sums n) x1 μ
def f_X10_sums_0 (N : Nat) (g_X10_both : am_M → Option (Int32 × am_M)) (g_X10_compared : am_M → Option (Int32 × am_M)) (g_X10_either : am_M → Option (Int32 × am_M)) (g_X10_one : am_M → Option (Int32 × am_M)) (g_X10_product : am_M → Option (Int32 × am_M)) (g_X10_sums : am_M → Option (Int32 × am_M)) (μ : am_M) : Option (Int32 × am_M) :=
am_bd (g_X10_product μ) (fun y2 μ1 => f_X10_sums_5_lp N g_X10_both g_X10_compared g_X10_either g_X10_one g_X10_product g_X10_sums N y2 μ1)
def f_X10_both_g (N : Nat) : Nat → ((am_M → Option (Int32 × am_M)) × (am_M → Option (Int32 × am_M)) × (am_M → Option (Int32 × am_M)) × (am_M → Option (Int32 × am_M)) × (am_M → Option (Int32 × am_M)) × (am_M → Option (Int32 × am_M)))
  | 0 => (fun _ => none, fun _ => none, fun _ => none, fun _ => none, fun _ => none, fun _ => none)
  | D + 1 => (f_X10_both_0 N (f_X10_both_g N D).1 (f_X10_both_g N D).2.1 (f_X10_both_g N D).2.2.1 (f_X10_both_g N D).2.2.2.1 (f_X10_both_g N D).2.2.2.2.1 (f_X10_both_g N D).2.2.2.2.2, f_X10_compared_0 N (f_X10_both_g N D).1 (f_X10_both_g N D).2.1 (f_X10_both_g N D).2.2.1 (f_X10_both_g N D).2.2.2.1 (f_X10_both_g N D).2.2.2.2.1 (f_X10_both_g N D).2.2.2.2.2, f_X10_either_0 N (f_X10_both_g N D).1 (f_X10_both_g N D).2.1 (f_X10_both_g N D).2.2.1 (f_X10_both_g N D).2.2.2.1 (f_X10_both_g N D).2.2.2.2.1 (f_X10_both_g N D).2.2.2.2.2, f_X10_one_0 N (f_X10_both_g N D).1 (f_X10_both_g N D).2.1 (f_X10_both_g N D).2.2.1 (f_X10_both_g N D).2.2.2.1 (f_X10_both_g N D).2.2.2.2.1 (f_X10_both_g N D).2.2.2.2.2, f_X10_product_0 N (f_X10_both_g N D).1 (f_X10_both_g N D).2.1 (f_X10_both_g N D).2.2.1 (f_X10_both_g N D).2.2.2.1 (f_X10_both_g N D).2.2.2.2.1 (f_X10_both_g N D).2.2.2.2.2, f_X10_sums_0 N (f_X10_both_g N D).1 (f_X10_both_g N D).2.1 (f_X10_both_g N D).2.2.1 (f_X10_both_g N D).2.2.2.1 (f_X10_both_g N D).2.2.2.2.1 (f_X10_both_g N D).2.2.2.2.2)
def f_X10_both (N : Nat) (μ : am_M) : Option (Int32 × am_M) := (f_X10_both_g N 100).1 μ
def f_X10_compared (N : Nat) (μ : am_M) : Option (Int32 × am_M) := (f_X10_both_g N 100).2.1 μ
def f_X10_either (N : Nat) (μ : am_M) : Option (Int32 × am_M) := (f_X10_both_g N 100).2.2.1 μ
def f_X10_one (N : Nat) (μ : am_M) : Option (Int32 × am_M) := (f_X10_both_g N 100).2.2.2.1 μ
def f_X10_product (N : Nat) (μ : am_M) : Option (Int32 × am_M) := (f_X10_both_g N 100).2.2.2.2.1 μ
def f_X10_sums (N : Nat) (μ : am_M) : Option (Int32 × am_M) := (f_X10_both_g N 100).2.2.2.2.2 μ
set_option maxHeartbeats 4000000 in
set_option maxRecDepth 100000 in
theorem p_X10_both_32 (G : am_G) (l : Launch) (d : Nat) (hd0 : 2 ≤ d) (dd : Nat) (hdd : dd + 1 ≤ d) (N : Nat) (g_X10_both : am_M → Option (Int32 × am_M)) (g_X10_compared : am_M → Option (Int32 × am_M)) (g_X10_either : am_M → Option (Int32 × am_M)) (g_X10_one : am_M → Option (Int32 × am_M)) (g_X10_product : am_M → Option (Int32 × am_M)) (g_X10_sums : am_M → Option (Int32 × am_M)) (r_5 : Int32 → am_M → Option (Int32 × am_M)) (Hg_X10_both : ∀ (μ : am_M), ct_P G l am_ci dd me_X10_both [.ref (am_ad G 10 0)] μ (g_X10_both μ)) (Hg_X10_compared : ∀ (μ : am_M), ct_P G l am_ci dd me_X10_compared [.ref (am_ad G 10 0)] μ (g_X10_compared μ)) (Hg_X10_either : ∀ (μ : am_M), ct_P G l am_ci dd me_X10_either [.ref (am_ad G 10 0)] μ (g_X10_either μ)) (Hg_X10_one : ∀ (μ : am_M), ct_P G l am_ci dd me_X10_one [.ref (am_ad G 10 0)] μ (g_X10_one μ)) (Hg_X10_product : ∀ (μ : am_M), ct_P G l am_ci dd me_X10_product [.ref (am_ad G 10 0)] μ (g_X10_product μ)) (Hg_X10_sums : ∀ (μ : am_M), ct_P G l am_ci dd me_X10_sums [.ref (am_ad G 10 0)] μ (g_X10_sums μ)) (H_5 : ∀ (x1 : Int32) (μ : am_M), sm_P G l am_ci d me_X10_both 5 [(0, .ref (am_ad G 10 0)), (1, .int x1)] [] μ (r_5 x1 μ)) (s0 : Int32) (μ : am_M) : sm_P G l am_ci d me_X10_both 32 [(0, .ref (am_ad G 10 0))] [.int s0] μ (f_X10_both_32 N g_X10_both g_X10_compared g_X10_either g_X10_one g_X10_product g_X10_sums r_5 s0 μ) := by
  unfold f_X10_both_32
  refine sm_istore_n (pc := 32) (lv' := [(1, .int s0), (0, .ref (am_ad G 10 0))]) dX10_both_32 rfl (by decide) rfl ?_
  refine sm_goto (pc := 33) (tgt := 5) dX10_both_33 (by decide) ?_
  refine sm_sub [1, 0] rfl ?_
  exact H_5 s0 μ
set_option maxHeartbeats 4000000 in
set_option maxRecDepth 100000 in
theorem p_X10_both_31 (G : am_G) (l : Launch) (d : Nat) (hd0 : 2 ≤ d) (dd : Nat) (hdd : dd + 1 ≤ d) (N : Nat) (g_X10_both : am_M → Option (Int32 × am_M)) (g_X10_compared : am_M → Option (Int32 × am_M)) (g_X10_either : am_M → Option (Int32 × am_M)) (g_X10_one : am_M → Option (Int32 × am_M)) (g_X10_product : am_M → Option (Int32 × am_M)) (g_X10_sums : am_M → Option (Int32 × am_M)) (r_5 : Int32 → am_M → Option (Int32 × am_M)) (Hg_X10_both : ∀ (μ : am_M), ct_P G l am_ci dd me_X10_both [.ref (am_ad G 10 0)] μ (g_X10_both μ)) (Hg_X10_compared : ∀ (μ : am_M), ct_P G l am_ci dd me_X10_compared [.ref (am_ad G 10 0)] μ (g_X10_compared μ)) (Hg_X10_either : ∀ (μ : am_M), ct_P G l am_ci dd me_X10_either [.ref (am_ad G 10 0)] μ (g_X10_either μ)) (Hg_X10_one : ∀ (μ : am_M), ct_P G l am_ci dd me_X10_one [.ref (am_ad G 10 0)] μ (g_X10_one μ)) (Hg_X10_product : ∀ (μ : am_M), ct_P G l am_ci dd me_X10_product [.ref (am_ad G 10 0)] μ (g_X10_product μ)) (Hg_X10_sums : ∀ (μ : am_M), ct_P G l am_ci dd me_X10_sums [.ref (am_ad G 10 0)] μ (g_X10_sums μ)) (H_5 : ∀ (x1 : Int32) (μ : am_M), sm_P G l am_ci d me_X10_both 5 [(0, .ref (am_ad G 10 0)), (1, .int x1)] [] μ (r_5 x1 μ)) (μ : am_M) : sm_P G l am_ci d me_X10_both 31 [(0, .ref (am_ad G 10 0))] [] μ (f_X10_both_31 N g_X10_both g_X10_compared g_X10_either g_X10_one g_X10_product g_X10_sums r_5 μ) := by
  unfold f_X10_both_31
  refine sm_iconst (pc := 31) dX10_both_31 (v := 0) (by decide) ?_
  exact p_X10_both_32 G l d hd0 dd hdd N g_X10_both g_X10_compared g_X10_either g_X10_one g_X10_product g_X10_sums r_5 Hg_X10_both Hg_X10_compared Hg_X10_either Hg_X10_one Hg_X10_product Hg_X10_sums H_5 (0 : Int32) μ
set_option maxHeartbeats 4000000 in
set_option maxRecDepth 100000 in
theorem p_X10_both_5 (G : am_G) (l : Launch) (d : Nat) (hd0 : 2 ≤ d) (dd : Nat) (hdd : dd + 1 ≤ d) (N : Nat) (g_X10_both : am_M → Option (Int32 × am_M)) (g_X10_compared : am_M → Option (Int32 × am_M)) (g_X10_either : am_M → Option (Int32 × am_M)) (g_X10_one : am_M → Option (Int32 × am_M)) (g_X10_product : am_M → Option (Int32 × am_M)) (g_X10_sums : am_M → Option (Int32 × am_M)) (r_5 : Int32 → am_M → Option (Int32 × am_M)) (Hg_X10_both : ∀ (μ : am_M), ct_P G l am_ci dd me_X10_both [.ref (am_ad G 10 0)] μ (g_X10_both μ)) (Hg_X10_compared : ∀ (μ : am_M), ct_P G l am_ci dd me_X10_compared [.ref (am_ad G 10 0)] μ (g_X10_compared μ)) (Hg_X10_either : ∀ (μ : am_M), ct_P G l am_ci dd me_X10_either [.ref (am_ad G 10 0)] μ (g_X10_either μ)) (Hg_X10_one : ∀ (μ : am_M), ct_P G l am_ci dd me_X10_one [.ref (am_ad G 10 0)] μ (g_X10_one μ)) (Hg_X10_product : ∀ (μ : am_M), ct_P G l am_ci dd me_X10_product [.ref (am_ad G 10 0)] μ (g_X10_product μ)) (Hg_X10_sums : ∀ (μ : am_M), ct_P G l am_ci dd me_X10_sums [.ref (am_ad G 10 0)] μ (g_X10_sums μ)) (H_5 : ∀ (x1 : Int32) (μ : am_M), sm_P G l am_ci d me_X10_both 5 [(0, .ref (am_ad G 10 0)), (1, .int x1)] [] μ (r_5 x1 μ)) (x1 : Int32) (μ : am_M) : sm_P G l am_ci d me_X10_both 5 [(0, .ref (am_ad G 10 0)), (1, .int x1)] [] μ (f_X10_both_5 N g_X10_both g_X10_compared g_X10_either g_X10_one g_X10_product g_X10_sums r_5 x1 μ) := by
  unfold f_X10_both_5
  refine sm_aload_n (pc := 5) dX10_both_5 rfl 0 rfl ?_
  refine sm_bipush (pc := 6) dX10_both_6 (v := 38) (by decide) ?_
  refine sm_callVi (pc := 8) (As := [.int (38 : Int32)]) (rest := []) dX10_both_8 (c_X10_takes G l N (38 : Int32) μ) (by omega) wl_X10_180 vm_X10_takes rfl rfl (Nat.le_of_ble_eq_true rfl) (fun y4 μ3 => ?_)
  refine sm_if_eq (pc := 11) (tgt := 36) dX10_both_11 (by decide) ?_ ?_
  · refine sm_iload_n (pc := 36) dX10_both_36 rfl 1 rfl ?_
    exact sm_iret (pc := 37) dX10_both_37 rfl
  · refine sm_aload_n (pc := 14) dX10_both_14 rfl 0 rfl ?_
    refine sm_callVi (pc := 15) (As := []) (rest := []) dX10_both_15 (Hg_X10_compared μ3) (by omega) wl_X10_182 vm_X10_compared rfl rfl (Nat.le_of_ble_eq_true rfl) (fun y6 μ5 => ?_)
    refine sm_istore_n (pc := 18) (lv' := [(2, .int y6), (0, .ref (am_ad G 10 0)), (1, .int x1)]) dX10_both_18 rfl (by decide) rfl ?_
    refine sm_iload_n (pc := 19) dX10_both_19 rfl 2 rfl ?_
    refine sm_if_eq (pc := 20) (tgt := 31) dX10_both_20 (by decide) ?_ ?_
    · refine sm_sub [1] rfl ?_
      exact p_X10_both_31 G l d hd0 dd hdd N g_X10_both g_X10_compared g_X10_either g_X10_one g_X10_product g_X10_sums r_5 Hg_X10_both Hg_X10_compared Hg_X10_either Hg_X10_one Hg_X10_product Hg_X10_sums H_5 μ5
    · refine sm_iload_n (pc := 23) dX10_both_23 rfl 0 rfl ?_
      refine sm_if_eq (pc := 24) (tgt := 31) dX10_both_24 (by decide) ?_ ?_
      · refine sm_sub [1] rfl ?_
        exact p_X10_both_31 G l d hd0 dd hdd N g_X10_both g_X10_compared g_X10_either g_X10_one g_X10_product g_X10_sums r_5 Hg_X10_both Hg_X10_compared Hg_X10_either Hg_X10_one Hg_X10_product Hg_X10_sums H_5 μ5
      · refine sm_iconst (pc := 27) dX10_both_27 (v := 1) (by decide) ?_
        refine sm_goto (pc := 28) (tgt := 32) dX10_both_28 (by decide) ?_
        refine sm_sub [1] rfl ?_
        exact p_X10_both_32 G l d hd0 dd hdd N g_X10_both g_X10_compared g_X10_either g_X10_one g_X10_product g_X10_sums r_5 Hg_X10_both Hg_X10_compared Hg_X10_either Hg_X10_one Hg_X10_product Hg_X10_sums H_5 (1 : Int32) μ5
theorem p_X10_both_5_lp (G : am_G) (l : Launch) (d : Nat) (hd0 : 2 ≤ d) (dd : Nat) (hdd : dd + 1 ≤ d) (N : Nat) (g_X10_both : am_M → Option (Int32 × am_M)) (g_X10_compared : am_M → Option (Int32 × am_M)) (g_X10_either : am_M → Option (Int32 × am_M)) (g_X10_one : am_M → Option (Int32 × am_M)) (g_X10_product : am_M → Option (Int32 × am_M)) (g_X10_sums : am_M → Option (Int32 × am_M)) (Hg_X10_both : ∀ (μ : am_M), ct_P G l am_ci dd me_X10_both [.ref (am_ad G 10 0)] μ (g_X10_both μ)) (Hg_X10_compared : ∀ (μ : am_M), ct_P G l am_ci dd me_X10_compared [.ref (am_ad G 10 0)] μ (g_X10_compared μ)) (Hg_X10_either : ∀ (μ : am_M), ct_P G l am_ci dd me_X10_either [.ref (am_ad G 10 0)] μ (g_X10_either μ)) (Hg_X10_one : ∀ (μ : am_M), ct_P G l am_ci dd me_X10_one [.ref (am_ad G 10 0)] μ (g_X10_one μ)) (Hg_X10_product : ∀ (μ : am_M), ct_P G l am_ci dd me_X10_product [.ref (am_ad G 10 0)] μ (g_X10_product μ)) (Hg_X10_sums : ∀ (μ : am_M), ct_P G l am_ci dd me_X10_sums [.ref (am_ad G 10 0)] μ (g_X10_sums μ)) : ∀ (n : Nat) (x1 : Int32) (μ : am_M), sm_P G l am_ci d me_X10_both 5 [(0, .ref (am_ad G 10 0)), (1, .int x1)] [] μ (f_X10_both_5_lp N g_X10_both g_X10_compared g_X10_either g_X10_one g_X10_product g_X10_sums n x1 μ) := by
  intro n
  induction n with
  | zero => intros; exact sm_none
  | succ n ih => exact fun x1 μ => p_X10_both_5 G l d hd0 dd hdd N g_X10_both g_X10_compared g_X10_either g_X10_one g_X10_product g_X10_sums (f_X10_both_5_lp N g_X10_both g_X10_compared g_X10_either g_X10_one g_X10_product g_X10_sums n) Hg_X10_both Hg_X10_compared Hg_X10_either Hg_X10_one Hg_X10_product Hg_X10_sums ih x1 μ
set_option maxHeartbeats 4000000 in
set_option maxRecDepth 100000 in
theorem p_X10_both_0 (G : am_G) (l : Launch) (d : Nat) (hd0 : 2 ≤ d) (dd : Nat) (hdd : dd + 1 ≤ d) (N : Nat) (g_X10_both : am_M → Option (Int32 × am_M)) (g_X10_compared : am_M → Option (Int32 × am_M)) (g_X10_either : am_M → Option (Int32 × am_M)) (g_X10_one : am_M → Option (Int32 × am_M)) (g_X10_product : am_M → Option (Int32 × am_M)) (g_X10_sums : am_M → Option (Int32 × am_M)) (Hg_X10_both : ∀ (μ : am_M), ct_P G l am_ci dd me_X10_both [.ref (am_ad G 10 0)] μ (g_X10_both μ)) (Hg_X10_compared : ∀ (μ : am_M), ct_P G l am_ci dd me_X10_compared [.ref (am_ad G 10 0)] μ (g_X10_compared μ)) (Hg_X10_either : ∀ (μ : am_M), ct_P G l am_ci dd me_X10_either [.ref (am_ad G 10 0)] μ (g_X10_either μ)) (Hg_X10_one : ∀ (μ : am_M), ct_P G l am_ci dd me_X10_one [.ref (am_ad G 10 0)] μ (g_X10_one μ)) (Hg_X10_product : ∀ (μ : am_M), ct_P G l am_ci dd me_X10_product [.ref (am_ad G 10 0)] μ (g_X10_product μ)) (Hg_X10_sums : ∀ (μ : am_M), ct_P G l am_ci dd me_X10_sums [.ref (am_ad G 10 0)] μ (g_X10_sums μ)) (μ : am_M) : sm_P G l am_ci d me_X10_both 0 [(0, .ref (am_ad G 10 0))] [] μ (f_X10_both_0 N g_X10_both g_X10_compared g_X10_either g_X10_one g_X10_product g_X10_sums μ) := by
  unfold f_X10_both_0
  refine sm_aload_n (pc := 0) dX10_both_0 rfl 0 rfl ?_
  refine sm_callVi (pc := 1) (As := []) (rest := []) dX10_both_1 (Hg_X10_compared μ) (by omega) wl_X10_182 vm_X10_compared rfl rfl (Nat.le_of_ble_eq_true rfl) (fun y2 μ1 => ?_)
  refine sm_istore_n (pc := 4) (lv' := [(1, .int y2), (0, .ref (am_ad G 10 0))]) dX10_both_4 rfl (by decide) rfl ?_
  refine sm_sub [1, 0] rfl ?_
  exact p_X10_both_5_lp G l d hd0 dd hdd N g_X10_both g_X10_compared g_X10_either g_X10_one g_X10_product g_X10_sums Hg_X10_both Hg_X10_compared Hg_X10_either Hg_X10_one Hg_X10_product Hg_X10_sums N y2 μ1
set_option maxHeartbeats 4000000 in
set_option maxRecDepth 100000 in
theorem p_X10_compared_85 (G : am_G) (l : Launch) (d : Nat) (hd0 : 2 ≤ d) (dd : Nat) (hdd : dd + 1 ≤ d) (N : Nat) (g_X10_both : am_M → Option (Int32 × am_M)) (g_X10_compared : am_M → Option (Int32 × am_M)) (g_X10_either : am_M → Option (Int32 × am_M)) (g_X10_one : am_M → Option (Int32 × am_M)) (g_X10_product : am_M → Option (Int32 × am_M)) (g_X10_sums : am_M → Option (Int32 × am_M)) (Hg_X10_both : ∀ (μ : am_M), ct_P G l am_ci dd me_X10_both [.ref (am_ad G 10 0)] μ (g_X10_both μ)) (Hg_X10_compared : ∀ (μ : am_M), ct_P G l am_ci dd me_X10_compared [.ref (am_ad G 10 0)] μ (g_X10_compared μ)) (Hg_X10_either : ∀ (μ : am_M), ct_P G l am_ci dd me_X10_either [.ref (am_ad G 10 0)] μ (g_X10_either μ)) (Hg_X10_one : ∀ (μ : am_M), ct_P G l am_ci dd me_X10_one [.ref (am_ad G 10 0)] μ (g_X10_one μ)) (Hg_X10_product : ∀ (μ : am_M), ct_P G l am_ci dd me_X10_product [.ref (am_ad G 10 0)] μ (g_X10_product μ)) (Hg_X10_sums : ∀ (μ : am_M), ct_P G l am_ci dd me_X10_sums [.ref (am_ad G 10 0)] μ (g_X10_sums μ)) (μ : am_M) : sm_P G l am_ci d me_X10_compared 85 [(0, .ref (am_ad G 10 0))] [] μ (f_X10_compared_85 N g_X10_both g_X10_compared g_X10_either g_X10_one g_X10_product g_X10_sums μ) := by
  unfold f_X10_compared_85
  refine sm_iconst (pc := 85) dX10_compared_85 (v := 1) (by decide) ?_
  refine sm_goto (pc := 86) (tgt := 90) dX10_compared_86 (by decide) ?_
  exact sm_iret (pc := 90) dX10_compared_90 rfl
set_option maxHeartbeats 4000000 in
set_option maxRecDepth 100000 in
theorem p_X10_compared_37 (G : am_G) (l : Launch) (d : Nat) (hd0 : 2 ≤ d) (dd : Nat) (hdd : dd + 1 ≤ d) (N : Nat) (g_X10_both : am_M → Option (Int32 × am_M)) (g_X10_compared : am_M → Option (Int32 × am_M)) (g_X10_either : am_M → Option (Int32 × am_M)) (g_X10_one : am_M → Option (Int32 × am_M)) (g_X10_product : am_M → Option (Int32 × am_M)) (g_X10_sums : am_M → Option (Int32 × am_M)) (Hg_X10_both : ∀ (μ : am_M), ct_P G l am_ci dd me_X10_both [.ref (am_ad G 10 0)] μ (g_X10_both μ)) (Hg_X10_compared : ∀ (μ : am_M), ct_P G l am_ci dd me_X10_compared [.ref (am_ad G 10 0)] μ (g_X10_compared μ)) (Hg_X10_either : ∀ (μ : am_M), ct_P G l am_ci dd me_X10_either [.ref (am_ad G 10 0)] μ (g_X10_either μ)) (Hg_X10_one : ∀ (μ : am_M), ct_P G l am_ci dd me_X10_one [.ref (am_ad G 10 0)] μ (g_X10_one μ)) (Hg_X10_product : ∀ (μ : am_M), ct_P G l am_ci dd me_X10_product [.ref (am_ad G 10 0)] μ (g_X10_product μ)) (Hg_X10_sums : ∀ (μ : am_M), ct_P G l am_ci dd me_X10_sums [.ref (am_ad G 10 0)] μ (g_X10_sums μ)) (x1 : Int32) (x2 : Int32) (μ : am_M) : sm_P G l am_ci d me_X10_compared 37 [(0, .ref (am_ad G 10 0)), (1, .int x1), (2, .int x2)] [] μ (f_X10_compared_37 N g_X10_both g_X10_compared g_X10_either g_X10_one g_X10_product g_X10_sums x1 x2 μ) := by
  unfold f_X10_compared_37
  refine sm_aload_n (pc := 37) dX10_compared_37 rfl 0 rfl ?_
  refine sm_dup (pc := 38) dX10_compared_38 rfl ?_
  refine sm_geti (pc := 39) dX10_compared_39 fi_X10_161 ?_
  refine sm_iconst (pc := 42) dX10_compared_42 (v := 1) (by decide) ?_
  refine sm_iadd (pc := 43) dX10_compared_43 ?_
  refine sm_puti (pc := 44) dX10_compared_44 fi_X10_161 ?_
  refine sm_nmM (fun μ5 => ?_)
  refine sm_aload_n (pc := 47) dX10_compared_47 rfl 0 rfl ?_
  refine sm_callVi (pc := 48) (As := []) (rest := []) dX10_compared_48 (Hg_X10_sums μ5) (by omega) wl_X10_185 vm_X10_sums rfl rfl (Nat.le_of_ble_eq_true rfl) (fun y7 μ6 => ?_)
  refine sm_istore_n (pc := 51) (lv' := [(3, .int y7), (0, .ref (am_ad G 10 0)), (1, .int x1), (2, .int x2)]) dX10_compared_51 rfl (by decide) rfl ?_
  refine sm_iload_n (pc := 52) dX10_compared_52 rfl 3 rfl ?_
  refine sm_bipush (pc := 53) dX10_compared_53 (v := 60) (by decide) ?_
  refine sm_icmp_ne (pc := 55) (tgt := 66) dX10_compared_55 (by decide) ?_ ?_
  · refine sm_iload_n (pc := 66) dX10_compared_66 rfl 3 rfl ?_
    refine sm_bipush (pc := 67) dX10_compared_67 (v := 61) (by decide) ?_
    refine sm_icmp_ne (pc := 69) (tgt := 80) dX10_compared_69 (by decide) ?_ ?_
    · refine sm_iload_n (pc := 80) dX10_compared_80 rfl 2 rfl ?_
      refine sm_iload_n (pc := 81) dX10_compared_81 rfl 0 rfl ?_
      refine sm_icmp_le (pc := 82) (tgt := 89) dX10_compared_82 (by decide) ?_ ?_
      · refine sm_iconst (pc := 89) dX10_compared_89 (v := 0) (by decide) ?_
        exact sm_iret (pc := 90) dX10_compared_90 rfl
      · refine sm_sub [1] rfl ?_
        exact p_X10_compared_85 G l d hd0 dd hdd N g_X10_both g_X10_compared g_X10_either g_X10_one g_X10_product g_X10_sums Hg_X10_both Hg_X10_compared Hg_X10_either Hg_X10_one Hg_X10_product Hg_X10_sums μ6
    · refine sm_iload_n (pc := 72) dX10_compared_72 rfl 2 rfl ?_
      refine sm_iload_n (pc := 73) dX10_compared_73 rfl 0 rfl ?_
      refine sm_icmp_ne (pc := 74) (tgt := 89) dX10_compared_74 (by decide) ?_ ?_
      · refine sm_iconst (pc := 89) dX10_compared_89 (v := 0) (by decide) ?_
        exact sm_iret (pc := 90) dX10_compared_90 rfl
      · refine sm_goto (pc := 77) (tgt := 85) dX10_compared_77 (by decide) ?_
        refine sm_sub [1] rfl ?_
        exact p_X10_compared_85 G l d hd0 dd hdd N g_X10_both g_X10_compared g_X10_either g_X10_one g_X10_product g_X10_sums Hg_X10_both Hg_X10_compared Hg_X10_either Hg_X10_one Hg_X10_product Hg_X10_sums μ6
  · refine sm_iload_n (pc := 58) dX10_compared_58 rfl 2 rfl ?_
    refine sm_iload_n (pc := 59) dX10_compared_59 rfl 0 rfl ?_
    refine sm_icmp_ge (pc := 60) (tgt := 89) dX10_compared_60 (by decide) ?_ ?_
    · refine sm_iconst (pc := 89) dX10_compared_89 (v := 0) (by decide) ?_
      exact sm_iret (pc := 90) dX10_compared_90 rfl
    · refine sm_goto (pc := 63) (tgt := 85) dX10_compared_63 (by decide) ?_
      refine sm_sub [1] rfl ?_
      exact p_X10_compared_85 G l d hd0 dd hdd N g_X10_both g_X10_compared g_X10_either g_X10_one g_X10_product g_X10_sums Hg_X10_both Hg_X10_compared Hg_X10_either Hg_X10_one Hg_X10_product Hg_X10_sums μ6
set_option maxHeartbeats 4000000 in
set_option maxRecDepth 100000 in
theorem p_X10_compared_0 (G : am_G) (l : Launch) (d : Nat) (hd0 : 2 ≤ d) (dd : Nat) (hdd : dd + 1 ≤ d) (N : Nat) (g_X10_both : am_M → Option (Int32 × am_M)) (g_X10_compared : am_M → Option (Int32 × am_M)) (g_X10_either : am_M → Option (Int32 × am_M)) (g_X10_one : am_M → Option (Int32 × am_M)) (g_X10_product : am_M → Option (Int32 × am_M)) (g_X10_sums : am_M → Option (Int32 × am_M)) (Hg_X10_both : ∀ (μ : am_M), ct_P G l am_ci dd me_X10_both [.ref (am_ad G 10 0)] μ (g_X10_both μ)) (Hg_X10_compared : ∀ (μ : am_M), ct_P G l am_ci dd me_X10_compared [.ref (am_ad G 10 0)] μ (g_X10_compared μ)) (Hg_X10_either : ∀ (μ : am_M), ct_P G l am_ci dd me_X10_either [.ref (am_ad G 10 0)] μ (g_X10_either μ)) (Hg_X10_one : ∀ (μ : am_M), ct_P G l am_ci dd me_X10_one [.ref (am_ad G 10 0)] μ (g_X10_one μ)) (Hg_X10_product : ∀ (μ : am_M), ct_P G l am_ci dd me_X10_product [.ref (am_ad G 10 0)] μ (g_X10_product μ)) (Hg_X10_sums : ∀ (μ : am_M), ct_P G l am_ci dd me_X10_sums [.ref (am_ad G 10 0)] μ (g_X10_sums μ)) (μ : am_M) : sm_P G l am_ci d me_X10_compared 0 [(0, .ref (am_ad G 10 0))] [] μ (f_X10_compared_0 N g_X10_both g_X10_compared g_X10_either g_X10_one g_X10_product g_X10_sums μ) := by
  unfold f_X10_compared_0
  refine sm_aload_n (pc := 0) dX10_compared_0 rfl 0 rfl ?_
  refine sm_callVi (pc := 1) (As := []) (rest := []) dX10_compared_1 (Hg_X10_sums μ) (by omega) wl_X10_185 vm_X10_sums rfl rfl (Nat.le_of_ble_eq_true rfl) (fun y2 μ1 => ?_)
  refine sm_istore_n (pc := 4) (lv' := [(1, .int y2), (0, .ref (am_ad G 10 0))]) dX10_compared_4 rfl (by decide) rfl ?_
  refine sm_aload_n (pc := 5) dX10_compared_5 rfl 1 rfl ?_
  refine sm_callVi (pc := 6) (As := []) (rest := []) dX10_compared_6 (c_X10_byteAt G l N μ1) (by omega) wl_X10_173 vm_X10_byteAt rfl rfl (Nat.le_of_ble_eq_true rfl) (fun y4 μ3 => ?_)
  refine sm_istore_n (pc := 9) (lv' := [(2, .int y4), (1, .int y2), (0, .ref (am_ad G 10 0))]) dX10_compared_9 rfl (by decide) rfl ?_
  refine sm_aload_n (pc := 10) dX10_compared_10 rfl 2 rfl ?_
  refine sm_geti (pc := 11) dX10_compared_11 fi_X10_170 ?_
  refine sm_if_ge (pc := 14) (tgt := 35) dX10_compared_14 (by decide) ?_ ?_
  · refine sm_iload_n (pc := 35) dX10_compared_35 rfl 1 rfl ?_
    exact sm_iret (pc := 36) dX10_compared_36 rfl
  · refine sm_iload_n (pc := 17) dX10_compared_17 rfl 0 rfl ?_
    refine sm_bipush (pc := 18) dX10_compared_18 (v := 60) (by decide) ?_
    refine sm_icmp_eq (pc := 20) (tgt := 37) dX10_compared_20 (by decide) ?_ ?_
    · refine sm_sub [2, 1, 0] rfl ?_
      exact p_X10_compared_37 G l d hd0 dd hdd N g_X10_both g_X10_compared g_X10_either g_X10_one g_X10_product g_X10_sums Hg_X10_both Hg_X10_compared Hg_X10_either Hg_X10_one Hg_X10_product Hg_X10_sums y2 y4 μ3
    · refine sm_iload_n (pc := 23) dX10_compared_23 rfl 0 rfl ?_
      refine sm_bipush (pc := 24) dX10_compared_24 (v := 61) (by decide) ?_
      refine sm_icmp_eq (pc := 26) (tgt := 37) dX10_compared_26 (by decide) ?_ ?_
      · refine sm_sub [2, 1, 0] rfl ?_
        exact p_X10_compared_37 G l d hd0 dd hdd N g_X10_both g_X10_compared g_X10_either g_X10_one g_X10_product g_X10_sums Hg_X10_both Hg_X10_compared Hg_X10_either Hg_X10_one Hg_X10_product Hg_X10_sums y2 y4 μ3
      · refine sm_iload_n (pc := 29) dX10_compared_29 rfl 0 rfl ?_
        refine sm_bipush (pc := 30) dX10_compared_30 (v := 62) (by decide) ?_
        refine sm_icmp_eq (pc := 32) (tgt := 37) dX10_compared_32 (by decide) ?_ ?_
        · refine sm_sub [2, 1, 0] rfl ?_
          exact p_X10_compared_37 G l d hd0 dd hdd N g_X10_both g_X10_compared g_X10_either g_X10_one g_X10_product g_X10_sums Hg_X10_both Hg_X10_compared Hg_X10_either Hg_X10_one Hg_X10_product Hg_X10_sums y2 y4 μ3
        · refine sm_iload_n (pc := 35) dX10_compared_35 rfl 1 rfl ?_
          exact sm_iret (pc := 36) dX10_compared_36 rfl
set_option maxHeartbeats 4000000 in
set_option maxRecDepth 100000 in
theorem p_X10_either_32 (G : am_G) (l : Launch) (d : Nat) (hd0 : 2 ≤ d) (dd : Nat) (hdd : dd + 1 ≤ d) (N : Nat) (g_X10_both : am_M → Option (Int32 × am_M)) (g_X10_compared : am_M → Option (Int32 × am_M)) (g_X10_either : am_M → Option (Int32 × am_M)) (g_X10_one : am_M → Option (Int32 × am_M)) (g_X10_product : am_M → Option (Int32 × am_M)) (g_X10_sums : am_M → Option (Int32 × am_M)) (r_5 : Int32 → am_M → Option (Int32 × am_M)) (Hg_X10_both : ∀ (μ : am_M), ct_P G l am_ci dd me_X10_both [.ref (am_ad G 10 0)] μ (g_X10_both μ)) (Hg_X10_compared : ∀ (μ : am_M), ct_P G l am_ci dd me_X10_compared [.ref (am_ad G 10 0)] μ (g_X10_compared μ)) (Hg_X10_either : ∀ (μ : am_M), ct_P G l am_ci dd me_X10_either [.ref (am_ad G 10 0)] μ (g_X10_either μ)) (Hg_X10_one : ∀ (μ : am_M), ct_P G l am_ci dd me_X10_one [.ref (am_ad G 10 0)] μ (g_X10_one μ)) (Hg_X10_product : ∀ (μ : am_M), ct_P G l am_ci dd me_X10_product [.ref (am_ad G 10 0)] μ (g_X10_product μ)) (Hg_X10_sums : ∀ (μ : am_M), ct_P G l am_ci dd me_X10_sums [.ref (am_ad G 10 0)] μ (g_X10_sums μ)) (H_5 : ∀ (x1 : Int32) (μ : am_M), sm_P G l am_ci d me_X10_either 5 [(0, .ref (am_ad G 10 0)), (1, .int x1)] [] μ (r_5 x1 μ)) (s0 : Int32) (μ : am_M) : sm_P G l am_ci d me_X10_either 32 [(0, .ref (am_ad G 10 0))] [.int s0] μ (f_X10_either_32 N g_X10_both g_X10_compared g_X10_either g_X10_one g_X10_product g_X10_sums r_5 s0 μ) := by
  unfold f_X10_either_32
  refine sm_istore_n (pc := 32) (lv' := [(1, .int s0), (0, .ref (am_ad G 10 0))]) dX10_either_32 rfl (by decide) rfl ?_
  refine sm_goto (pc := 33) (tgt := 5) dX10_either_33 (by decide) ?_
  refine sm_sub [1, 0] rfl ?_
  exact H_5 s0 μ
set_option maxHeartbeats 4000000 in
set_option maxRecDepth 100000 in
theorem p_X10_either_27 (G : am_G) (l : Launch) (d : Nat) (hd0 : 2 ≤ d) (dd : Nat) (hdd : dd + 1 ≤ d) (N : Nat) (g_X10_both : am_M → Option (Int32 × am_M)) (g_X10_compared : am_M → Option (Int32 × am_M)) (g_X10_either : am_M → Option (Int32 × am_M)) (g_X10_one : am_M → Option (Int32 × am_M)) (g_X10_product : am_M → Option (Int32 × am_M)) (g_X10_sums : am_M → Option (Int32 × am_M)) (r_5 : Int32 → am_M → Option (Int32 × am_M)) (Hg_X10_both : ∀ (μ : am_M), ct_P G l am_ci dd me_X10_both [.ref (am_ad G 10 0)] μ (g_X10_both μ)) (Hg_X10_compared : ∀ (μ : am_M), ct_P G l am_ci dd me_X10_compared [.ref (am_ad G 10 0)] μ (g_X10_compared μ)) (Hg_X10_either : ∀ (μ : am_M), ct_P G l am_ci dd me_X10_either [.ref (am_ad G 10 0)] μ (g_X10_either μ)) (Hg_X10_one : ∀ (μ : am_M), ct_P G l am_ci dd me_X10_one [.ref (am_ad G 10 0)] μ (g_X10_one μ)) (Hg_X10_product : ∀ (μ : am_M), ct_P G l am_ci dd me_X10_product [.ref (am_ad G 10 0)] μ (g_X10_product μ)) (Hg_X10_sums : ∀ (μ : am_M), ct_P G l am_ci dd me_X10_sums [.ref (am_ad G 10 0)] μ (g_X10_sums μ)) (H_5 : ∀ (x1 : Int32) (μ : am_M), sm_P G l am_ci d me_X10_either 5 [(0, .ref (am_ad G 10 0)), (1, .int x1)] [] μ (r_5 x1 μ)) (μ : am_M) : sm_P G l am_ci d me_X10_either 27 [(0, .ref (am_ad G 10 0))] [] μ (f_X10_either_27 N g_X10_both g_X10_compared g_X10_either g_X10_one g_X10_product g_X10_sums r_5 μ) := by
  unfold f_X10_either_27
  refine sm_iconst (pc := 27) dX10_either_27 (v := 1) (by decide) ?_
  refine sm_goto (pc := 28) (tgt := 32) dX10_either_28 (by decide) ?_
  exact p_X10_either_32 G l d hd0 dd hdd N g_X10_both g_X10_compared g_X10_either g_X10_one g_X10_product g_X10_sums r_5 Hg_X10_both Hg_X10_compared Hg_X10_either Hg_X10_one Hg_X10_product Hg_X10_sums H_5 (1 : Int32) μ
set_option maxHeartbeats 4000000 in
set_option maxRecDepth 100000 in
theorem p_X10_either_5 (G : am_G) (l : Launch) (d : Nat) (hd0 : 2 ≤ d) (dd : Nat) (hdd : dd + 1 ≤ d) (N : Nat) (g_X10_both : am_M → Option (Int32 × am_M)) (g_X10_compared : am_M → Option (Int32 × am_M)) (g_X10_either : am_M → Option (Int32 × am_M)) (g_X10_one : am_M → Option (Int32 × am_M)) (g_X10_product : am_M → Option (Int32 × am_M)) (g_X10_sums : am_M → Option (Int32 × am_M)) (r_5 : Int32 → am_M → Option (Int32 × am_M)) (Hg_X10_both : ∀ (μ : am_M), ct_P G l am_ci dd me_X10_both [.ref (am_ad G 10 0)] μ (g_X10_both μ)) (Hg_X10_compared : ∀ (μ : am_M), ct_P G l am_ci dd me_X10_compared [.ref (am_ad G 10 0)] μ (g_X10_compared μ)) (Hg_X10_either : ∀ (μ : am_M), ct_P G l am_ci dd me_X10_either [.ref (am_ad G 10 0)] μ (g_X10_either μ)) (Hg_X10_one : ∀ (μ : am_M), ct_P G l am_ci dd me_X10_one [.ref (am_ad G 10 0)] μ (g_X10_one μ)) (Hg_X10_product : ∀ (μ : am_M), ct_P G l am_ci dd me_X10_product [.ref (am_ad G 10 0)] μ (g_X10_product μ)) (Hg_X10_sums : ∀ (μ : am_M), ct_P G l am_ci dd me_X10_sums [.ref (am_ad G 10 0)] μ (g_X10_sums μ)) (H_5 : ∀ (x1 : Int32) (μ : am_M), sm_P G l am_ci d me_X10_either 5 [(0, .ref (am_ad G 10 0)), (1, .int x1)] [] μ (r_5 x1 μ)) (x1 : Int32) (μ : am_M) : sm_P G l am_ci d me_X10_either 5 [(0, .ref (am_ad G 10 0)), (1, .int x1)] [] μ (f_X10_either_5 N g_X10_both g_X10_compared g_X10_either g_X10_one g_X10_product g_X10_sums r_5 x1 μ) := by
  unfold f_X10_either_5
  refine sm_aload_n (pc := 5) dX10_either_5 rfl 0 rfl ?_
  refine sm_bipush (pc := 6) dX10_either_6 (v := 124) (by decide) ?_
  refine sm_callVi (pc := 8) (As := [.int (124 : Int32)]) (rest := []) dX10_either_8 (c_X10_takes G l N (124 : Int32) μ) (by omega) wl_X10_180 vm_X10_takes rfl rfl (Nat.le_of_ble_eq_true rfl) (fun y4 μ3 => ?_)
  refine sm_if_eq (pc := 11) (tgt := 36) dX10_either_11 (by decide) ?_ ?_
  · refine sm_iload_n (pc := 36) dX10_either_36 rfl 1 rfl ?_
    exact sm_iret (pc := 37) dX10_either_37 rfl
  · refine sm_aload_n (pc := 14) dX10_either_14 rfl 0 rfl ?_
    refine sm_callVi (pc := 15) (As := []) (rest := []) dX10_either_15 (Hg_X10_both μ3) (by omega) wl_X10_177 vm_X10_both rfl rfl (Nat.le_of_ble_eq_true rfl) (fun y6 μ5 => ?_)
    refine sm_istore_n (pc := 18) (lv' := [(2, .int y6), (0, .ref (am_ad G 10 0)), (1, .int x1)]) dX10_either_18 rfl (by decide) rfl ?_
    refine sm_iload_n (pc := 19) dX10_either_19 rfl 2 rfl ?_
    refine sm_if_ne (pc := 20) (tgt := 27) dX10_either_20 (by decide) ?_ ?_
    · refine sm_sub [1] rfl ?_
      exact p_X10_either_27 G l d hd0 dd hdd N g_X10_both g_X10_compared g_X10_either g_X10_one g_X10_product g_X10_sums r_5 Hg_X10_both Hg_X10_compared Hg_X10_either Hg_X10_one Hg_X10_product Hg_X10_sums H_5 μ5
    · refine sm_iload_n (pc := 23) dX10_either_23 rfl 0 rfl ?_
      refine sm_if_eq (pc := 24) (tgt := 31) dX10_either_24 (by decide) ?_ ?_
      · refine sm_iconst (pc := 31) dX10_either_31 (v := 0) (by decide) ?_
        refine sm_sub [1] rfl ?_
        exact p_X10_either_32 G l d hd0 dd hdd N g_X10_both g_X10_compared g_X10_either g_X10_one g_X10_product g_X10_sums r_5 Hg_X10_both Hg_X10_compared Hg_X10_either Hg_X10_one Hg_X10_product Hg_X10_sums H_5 (0 : Int32) μ5
      · refine sm_sub [1] rfl ?_
        exact p_X10_either_27 G l d hd0 dd hdd N g_X10_both g_X10_compared g_X10_either g_X10_one g_X10_product g_X10_sums r_5 Hg_X10_both Hg_X10_compared Hg_X10_either Hg_X10_one Hg_X10_product Hg_X10_sums H_5 μ5
theorem p_X10_either_5_lp (G : am_G) (l : Launch) (d : Nat) (hd0 : 2 ≤ d) (dd : Nat) (hdd : dd + 1 ≤ d) (N : Nat) (g_X10_both : am_M → Option (Int32 × am_M)) (g_X10_compared : am_M → Option (Int32 × am_M)) (g_X10_either : am_M → Option (Int32 × am_M)) (g_X10_one : am_M → Option (Int32 × am_M)) (g_X10_product : am_M → Option (Int32 × am_M)) (g_X10_sums : am_M → Option (Int32 × am_M)) (Hg_X10_both : ∀ (μ : am_M), ct_P G l am_ci dd me_X10_both [.ref (am_ad G 10 0)] μ (g_X10_both μ)) (Hg_X10_compared : ∀ (μ : am_M), ct_P G l am_ci dd me_X10_compared [.ref (am_ad G 10 0)] μ (g_X10_compared μ)) (Hg_X10_either : ∀ (μ : am_M), ct_P G l am_ci dd me_X10_either [.ref (am_ad G 10 0)] μ (g_X10_either μ)) (Hg_X10_one : ∀ (μ : am_M), ct_P G l am_ci dd me_X10_one [.ref (am_ad G 10 0)] μ (g_X10_one μ)) (Hg_X10_product : ∀ (μ : am_M), ct_P G l am_ci dd me_X10_product [.ref (am_ad G 10 0)] μ (g_X10_product μ)) (Hg_X10_sums : ∀ (μ : am_M), ct_P G l am_ci dd me_X10_sums [.ref (am_ad G 10 0)] μ (g_X10_sums μ)) : ∀ (n : Nat) (x1 : Int32) (μ : am_M), sm_P G l am_ci d me_X10_either 5 [(0, .ref (am_ad G 10 0)), (1, .int x1)] [] μ (f_X10_either_5_lp N g_X10_both g_X10_compared g_X10_either g_X10_one g_X10_product g_X10_sums n x1 μ) := by
  intro n
  induction n with
  | zero => intros; exact sm_none
  | succ n ih => exact fun x1 μ => p_X10_either_5 G l d hd0 dd hdd N g_X10_both g_X10_compared g_X10_either g_X10_one g_X10_product g_X10_sums (f_X10_either_5_lp N g_X10_both g_X10_compared g_X10_either g_X10_one g_X10_product g_X10_sums n) Hg_X10_both Hg_X10_compared Hg_X10_either Hg_X10_one Hg_X10_product Hg_X10_sums ih x1 μ
set_option maxHeartbeats 4000000 in
set_option maxRecDepth 100000 in
theorem p_X10_either_0 (G : am_G) (l : Launch) (d : Nat) (hd0 : 2 ≤ d) (dd : Nat) (hdd : dd + 1 ≤ d) (N : Nat) (g_X10_both : am_M → Option (Int32 × am_M)) (g_X10_compared : am_M → Option (Int32 × am_M)) (g_X10_either : am_M → Option (Int32 × am_M)) (g_X10_one : am_M → Option (Int32 × am_M)) (g_X10_product : am_M → Option (Int32 × am_M)) (g_X10_sums : am_M → Option (Int32 × am_M)) (Hg_X10_both : ∀ (μ : am_M), ct_P G l am_ci dd me_X10_both [.ref (am_ad G 10 0)] μ (g_X10_both μ)) (Hg_X10_compared : ∀ (μ : am_M), ct_P G l am_ci dd me_X10_compared [.ref (am_ad G 10 0)] μ (g_X10_compared μ)) (Hg_X10_either : ∀ (μ : am_M), ct_P G l am_ci dd me_X10_either [.ref (am_ad G 10 0)] μ (g_X10_either μ)) (Hg_X10_one : ∀ (μ : am_M), ct_P G l am_ci dd me_X10_one [.ref (am_ad G 10 0)] μ (g_X10_one μ)) (Hg_X10_product : ∀ (μ : am_M), ct_P G l am_ci dd me_X10_product [.ref (am_ad G 10 0)] μ (g_X10_product μ)) (Hg_X10_sums : ∀ (μ : am_M), ct_P G l am_ci dd me_X10_sums [.ref (am_ad G 10 0)] μ (g_X10_sums μ)) (μ : am_M) : sm_P G l am_ci d me_X10_either 0 [(0, .ref (am_ad G 10 0))] [] μ (f_X10_either_0 N g_X10_both g_X10_compared g_X10_either g_X10_one g_X10_product g_X10_sums μ) := by
  unfold f_X10_either_0
  refine sm_aload_n (pc := 0) dX10_either_0 rfl 0 rfl ?_
  refine sm_callVi (pc := 1) (As := []) (rest := []) dX10_either_1 (Hg_X10_both μ) (by omega) wl_X10_177 vm_X10_both rfl rfl (Nat.le_of_ble_eq_true rfl) (fun y2 μ1 => ?_)
  refine sm_istore_n (pc := 4) (lv' := [(1, .int y2), (0, .ref (am_ad G 10 0))]) dX10_either_4 rfl (by decide) rfl ?_
  refine sm_sub [1, 0] rfl ?_
  exact p_X10_either_5_lp G l d hd0 dd hdd N g_X10_both g_X10_compared g_X10_either g_X10_one g_X10_product g_X10_sums Hg_X10_both Hg_X10_compared Hg_X10_either Hg_X10_one Hg_X10_product Hg_X10_sums N y2 μ1
set_option maxHeartbeats 4000000 in
set_option maxRecDepth 100000 in
theorem p_X10_one_104 (G : am_G) (l : Launch) (d : Nat) (hd0 : 2 ≤ d) (dd : Nat) (hdd : dd + 1 ≤ d) (N : Nat) (g_X10_both : am_M → Option (Int32 × am_M)) (g_X10_compared : am_M → Option (Int32 × am_M)) (g_X10_either : am_M → Option (Int32 × am_M)) (g_X10_one : am_M → Option (Int32 × am_M)) (g_X10_product : am_M → Option (Int32 × am_M)) (g_X10_sums : am_M → Option (Int32 × am_M)) (Hg_X10_both : ∀ (μ : am_M), ct_P G l am_ci dd me_X10_both [.ref (am_ad G 10 0)] μ (g_X10_both μ)) (Hg_X10_compared : ∀ (μ : am_M), ct_P G l am_ci dd me_X10_compared [.ref (am_ad G 10 0)] μ (g_X10_compared μ)) (Hg_X10_either : ∀ (μ : am_M), ct_P G l am_ci dd me_X10_either [.ref (am_ad G 10 0)] μ (g_X10_either μ)) (Hg_X10_one : ∀ (μ : am_M), ct_P G l am_ci dd me_X10_one [.ref (am_ad G 10 0)] μ (g_X10_one μ)) (Hg_X10_product : ∀ (μ : am_M), ct_P G l am_ci dd me_X10_product [.ref (am_ad G 10 0)] μ (g_X10_product μ)) (Hg_X10_sums : ∀ (μ : am_M), ct_P G l am_ci dd me_X10_sums [.ref (am_ad G 10 0)] μ (g_X10_sums μ)) (x1 : Int32) (x2 : Int32) (μ : am_M) : sm_P G l am_ci d me_X10_one 104 [(0, .ref (am_ad G 10 0)), (1, .int x1), (2, .int x2)] [] μ (f_X10_one_104 N g_X10_both g_X10_compared g_X10_either g_X10_one g_X10_product g_X10_sums x1 x2 μ) := by
  unfold f_X10_one_104
  refine sm_aload_n (pc := 104) dX10_one_104 rfl 0 rfl ?_
  refine sm_dup (pc := 105) dX10_one_105 rfl ?_
  refine sm_geti (pc := 106) dX10_one_106 fi_X10_194 ?_
  refine sm_iconst (pc := 109) dX10_one_109 (v := 1) (by decide) ?_
  refine sm_isub (pc := 110) dX10_one_110 ?_
  refine sm_puti (pc := 111) dX10_one_111 fi_X10_194 ?_
  refine sm_nmM (fun μ7 => ?_)
  refine sm_iload_n (pc := 114) dX10_one_114 rfl 1 rfl ?_
  refine sm_bipush (pc := 115) dX10_one_115 (v := 40) (by decide) ?_
  refine sm_icmp_ne (pc := 117) (tgt := 124) dX10_one_117 (by decide) ?_ ?_
  · refine sm_iload_n (pc := 124) dX10_one_124 rfl 1 rfl ?_
    refine sm_bipush (pc := 125) dX10_one_125 (v := 45) (by decide) ?_
    refine sm_icmp_ne (pc := 127) (tgt := 135) dX10_one_127 (by decide) ?_ ?_
    · refine sm_iload_n (pc := 135) dX10_one_135 rfl 2 rfl ?_
      refine sm_if_ne (pc := 136) (tgt := 143) dX10_one_136 (by decide) ?_ ?_
      · refine sm_iconst (pc := 143) dX10_one_143 (v := 0) (by decide) ?_
        exact sm_iret (pc := 144) dX10_one_144 rfl
      · refine sm_iconst (pc := 139) dX10_one_139 (v := 1) (by decide) ?_
        refine sm_goto (pc := 140) (tgt := 144) dX10_one_140 (by decide) ?_
        exact sm_iret (pc := 144) dX10_one_144 rfl
    · refine sm_iload_n (pc := 130) dX10_one_130 rfl 2 rfl ?_
      refine sm_ineg (pc := 131) dX10_one_131 ?_
      refine sm_goto (pc := 132) (tgt := 144) dX10_one_132 (by decide) ?_
      exact sm_iret (pc := 144) dX10_one_144 rfl
  · refine sm_iload_n (pc := 120) dX10_one_120 rfl 2 rfl ?_
    refine sm_goto (pc := 121) (tgt := 144) dX10_one_121 (by decide) ?_
    exact sm_iret (pc := 144) dX10_one_144 rfl
set_option maxHeartbeats 4000000 in
set_option maxRecDepth 100000 in
theorem p_X10_one_83 (G : am_G) (l : Launch) (d : Nat) (hd0 : 2 ≤ d) (dd : Nat) (hdd : dd + 1 ≤ d) (N : Nat) (g_X10_both : am_M → Option (Int32 × am_M)) (g_X10_compared : am_M → Option (Int32 × am_M)) (g_X10_either : am_M → Option (Int32 × am_M)) (g_X10_one : am_M → Option (Int32 × am_M)) (g_X10_product : am_M → Option (Int32 × am_M)) (g_X10_sums : am_M → Option (Int32 × am_M)) (Hg_X10_both : ∀ (μ : am_M), ct_P G l am_ci dd me_X10_both [.ref (am_ad G 10 0)] μ (g_X10_both μ)) (Hg_X10_compared : ∀ (μ : am_M), ct_P G l am_ci dd me_X10_compared [.ref (am_ad G 10 0)] μ (g_X10_compared μ)) (Hg_X10_either : ∀ (μ : am_M), ct_P G l am_ci dd me_X10_either [.ref (am_ad G 10 0)] μ (g_X10_either μ)) (Hg_X10_one : ∀ (μ : am_M), ct_P G l am_ci dd me_X10_one [.ref (am_ad G 10 0)] μ (g_X10_one μ)) (Hg_X10_product : ∀ (μ : am_M), ct_P G l am_ci dd me_X10_product [.ref (am_ad G 10 0)] μ (g_X10_product μ)) (Hg_X10_sums : ∀ (μ : am_M), ct_P G l am_ci dd me_X10_sums [.ref (am_ad G 10 0)] μ (g_X10_sums μ)) (x1 : Int32) (s0 : Int32) (μ : am_M) : sm_P G l am_ci d me_X10_one 83 [(0, .ref (am_ad G 10 0)), (1, .int x1)] [.int s0] μ (f_X10_one_83 N g_X10_both g_X10_compared g_X10_either g_X10_one g_X10_product g_X10_sums x1 s0 μ) := by
  unfold f_X10_one_83
  refine sm_istore_n (pc := 83) (lv' := [(2, .int s0), (0, .ref (am_ad G 10 0)), (1, .int x1)]) dX10_one_83 rfl (by decide) rfl ?_
  refine sm_iload_n (pc := 84) dX10_one_84 rfl 2 rfl ?_
  refine sm_bipush (pc := 85) dX10_one_85 (v := 40) (by decide) ?_
  refine sm_icmp_ne (pc := 87) (tgt := 104) dX10_one_87 (by decide) ?_ ?_
  · refine sm_sub [1, 2, 0] rfl ?_
    exact p_X10_one_104 G l d hd0 dd hdd N g_X10_both g_X10_compared g_X10_either g_X10_one g_X10_product g_X10_sums Hg_X10_both Hg_X10_compared Hg_X10_either Hg_X10_one Hg_X10_product Hg_X10_sums x1 s0 μ
  · refine sm_aload_n (pc := 90) dX10_one_90 rfl 1 rfl ?_
    refine sm_bipush (pc := 91) dX10_one_91 (v := 41) (by decide) ?_
    refine sm_callVi (pc := 93) (As := [.int (41 : Int32)]) (rest := []) dX10_one_93 (c_X10_takes G l N (41 : Int32) μ) (by omega) wl_X10_180 vm_X10_takes rfl rfl (Nat.le_of_ble_eq_true rfl) (fun y9 μ8 => ?_)
    refine sm_if_ne (pc := 96) (tgt := 104) dX10_one_96 (by decide) ?_ ?_
    · refine sm_sub [1, 2, 0] rfl ?_
      exact p_X10_one_104 G l d hd0 dd hdd N g_X10_both g_X10_compared g_X10_either g_X10_one g_X10_product g_X10_sums Hg_X10_both Hg_X10_compared Hg_X10_either Hg_X10_one Hg_X10_product Hg_X10_sums x1 s0 μ8
    · refine sm_aload_n (pc := 99) dX10_one_99 rfl 1 rfl ?_
      refine sm_callVi (pc := 100) (As := []) (rest := []) dX10_one_100 (c_X10_fails G l N μ8) (by omega) wl_X10_197 vm_X10_fails rfl rfl (Nat.le_of_ble_eq_true rfl) (fun y11 μ10 => ?_)
      exact sm_iret (pc := 103) dX10_one_103 rfl
set_option maxHeartbeats 4000000 in
set_option maxRecDepth 100000 in
theorem p_X10_one_32 (G : am_G) (l : Launch) (d : Nat) (hd0 : 2 ≤ d) (dd : Nat) (hdd : dd + 1 ≤ d) (N : Nat) (g_X10_both : am_M → Option (Int32 × am_M)) (g_X10_compared : am_M → Option (Int32 × am_M)) (g_X10_either : am_M → Option (Int32 × am_M)) (g_X10_one : am_M → Option (Int32 × am_M)) (g_X10_product : am_M → Option (Int32 × am_M)) (g_X10_sums : am_M → Option (Int32 × am_M)) (Hg_X10_both : ∀ (μ : am_M), ct_P G l am_ci dd me_X10_both [.ref (am_ad G 10 0)] μ (g_X10_both μ)) (Hg_X10_compared : ∀ (μ : am_M), ct_P G l am_ci dd me_X10_compared [.ref (am_ad G 10 0)] μ (g_X10_compared μ)) (Hg_X10_either : ∀ (μ : am_M), ct_P G l am_ci dd me_X10_either [.ref (am_ad G 10 0)] μ (g_X10_either μ)) (Hg_X10_one : ∀ (μ : am_M), ct_P G l am_ci dd me_X10_one [.ref (am_ad G 10 0)] μ (g_X10_one μ)) (Hg_X10_product : ∀ (μ : am_M), ct_P G l am_ci dd me_X10_product [.ref (am_ad G 10 0)] μ (g_X10_product μ)) (Hg_X10_sums : ∀ (μ : am_M), ct_P G l am_ci dd me_X10_sums [.ref (am_ad G 10 0)] μ (g_X10_sums μ)) (x1 : Int32) (μ : am_M) : sm_P G l am_ci d me_X10_one 32 [(0, .ref (am_ad G 10 0)), (1, .int x1)] [] μ (f_X10_one_32 N g_X10_both g_X10_compared g_X10_either g_X10_one g_X10_product g_X10_sums x1 μ) := by
  unfold f_X10_one_32
  refine sm_aload_n (pc := 32) dX10_one_32 rfl 0 rfl ?_
  refine sm_geti (pc := 33) dX10_one_33 fi_X10_194 ?_
  refine sm_bipush (pc := 36) dX10_one_36 (v := 6) (by decide) ?_
  refine sm_icmp_ne (pc := 38) (tgt := 46) dX10_one_38 (by decide) ?_ ?_
  · refine sm_aload_n (pc := 46) dX10_one_46 rfl 0 rfl ?_
    refine sm_dup (pc := 47) dX10_one_47 rfl ?_
    refine sm_geti (pc := 48) dX10_one_48 fi_X10_194 ?_
    refine sm_iconst (pc := 51) dX10_one_51 (v := 1) (by decide) ?_
    refine sm_iadd (pc := 52) dX10_one_52 ?_
    refine sm_puti (pc := 53) dX10_one_53 fi_X10_194 ?_
    refine sm_nmM (fun μ3 => ?_)
    refine sm_aload_n (pc := 56) dX10_one_56 rfl 0 rfl ?_
    refine sm_dup (pc := 57) dX10_one_57 rfl ?_
    refine sm_geti (pc := 58) dX10_one_58 fi_X10_161 ?_
    refine sm_iconst (pc := 61) dX10_one_61 (v := 1) (by decide) ?_
    refine sm_iadd (pc := 62) dX10_one_62 ?_
    refine sm_puti (pc := 63) dX10_one_63 fi_X10_161 ?_
    refine sm_nmM (fun μ4 => ?_)
    refine sm_iload_n (pc := 66) dX10_one_66 rfl 1 rfl ?_
    refine sm_bipush (pc := 67) dX10_one_67 (v := 40) (by decide) ?_
    refine sm_icmp_ne (pc := 69) (tgt := 79) dX10_one_69 (by decide) ?_ ?_
    · refine sm_aload_n (pc := 79) dX10_one_79 rfl 0 rfl ?_
      refine sm_callVi (pc := 80) (As := []) (rest := []) dX10_one_80 (Hg_X10_one μ4) (by omega) wl_X10_191 vm_X10_one rfl rfl (Nat.le_of_ble_eq_true rfl) (fun y6 μ5 => ?_)
      exact p_X10_one_83 G l d hd0 dd hdd N g_X10_both g_X10_compared g_X10_either g_X10_one g_X10_product g_X10_sums Hg_X10_both Hg_X10_compared Hg_X10_either Hg_X10_one Hg_X10_product Hg_X10_sums x1 y6 μ5
    · refine sm_aload_n (pc := 72) dX10_one_72 rfl 0 rfl ?_
      refine sm_callVi (pc := 73) (As := []) (rest := []) dX10_one_73 (Hg_X10_either μ4) (by omega) wl_X10_200 vm_X10_either rfl rfl (Nat.le_of_ble_eq_true rfl) (fun y13 μ12 => ?_)
      refine sm_goto (pc := 76) (tgt := 83) dX10_one_76 (by decide) ?_
      exact p_X10_one_83 G l d hd0 dd hdd N g_X10_both g_X10_compared g_X10_either g_X10_one g_X10_product g_X10_sums Hg_X10_both Hg_X10_compared Hg_X10_either Hg_X10_one Hg_X10_product Hg_X10_sums x1 y13 μ12
  · refine sm_aload_n (pc := 41) dX10_one_41 rfl 0 rfl ?_
    refine sm_callVi (pc := 42) (As := []) (rest := []) dX10_one_42 (c_X10_fails G l N μ) (by omega) wl_X10_197 vm_X10_fails rfl rfl (Nat.le_of_ble_eq_true rfl) (fun y15 μ14 => ?_)
    exact sm_iret (pc := 45) dX10_one_45 rfl
set_option maxHeartbeats 4000000 in
set_option maxRecDepth 100000 in
theorem p_X10_one_229 (G : am_G) (l : Launch) (d : Nat) (hd0 : 2 ≤ d) (dd : Nat) (hdd : dd + 1 ≤ d) (N : Nat) (g_X10_both : am_M → Option (Int32 × am_M)) (g_X10_compared : am_M → Option (Int32 × am_M)) (g_X10_either : am_M → Option (Int32 × am_M)) (g_X10_one : am_M → Option (Int32 × am_M)) (g_X10_product : am_M → Option (Int32 × am_M)) (g_X10_sums : am_M → Option (Int32 × am_M)) (Hg_X10_both : ∀ (μ : am_M), ct_P G l am_ci dd me_X10_both [.ref (am_ad G 10 0)] μ (g_X10_both μ)) (Hg_X10_compared : ∀ (μ : am_M), ct_P G l am_ci dd me_X10_compared [.ref (am_ad G 10 0)] μ (g_X10_compared μ)) (Hg_X10_either : ∀ (μ : am_M), ct_P G l am_ci dd me_X10_either [.ref (am_ad G 10 0)] μ (g_X10_either μ)) (Hg_X10_one : ∀ (μ : am_M), ct_P G l am_ci dd me_X10_one [.ref (am_ad G 10 0)] μ (g_X10_one μ)) (Hg_X10_product : ∀ (μ : am_M), ct_P G l am_ci dd me_X10_product [.ref (am_ad G 10 0)] μ (g_X10_product μ)) (Hg_X10_sums : ∀ (μ : am_M), ct_P G l am_ci dd me_X10_sums [.ref (am_ad G 10 0)] μ (g_X10_sums μ)) (x3 : Int32) (x4 : Int32) (μ : am_M) : sm_P G l am_ci d me_X10_one 229 [(0, .ref (am_ad G 10 0)), (3, .int x3), (4, .int x4)] [] μ (f_X10_one_229 N g_X10_both g_X10_compared g_X10_either g_X10_one g_X10_product g_X10_sums x3 x4 μ) := by
  unfold f_X10_one_229
  refine sm_iload (pc := 229) dX10_one_229 2 rfl ?_
  refine sm_if_ne (pc := 231) (tgt := 241) dX10_one_231 (by decide) ?_ ?_
  · refine sm_iload_n (pc := 241) dX10_one_241 rfl 1 rfl ?_
    exact sm_iret (pc := 242) dX10_one_242 rfl
  · refine sm_aload_n (pc := 234) dX10_one_234 rfl 0 rfl ?_
    refine sm_callVi (pc := 235) (As := []) (rest := []) dX10_one_235 (c_X10_fails G l N μ) (by omega) wl_X10_197 vm_X10_fails rfl rfl (Nat.le_of_ble_eq_true rfl) (fun y19 μ18 => ?_)
    refine sm_goto (pc := 238) (tgt := 242) dX10_one_238 (by decide) ?_
    exact sm_iret (pc := 242) dX10_one_242 rfl
set_option maxHeartbeats 4000000 in
set_option maxRecDepth 100000 in
theorem p_X10_one_176 (G : am_G) (l : Launch) (d : Nat) (hd0 : 2 ≤ d) (dd : Nat) (hdd : dd + 1 ≤ d) (N : Nat) (g_X10_both : am_M → Option (Int32 × am_M)) (g_X10_compared : am_M → Option (Int32 × am_M)) (g_X10_either : am_M → Option (Int32 × am_M)) (g_X10_one : am_M → Option (Int32 × am_M)) (g_X10_product : am_M → Option (Int32 × am_M)) (g_X10_sums : am_M → Option (Int32 × am_M)) (r_176 : Int32 → Int32 → am_M → Option (Int32 × am_M)) (Hg_X10_both : ∀ (μ : am_M), ct_P G l am_ci dd me_X10_both [.ref (am_ad G 10 0)] μ (g_X10_both μ)) (Hg_X10_compared : ∀ (μ : am_M), ct_P G l am_ci dd me_X10_compared [.ref (am_ad G 10 0)] μ (g_X10_compared μ)) (Hg_X10_either : ∀ (μ : am_M), ct_P G l am_ci dd me_X10_either [.ref (am_ad G 10 0)] μ (g_X10_either μ)) (Hg_X10_one : ∀ (μ : am_M), ct_P G l am_ci dd me_X10_one [.ref (am_ad G 10 0)] μ (g_X10_one μ)) (Hg_X10_product : ∀ (μ : am_M), ct_P G l am_ci dd me_X10_product [.ref (am_ad G 10 0)] μ (g_X10_product μ)) (Hg_X10_sums : ∀ (μ : am_M), ct_P G l am_ci dd me_X10_sums [.ref (am_ad G 10 0)] μ (g_X10_sums μ)) (H_176 : ∀ (x3 : Int32) (x4 : Int32) (μ : am_M), sm_P G l am_ci d me_X10_one 176 [(0, .ref (am_ad G 10 0)), (3, .int x3), (4, .int x4)] [] μ (r_176 x3 x4 μ)) (x3 : Int32) (x4 : Int32) (μ : am_M) : sm_P G l am_ci d me_X10_one 176 [(0, .ref (am_ad G 10 0)), (3, .int x3), (4, .int x4)] [] μ (f_X10_one_176 N g_X10_both g_X10_compared g_X10_either g_X10_one g_X10_product g_X10_sums r_176 x3 x4 μ) := by
  unfold f_X10_one_176
  refine sm_iload (pc := 176) dX10_one_176 2 rfl ?_
  refine sm_iconst (pc := 178) dX10_one_178 (v := 4) (by decide) ?_
  refine sm_icmp_ge (pc := 179) (tgt := 229) dX10_one_179 (by decide) ?_ ?_
  · exact p_X10_one_229 G l d hd0 dd hdd N g_X10_both g_X10_compared g_X10_either g_X10_one g_X10_product g_X10_sums Hg_X10_both Hg_X10_compared Hg_X10_either Hg_X10_one Hg_X10_product Hg_X10_sums x3 x4 μ
  · refine sm_aload_n (pc := 182) dX10_one_182 rfl 0 rfl ?_
    refine sm_callVi (pc := 183) (As := []) (rest := []) dX10_one_183 (c_X10_byteAt G l N μ) (by omega) wl_X10_173 vm_X10_byteAt rfl rfl (Nat.le_of_ble_eq_true rfl) (fun y21 μ20 => ?_)
    refine sm_bipush (pc := 186) dX10_one_186 (v := 48) (by decide) ?_
    refine sm_icmp_lt (pc := 188) (tgt := 229) dX10_one_188 (by decide) ?_ ?_
    · exact p_X10_one_229 G l d hd0 dd hdd N g_X10_both g_X10_compared g_X10_either g_X10_one g_X10_product g_X10_sums Hg_X10_both Hg_X10_compared Hg_X10_either Hg_X10_one Hg_X10_product Hg_X10_sums x3 x4 μ20
    · refine sm_aload_n (pc := 191) dX10_one_191 rfl 0 rfl ?_
      refine sm_callVi (pc := 192) (As := []) (rest := []) dX10_one_192 (c_X10_byteAt G l N μ20) (by omega) wl_X10_173 vm_X10_byteAt rfl rfl (Nat.le_of_ble_eq_true rfl) (fun y23 μ22 => ?_)
      refine sm_bipush (pc := 195) dX10_one_195 (v := 57) (by decide) ?_
      refine sm_icmp_gt (pc := 197) (tgt := 229) dX10_one_197 (by decide) ?_ ?_
      · exact p_X10_one_229 G l d hd0 dd hdd N g_X10_both g_X10_compared g_X10_either g_X10_one g_X10_product g_X10_sums Hg_X10_both Hg_X10_compared Hg_X10_either Hg_X10_one Hg_X10_product Hg_X10_sums x3 x4 μ22
      · refine sm_bipush (pc := 200) dX10_one_200 (v := 10) (by decide) ?_
        refine sm_iload_n (pc := 202) dX10_one_202 rfl 1 rfl ?_
        refine sm_imul (pc := 203) dX10_one_203 ?_
        refine sm_aload_n (pc := 204) dX10_one_204 rfl 0 rfl ?_
        refine sm_callVi (pc := 205) (As := []) (rest := [.int ((10 : Int32) * x3)]) dX10_one_205 (c_X10_byteAt G l N μ22) (by omega) wl_X10_173 vm_X10_byteAt rfl rfl (Nat.le_of_ble_eq_true rfl) (fun y25 μ24 => ?_)
        refine sm_iadd (pc := 208) dX10_one_208 ?_
        refine sm_bipush (pc := 209) dX10_one_209 (v := 48) (by decide) ?_
        refine sm_isub (pc := 211) dX10_one_211 ?_
        refine sm_nmI (fun y26 => ?_)
        refine sm_istore_n (pc := 212) (lv' := [(3, .int y26), (0, .ref (am_ad G 10 0)), (4, .int x4)]) dX10_one_212 rfl (by decide) rfl ?_
        refine sm_iinc (pc := 213) (v := (x4 + (1 : Int32))) (lv' := [(4, .int (x4 + (1 : Int32))), (3, .int y26), (0, .ref (am_ad G 10 0))]) dX10_one_213 2 rfl rfl (by decide) rfl ?_
        refine sm_aload_n (pc := 216) dX10_one_216 rfl 2 rfl ?_
        refine sm_dup (pc := 217) dX10_one_217 rfl ?_
        refine sm_geti (pc := 218) dX10_one_218 fi_X10_161 ?_
        refine sm_iconst (pc := 221) dX10_one_221 (v := 1) (by decide) ?_
        refine sm_iadd (pc := 222) dX10_one_222 ?_
        refine sm_puti (pc := 223) dX10_one_223 fi_X10_161 ?_
        refine sm_nmM (fun μ27 => ?_)
        refine sm_goto (pc := 226) (tgt := 176) dX10_one_226 (by decide) ?_
        refine sm_sub [2, 1, 0] rfl ?_
        exact H_176 y26 (x4 + (1 : Int32)) μ27
theorem p_X10_one_176_lp (G : am_G) (l : Launch) (d : Nat) (hd0 : 2 ≤ d) (dd : Nat) (hdd : dd + 1 ≤ d) (N : Nat) (g_X10_both : am_M → Option (Int32 × am_M)) (g_X10_compared : am_M → Option (Int32 × am_M)) (g_X10_either : am_M → Option (Int32 × am_M)) (g_X10_one : am_M → Option (Int32 × am_M)) (g_X10_product : am_M → Option (Int32 × am_M)) (g_X10_sums : am_M → Option (Int32 × am_M)) (Hg_X10_both : ∀ (μ : am_M), ct_P G l am_ci dd me_X10_both [.ref (am_ad G 10 0)] μ (g_X10_both μ)) (Hg_X10_compared : ∀ (μ : am_M), ct_P G l am_ci dd me_X10_compared [.ref (am_ad G 10 0)] μ (g_X10_compared μ)) (Hg_X10_either : ∀ (μ : am_M), ct_P G l am_ci dd me_X10_either [.ref (am_ad G 10 0)] μ (g_X10_either μ)) (Hg_X10_one : ∀ (μ : am_M), ct_P G l am_ci dd me_X10_one [.ref (am_ad G 10 0)] μ (g_X10_one μ)) (Hg_X10_product : ∀ (μ : am_M), ct_P G l am_ci dd me_X10_product [.ref (am_ad G 10 0)] μ (g_X10_product μ)) (Hg_X10_sums : ∀ (μ : am_M), ct_P G l am_ci dd me_X10_sums [.ref (am_ad G 10 0)] μ (g_X10_sums μ)) : ∀ (n : Nat) (x3 : Int32) (x4 : Int32) (μ : am_M), sm_P G l am_ci d me_X10_one 176 [(0, .ref (am_ad G 10 0)), (3, .int x3), (4, .int x4)] [] μ (f_X10_one_176_lp N g_X10_both g_X10_compared g_X10_either g_X10_one g_X10_product g_X10_sums n x3 x4 μ) := by
  intro n
  induction n with
  | zero => intros; exact sm_none
  | succ n ih => exact fun x3 x4 μ => p_X10_one_176 G l d hd0 dd hdd N g_X10_both g_X10_compared g_X10_either g_X10_one g_X10_product g_X10_sums (f_X10_one_176_lp N g_X10_both g_X10_compared g_X10_either g_X10_one g_X10_product g_X10_sums n) Hg_X10_both Hg_X10_compared Hg_X10_either Hg_X10_one Hg_X10_product Hg_X10_sums ih x3 x4 μ
set_option maxHeartbeats 4000000 in
set_option maxRecDepth 100000 in
theorem p_X10_one_0 (G : am_G) (l : Launch) (d : Nat) (hd0 : 2 ≤ d) (dd : Nat) (hdd : dd + 1 ≤ d) (N : Nat) (g_X10_both : am_M → Option (Int32 × am_M)) (g_X10_compared : am_M → Option (Int32 × am_M)) (g_X10_either : am_M → Option (Int32 × am_M)) (g_X10_one : am_M → Option (Int32 × am_M)) (g_X10_product : am_M → Option (Int32 × am_M)) (g_X10_sums : am_M → Option (Int32 × am_M)) (Hg_X10_both : ∀ (μ : am_M), ct_P G l am_ci dd me_X10_both [.ref (am_ad G 10 0)] μ (g_X10_both μ)) (Hg_X10_compared : ∀ (μ : am_M), ct_P G l am_ci dd me_X10_compared [.ref (am_ad G 10 0)] μ (g_X10_compared μ)) (Hg_X10_either : ∀ (μ : am_M), ct_P G l am_ci dd me_X10_either [.ref (am_ad G 10 0)] μ (g_X10_either μ)) (Hg_X10_one : ∀ (μ : am_M), ct_P G l am_ci dd me_X10_one [.ref (am_ad G 10 0)] μ (g_X10_one μ)) (Hg_X10_product : ∀ (μ : am_M), ct_P G l am_ci dd me_X10_product [.ref (am_ad G 10 0)] μ (g_X10_product μ)) (Hg_X10_sums : ∀ (μ : am_M), ct_P G l am_ci dd me_X10_sums [.ref (am_ad G 10 0)] μ (g_X10_sums μ)) (μ : am_M) : sm_P G l am_ci d me_X10_one 0 [(0, .ref (am_ad G 10 0))] [] μ (f_X10_one_0 N g_X10_both g_X10_compared g_X10_either g_X10_one g_X10_product g_X10_sums μ) := by
  unfold f_X10_one_0
  refine sm_aload_n (pc := 0) dX10_one_0 rfl 0 rfl ?_
  refine sm_geti (pc := 1) dX10_one_1 fi_X10_170 ?_
  refine sm_if_lt (pc := 4) (tgt := 9) dX10_one_4 (by decide) ?_ ?_
  · refine sm_aload_n (pc := 9) dX10_one_9 rfl 0 rfl ?_
    refine sm_callVi (pc := 10) (As := []) (rest := []) dX10_one_10 (c_X10_byteAt G l N μ) (by omega) wl_X10_173 vm_X10_byteAt rfl rfl (Nat.le_of_ble_eq_true rfl) (fun y2 μ1 => ?_)
    refine sm_istore_n (pc := 13) (lv' := [(1, .int y2), (0, .ref (am_ad G 10 0))]) dX10_one_13 rfl (by decide) rfl ?_
    refine sm_iload_n (pc := 14) dX10_one_14 rfl 0 rfl ?_
    refine sm_bipush (pc := 15) dX10_one_15 (v := 33) (by decide) ?_
    refine sm_icmp_eq (pc := 17) (tgt := 32) dX10_one_17 (by decide) ?_ ?_
    · refine sm_sub [1, 0] rfl ?_
      exact p_X10_one_32 G l d hd0 dd hdd N g_X10_both g_X10_compared g_X10_either g_X10_one g_X10_product g_X10_sums Hg_X10_both Hg_X10_compared Hg_X10_either Hg_X10_one Hg_X10_product Hg_X10_sums y2 μ1
    · refine sm_iload_n (pc := 20) dX10_one_20 rfl 0 rfl ?_
      refine sm_bipush (pc := 21) dX10_one_21 (v := 45) (by decide) ?_
      refine sm_icmp_eq (pc := 23) (tgt := 32) dX10_one_23 (by decide) ?_ ?_
      · refine sm_sub [1, 0] rfl ?_
        exact p_X10_one_32 G l d hd0 dd hdd N g_X10_both g_X10_compared g_X10_either g_X10_one g_X10_product g_X10_sums Hg_X10_both Hg_X10_compared Hg_X10_either Hg_X10_one Hg_X10_product Hg_X10_sums y2 μ1
      · refine sm_iload_n (pc := 26) dX10_one_26 rfl 0 rfl ?_
        refine sm_bipush (pc := 27) dX10_one_27 (v := 40) (by decide) ?_
        refine sm_icmp_ne (pc := 29) (tgt := 145) dX10_one_29 (by decide) ?_ ?_
        · refine sm_iload_n (pc := 145) dX10_one_145 rfl 0 rfl ?_
          refine sm_callSi (pc := 146) (As := [.int y2]) (rest := []) dX10_one_146 (c_X10_nameOf G l N y2 μ1) (by omega) wl_X10_203 st_X10_nameOf rfl rfl (Nat.le_of_ble_eq_true rfl) (fun y17 μ16 => ?_)
          refine sm_istore_n (pc := 149) (lv' := [(2, .int y17), (1, .int y2), (0, .ref (am_ad G 10 0))]) dX10_one_149 rfl (by decide) rfl ?_
          refine sm_iload_n (pc := 150) dX10_one_150 rfl 0 rfl ?_
          refine sm_if_lt (pc := 151) (tgt := 171) dX10_one_151 (by decide) ?_ ?_
          · refine sm_iconst (pc := 171) dX10_one_171 (v := 0) (by decide) ?_
            refine sm_istore_n (pc := 172) (lv' := [(3, .int (0 : Int32)), (2, .int y17), (1, .int y2), (0, .ref (am_ad G 10 0))]) dX10_one_172 rfl (by decide) rfl ?_
            refine sm_iconst (pc := 173) dX10_one_173 (v := 0) (by decide) ?_
            refine sm_istore (pc := 174) (lv' := [(4, .int (0 : Int32)), (3, .int (0 : Int32)), (2, .int y17), (1, .int y2), (0, .ref (am_ad G 10 0))]) dX10_one_174 (by decide) rfl ?_
            refine sm_sub [4, 1, 0] rfl ?_
            exact p_X10_one_176_lp G l d hd0 dd hdd N g_X10_both g_X10_compared g_X10_either g_X10_one g_X10_product g_X10_sums Hg_X10_both Hg_X10_compared Hg_X10_either Hg_X10_one Hg_X10_product Hg_X10_sums N (0 : Int32) (0 : Int32) μ16
          · refine sm_aload_n (pc := 154) dX10_one_154 rfl 2 rfl ?_
            refine sm_dup (pc := 155) dX10_one_155 rfl ?_
            refine sm_geti (pc := 156) dX10_one_156 fi_X10_161 ?_
            refine sm_iconst (pc := 159) dX10_one_159 (v := 1) (by decide) ?_
            refine sm_iadd (pc := 160) dX10_one_160 ?_
            refine sm_puti (pc := 161) dX10_one_161 fi_X10_161 ?_
            refine sm_nmM (fun μ28 => ?_)
            refine sm_aload_n (pc := 164) dX10_one_164 rfl 2 rfl ?_
            refine sm_getr (pc := 165) dX10_one_165 fi_X10_46 ?_
            refine sm_iload_n (pc := 168) dX10_one_168 rfl 0 rfl ?_
            refine sm_iald (pc := 169) dX10_one_169 ly_183 (by decide) (fun j29 hj29 => ?_)
            exact sm_iret (pc := 170) dX10_one_170 rfl
        · refine sm_sub [1, 0] rfl ?_
          exact p_X10_one_32 G l d hd0 dd hdd N g_X10_both g_X10_compared g_X10_either g_X10_one g_X10_product g_X10_sums Hg_X10_both Hg_X10_compared Hg_X10_either Hg_X10_one Hg_X10_product Hg_X10_sums y2 μ1
  · refine sm_iconst (pc := 7) dX10_one_7 (v := 0) (by decide) ?_
    exact sm_iret (pc := 8) dX10_one_8 rfl
set_option maxHeartbeats 4000000 in
set_option maxRecDepth 100000 in
theorem p_X10_product_85 (G : am_G) (l : Launch) (d : Nat) (hd0 : 2 ≤ d) (dd : Nat) (hdd : dd + 1 ≤ d) (N : Nat) (g_X10_both : am_M → Option (Int32 × am_M)) (g_X10_compared : am_M → Option (Int32 × am_M)) (g_X10_either : am_M → Option (Int32 × am_M)) (g_X10_one : am_M → Option (Int32 × am_M)) (g_X10_product : am_M → Option (Int32 × am_M)) (g_X10_sums : am_M → Option (Int32 × am_M)) (r_10 : Int32 → Int32 → am_M → Option (Int32 × am_M)) (Hg_X10_both : ∀ (μ : am_M), ct_P G l am_ci dd me_X10_both [.ref (am_ad G 10 0)] μ (g_X10_both μ)) (Hg_X10_compared : ∀ (μ : am_M), ct_P G l am_ci dd me_X10_compared [.ref (am_ad G 10 0)] μ (g_X10_compared μ)) (Hg_X10_either : ∀ (μ : am_M), ct_P G l am_ci dd me_X10_either [.ref (am_ad G 10 0)] μ (g_X10_either μ)) (Hg_X10_one : ∀ (μ : am_M), ct_P G l am_ci dd me_X10_one [.ref (am_ad G 10 0)] μ (g_X10_one μ)) (Hg_X10_product : ∀ (μ : am_M), ct_P G l am_ci dd me_X10_product [.ref (am_ad G 10 0)] μ (g_X10_product μ)) (Hg_X10_sums : ∀ (μ : am_M), ct_P G l am_ci dd me_X10_sums [.ref (am_ad G 10 0)] μ (g_X10_sums μ)) (H_10 : ∀ (x1 : Int32) (x2 : Int32) (μ : am_M), sm_P G l am_ci d me_X10_product 10 [(0, .ref (am_ad G 10 0)), (1, .int x1), (2, .int x2)] [] μ (r_10 x1 x2 μ)) (s0 : Int32) (μ : am_M) : sm_P G l am_ci d me_X10_product 85 [(0, .ref (am_ad G 10 0))] [.int s0] μ (f_X10_product_85 N g_X10_both g_X10_compared g_X10_either g_X10_one g_X10_product g_X10_sums r_10 s0 μ) := by
  unfold f_X10_product_85
  refine sm_istore_n (pc := 85) (lv' := [(1, .int s0), (0, .ref (am_ad G 10 0))]) dX10_product_85 rfl (by decide) rfl ?_
  refine sm_aload_n (pc := 86) dX10_product_86 rfl 1 rfl ?_
  refine sm_callVi (pc := 87) (As := []) (rest := []) dX10_product_87 (c_X10_byteAt G l N μ) (by omega) wl_X10_173 vm_X10_byteAt rfl rfl (Nat.le_of_ble_eq_true rfl) (fun y9 μ8 => ?_)
  refine sm_istore_n (pc := 90) (lv' := [(2, .int y9), (1, .int s0), (0, .ref (am_ad G 10 0))]) dX10_product_90 rfl (by decide) rfl ?_
  refine sm_goto (pc := 91) (tgt := 10) dX10_product_91 (by decide) ?_
  refine sm_sub [2, 1, 0] rfl ?_
  exact H_10 s0 y9 μ8
set_option maxHeartbeats 4000000 in
set_option maxRecDepth 100000 in
theorem p_X10_product_35 (G : am_G) (l : Launch) (d : Nat) (hd0 : 2 ≤ d) (dd : Nat) (hdd : dd + 1 ≤ d) (N : Nat) (g_X10_both : am_M → Option (Int32 × am_M)) (g_X10_compared : am_M → Option (Int32 × am_M)) (g_X10_either : am_M → Option (Int32 × am_M)) (g_X10_one : am_M → Option (Int32 × am_M)) (g_X10_product : am_M → Option (Int32 × am_M)) (g_X10_sums : am_M → Option (Int32 × am_M)) (r_10 : Int32 → Int32 → am_M → Option (Int32 × am_M)) (Hg_X10_both : ∀ (μ : am_M), ct_P G l am_ci dd me_X10_both [.ref (am_ad G 10 0)] μ (g_X10_both μ)) (Hg_X10_compared : ∀ (μ : am_M), ct_P G l am_ci dd me_X10_compared [.ref (am_ad G 10 0)] μ (g_X10_compared μ)) (Hg_X10_either : ∀ (μ : am_M), ct_P G l am_ci dd me_X10_either [.ref (am_ad G 10 0)] μ (g_X10_either μ)) (Hg_X10_one : ∀ (μ : am_M), ct_P G l am_ci dd me_X10_one [.ref (am_ad G 10 0)] μ (g_X10_one μ)) (Hg_X10_product : ∀ (μ : am_M), ct_P G l am_ci dd me_X10_product [.ref (am_ad G 10 0)] μ (g_X10_product μ)) (Hg_X10_sums : ∀ (μ : am_M), ct_P G l am_ci dd me_X10_sums [.ref (am_ad G 10 0)] μ (g_X10_sums μ)) (H_10 : ∀ (x1 : Int32) (x2 : Int32) (μ : am_M), sm_P G l am_ci d me_X10_product 10 [(0, .ref (am_ad G 10 0)), (1, .int x1), (2, .int x2)] [] μ (r_10 x1 x2 μ)) (x1 : Int32) (x2 : Int32) (μ : am_M) : sm_P G l am_ci d me_X10_product 35 [(0, .ref (am_ad G 10 0)), (1, .int x1), (2, .int x2)] [] μ (f_X10_product_35 N g_X10_both g_X10_compared g_X10_either g_X10_one g_X10_product g_X10_sums r_10 x1 x2 μ) := by
  unfold f_X10_product_35
  refine sm_aload_n (pc := 35) dX10_product_35 rfl 0 rfl ?_
  refine sm_dup (pc := 36) dX10_product_36 rfl ?_
  refine sm_geti (pc := 37) dX10_product_37 fi_X10_161 ?_
  refine sm_iconst (pc := 40) dX10_product_40 (v := 1) (by decide) ?_
  refine sm_iadd (pc := 41) dX10_product_41 ?_
  refine sm_puti (pc := 42) dX10_product_42 fi_X10_161 ?_
  refine sm_nmM (fun μ5 => ?_)
  refine sm_aload_n (pc := 45) dX10_product_45 rfl 0 rfl ?_
  refine sm_callVi (pc := 46) (As := []) (rest := []) dX10_product_46 (Hg_X10_one μ5) (by omega) wl_X10_191 vm_X10_one rfl rfl (Nat.le_of_ble_eq_true rfl) (fun y7 μ6 => ?_)
  refine sm_istore_n (pc := 49) (lv' := [(3, .int y7), (0, .ref (am_ad G 10 0)), (1, .int x1), (2, .int x2)]) dX10_product_49 rfl (by decide) rfl ?_
  refine sm_iload_n (pc := 50) dX10_product_50 rfl 3 rfl ?_
  refine sm_bipush (pc := 51) dX10_product_51 (v := 42) (by decide) ?_
  refine sm_icmp_ne (pc := 53) (tgt := 62) dX10_product_53 (by decide) ?_ ?_
  · refine sm_iload_n (pc := 62) dX10_product_62 rfl 0 rfl ?_
    refine sm_if_ne (pc := 63) (tgt := 70) dX10_product_63 (by decide) ?_ ?_
    · refine sm_iload_n (pc := 70) dX10_product_70 rfl 3 rfl ?_
      refine sm_bipush (pc := 71) dX10_product_71 (v := 47) (by decide) ?_
      refine sm_icmp_ne (pc := 73) (tgt := 82) dX10_product_73 (by decide) ?_ ?_
      · refine sm_iload_n (pc := 82) dX10_product_82 rfl 2 rfl ?_
        refine sm_iload_n (pc := 83) dX10_product_83 rfl 0 rfl ?_
        refine sm_irem (pc := 84) dX10_product_84 (fun _ => ?_)
        refine sm_sub [1] rfl ?_
        exact p_X10_product_85 G l d hd0 dd hdd N g_X10_both g_X10_compared g_X10_either g_X10_one g_X10_product g_X10_sums r_10 Hg_X10_both Hg_X10_compared Hg_X10_either Hg_X10_one Hg_X10_product Hg_X10_sums H_10 (am_rem x1 y7) μ6
      · refine sm_iload_n (pc := 76) dX10_product_76 rfl 2 rfl ?_
        refine sm_iload_n (pc := 77) dX10_product_77 rfl 0 rfl ?_
        refine sm_idiv (pc := 78) dX10_product_78 (fun _ => ?_)
        refine sm_goto (pc := 79) (tgt := 85) dX10_product_79 (by decide) ?_
        refine sm_sub [1] rfl ?_
        exact p_X10_product_85 G l d hd0 dd hdd N g_X10_both g_X10_compared g_X10_either g_X10_one g_X10_product g_X10_sums r_10 Hg_X10_both Hg_X10_compared Hg_X10_either Hg_X10_one Hg_X10_product Hg_X10_sums H_10 (x1 / y7) μ6
    · refine sm_iconst (pc := 66) dX10_product_66 (v := 0) (by decide) ?_
      refine sm_goto (pc := 67) (tgt := 85) dX10_product_67 (by decide) ?_
      refine sm_sub [1] rfl ?_
      exact p_X10_product_85 G l d hd0 dd hdd N g_X10_both g_X10_compared g_X10_either g_X10_one g_X10_product g_X10_sums r_10 Hg_X10_both Hg_X10_compared Hg_X10_either Hg_X10_one Hg_X10_product Hg_X10_sums H_10 (0 : Int32) μ6
  · refine sm_iload_n (pc := 56) dX10_product_56 rfl 2 rfl ?_
    refine sm_iload_n (pc := 57) dX10_product_57 rfl 0 rfl ?_
    refine sm_imul (pc := 58) dX10_product_58 ?_
    refine sm_goto (pc := 59) (tgt := 85) dX10_product_59 (by decide) ?_
    refine sm_sub [1] rfl ?_
    exact p_X10_product_85 G l d hd0 dd hdd N g_X10_both g_X10_compared g_X10_either g_X10_one g_X10_product g_X10_sums r_10 Hg_X10_both Hg_X10_compared Hg_X10_either Hg_X10_one Hg_X10_product Hg_X10_sums H_10 (x1 * y7) μ6
set_option maxHeartbeats 4000000 in
set_option maxRecDepth 100000 in
theorem p_X10_product_10 (G : am_G) (l : Launch) (d : Nat) (hd0 : 2 ≤ d) (dd : Nat) (hdd : dd + 1 ≤ d) (N : Nat) (g_X10_both : am_M → Option (Int32 × am_M)) (g_X10_compared : am_M → Option (Int32 × am_M)) (g_X10_either : am_M → Option (Int32 × am_M)) (g_X10_one : am_M → Option (Int32 × am_M)) (g_X10_product : am_M → Option (Int32 × am_M)) (g_X10_sums : am_M → Option (Int32 × am_M)) (r_10 : Int32 → Int32 → am_M → Option (Int32 × am_M)) (Hg_X10_both : ∀ (μ : am_M), ct_P G l am_ci dd me_X10_both [.ref (am_ad G 10 0)] μ (g_X10_both μ)) (Hg_X10_compared : ∀ (μ : am_M), ct_P G l am_ci dd me_X10_compared [.ref (am_ad G 10 0)] μ (g_X10_compared μ)) (Hg_X10_either : ∀ (μ : am_M), ct_P G l am_ci dd me_X10_either [.ref (am_ad G 10 0)] μ (g_X10_either μ)) (Hg_X10_one : ∀ (μ : am_M), ct_P G l am_ci dd me_X10_one [.ref (am_ad G 10 0)] μ (g_X10_one μ)) (Hg_X10_product : ∀ (μ : am_M), ct_P G l am_ci dd me_X10_product [.ref (am_ad G 10 0)] μ (g_X10_product μ)) (Hg_X10_sums : ∀ (μ : am_M), ct_P G l am_ci dd me_X10_sums [.ref (am_ad G 10 0)] μ (g_X10_sums μ)) (H_10 : ∀ (x1 : Int32) (x2 : Int32) (μ : am_M), sm_P G l am_ci d me_X10_product 10 [(0, .ref (am_ad G 10 0)), (1, .int x1), (2, .int x2)] [] μ (r_10 x1 x2 μ)) (x1 : Int32) (x2 : Int32) (μ : am_M) : sm_P G l am_ci d me_X10_product 10 [(0, .ref (am_ad G 10 0)), (1, .int x1), (2, .int x2)] [] μ (f_X10_product_10 N g_X10_both g_X10_compared g_X10_either g_X10_one g_X10_product g_X10_sums r_10 x1 x2 μ) := by
  unfold f_X10_product_10
  refine sm_aload_n (pc := 10) dX10_product_10 rfl 0 rfl ?_
  refine sm_geti (pc := 11) dX10_product_11 fi_X10_170 ?_
  refine sm_if_ge (pc := 14) (tgt := 94) dX10_product_14 (by decide) ?_ ?_
  · refine sm_iload_n (pc := 94) dX10_product_94 rfl 1 rfl ?_
    exact sm_iret (pc := 95) dX10_product_95 rfl
  · refine sm_iload_n (pc := 17) dX10_product_17 rfl 2 rfl ?_
    refine sm_bipush (pc := 18) dX10_product_18 (v := 42) (by decide) ?_
    refine sm_icmp_eq (pc := 20) (tgt := 35) dX10_product_20 (by decide) ?_ ?_
    · exact p_X10_product_35 G l d hd0 dd hdd N g_X10_both g_X10_compared g_X10_either g_X10_one g_X10_product g_X10_sums r_10 Hg_X10_both Hg_X10_compared Hg_X10_either Hg_X10_one Hg_X10_product Hg_X10_sums H_10 x1 x2 μ
    · refine sm_iload_n (pc := 23) dX10_product_23 rfl 2 rfl ?_
      refine sm_bipush (pc := 24) dX10_product_24 (v := 47) (by decide) ?_
      refine sm_icmp_eq (pc := 26) (tgt := 35) dX10_product_26 (by decide) ?_ ?_
      · exact p_X10_product_35 G l d hd0 dd hdd N g_X10_both g_X10_compared g_X10_either g_X10_one g_X10_product g_X10_sums r_10 Hg_X10_both Hg_X10_compared Hg_X10_either Hg_X10_one Hg_X10_product Hg_X10_sums H_10 x1 x2 μ
      · refine sm_iload_n (pc := 29) dX10_product_29 rfl 2 rfl ?_
        refine sm_bipush (pc := 30) dX10_product_30 (v := 37) (by decide) ?_
        refine sm_icmp_ne (pc := 32) (tgt := 94) dX10_product_32 (by decide) ?_ ?_
        · refine sm_iload_n (pc := 94) dX10_product_94 rfl 1 rfl ?_
          exact sm_iret (pc := 95) dX10_product_95 rfl
        · exact p_X10_product_35 G l d hd0 dd hdd N g_X10_both g_X10_compared g_X10_either g_X10_one g_X10_product g_X10_sums r_10 Hg_X10_both Hg_X10_compared Hg_X10_either Hg_X10_one Hg_X10_product Hg_X10_sums H_10 x1 x2 μ
theorem p_X10_product_10_lp (G : am_G) (l : Launch) (d : Nat) (hd0 : 2 ≤ d) (dd : Nat) (hdd : dd + 1 ≤ d) (N : Nat) (g_X10_both : am_M → Option (Int32 × am_M)) (g_X10_compared : am_M → Option (Int32 × am_M)) (g_X10_either : am_M → Option (Int32 × am_M)) (g_X10_one : am_M → Option (Int32 × am_M)) (g_X10_product : am_M → Option (Int32 × am_M)) (g_X10_sums : am_M → Option (Int32 × am_M)) (Hg_X10_both : ∀ (μ : am_M), ct_P G l am_ci dd me_X10_both [.ref (am_ad G 10 0)] μ (g_X10_both μ)) (Hg_X10_compared : ∀ (μ : am_M), ct_P G l am_ci dd me_X10_compared [.ref (am_ad G 10 0)] μ (g_X10_compared μ)) (Hg_X10_either : ∀ (μ : am_M), ct_P G l am_ci dd me_X10_either [.ref (am_ad G 10 0)] μ (g_X10_either μ)) (Hg_X10_one : ∀ (μ : am_M), ct_P G l am_ci dd me_X10_one [.ref (am_ad G 10 0)] μ (g_X10_one μ)) (Hg_X10_product : ∀ (μ : am_M), ct_P G l am_ci dd me_X10_product [.ref (am_ad G 10 0)] μ (g_X10_product μ)) (Hg_X10_sums : ∀ (μ : am_M), ct_P G l am_ci dd me_X10_sums [.ref (am_ad G 10 0)] μ (g_X10_sums μ)) : ∀ (n : Nat) (x1 : Int32) (x2 : Int32) (μ : am_M), sm_P G l am_ci d me_X10_product 10 [(0, .ref (am_ad G 10 0)), (1, .int x1), (2, .int x2)] [] μ (f_X10_product_10_lp N g_X10_both g_X10_compared g_X10_either g_X10_one g_X10_product g_X10_sums n x1 x2 μ) := by
  intro n
  induction n with
  | zero => intros; exact sm_none
  | succ n ih => exact fun x1 x2 μ => p_X10_product_10 G l d hd0 dd hdd N g_X10_both g_X10_compared g_X10_either g_X10_one g_X10_product g_X10_sums (f_X10_product_10_lp N g_X10_both g_X10_compared g_X10_either g_X10_one g_X10_product g_X10_sums n) Hg_X10_both Hg_X10_compared Hg_X10_either Hg_X10_one Hg_X10_product Hg_X10_sums ih x1 x2 μ
set_option maxHeartbeats 4000000 in
set_option maxRecDepth 100000 in
theorem p_X10_product_0 (G : am_G) (l : Launch) (d : Nat) (hd0 : 2 ≤ d) (dd : Nat) (hdd : dd + 1 ≤ d) (N : Nat) (g_X10_both : am_M → Option (Int32 × am_M)) (g_X10_compared : am_M → Option (Int32 × am_M)) (g_X10_either : am_M → Option (Int32 × am_M)) (g_X10_one : am_M → Option (Int32 × am_M)) (g_X10_product : am_M → Option (Int32 × am_M)) (g_X10_sums : am_M → Option (Int32 × am_M)) (Hg_X10_both : ∀ (μ : am_M), ct_P G l am_ci dd me_X10_both [.ref (am_ad G 10 0)] μ (g_X10_both μ)) (Hg_X10_compared : ∀ (μ : am_M), ct_P G l am_ci dd me_X10_compared [.ref (am_ad G 10 0)] μ (g_X10_compared μ)) (Hg_X10_either : ∀ (μ : am_M), ct_P G l am_ci dd me_X10_either [.ref (am_ad G 10 0)] μ (g_X10_either μ)) (Hg_X10_one : ∀ (μ : am_M), ct_P G l am_ci dd me_X10_one [.ref (am_ad G 10 0)] μ (g_X10_one μ)) (Hg_X10_product : ∀ (μ : am_M), ct_P G l am_ci dd me_X10_product [.ref (am_ad G 10 0)] μ (g_X10_product μ)) (Hg_X10_sums : ∀ (μ : am_M), ct_P G l am_ci dd me_X10_sums [.ref (am_ad G 10 0)] μ (g_X10_sums μ)) (μ : am_M) : sm_P G l am_ci d me_X10_product 0 [(0, .ref (am_ad G 10 0))] [] μ (f_X10_product_0 N g_X10_both g_X10_compared g_X10_either g_X10_one g_X10_product g_X10_sums μ) := by
  unfold f_X10_product_0
  refine sm_aload_n (pc := 0) dX10_product_0 rfl 0 rfl ?_
  refine sm_callVi (pc := 1) (As := []) (rest := []) dX10_product_1 (Hg_X10_one μ) (by omega) wl_X10_191 vm_X10_one rfl rfl (Nat.le_of_ble_eq_true rfl) (fun y2 μ1 => ?_)
  refine sm_istore_n (pc := 4) (lv' := [(1, .int y2), (0, .ref (am_ad G 10 0))]) dX10_product_4 rfl (by decide) rfl ?_
  refine sm_aload_n (pc := 5) dX10_product_5 rfl 1 rfl ?_
  refine sm_callVi (pc := 6) (As := []) (rest := []) dX10_product_6 (c_X10_byteAt G l N μ1) (by omega) wl_X10_173 vm_X10_byteAt rfl rfl (Nat.le_of_ble_eq_true rfl) (fun y4 μ3 => ?_)
  refine sm_istore_n (pc := 9) (lv' := [(2, .int y4), (1, .int y2), (0, .ref (am_ad G 10 0))]) dX10_product_9 rfl (by decide) rfl ?_
  refine sm_sub [2, 1, 0] rfl ?_
  exact p_X10_product_10_lp G l d hd0 dd hdd N g_X10_both g_X10_compared g_X10_either g_X10_one g_X10_product g_X10_sums Hg_X10_both Hg_X10_compared Hg_X10_either Hg_X10_one Hg_X10_product Hg_X10_sums N y2 y4 μ3
set_option maxHeartbeats 4000000 in
set_option maxRecDepth 100000 in
theorem p_X10_sums_73 (G : am_G) (l : Launch) (d : Nat) (hd0 : 2 ≤ d) (dd : Nat) (hdd : dd + 1 ≤ d) (N : Nat) (g_X10_both : am_M → Option (Int32 × am_M)) (g_X10_compared : am_M → Option (Int32 × am_M)) (g_X10_either : am_M → Option (Int32 × am_M)) (g_X10_one : am_M → Option (Int32 × am_M)) (g_X10_product : am_M → Option (Int32 × am_M)) (g_X10_sums : am_M → Option (Int32 × am_M)) (r_5 : Int32 → am_M → Option (Int32 × am_M)) (Hg_X10_both : ∀ (μ : am_M), ct_P G l am_ci dd me_X10_both [.ref (am_ad G 10 0)] μ (g_X10_both μ)) (Hg_X10_compared : ∀ (μ : am_M), ct_P G l am_ci dd me_X10_compared [.ref (am_ad G 10 0)] μ (g_X10_compared μ)) (Hg_X10_either : ∀ (μ : am_M), ct_P G l am_ci dd me_X10_either [.ref (am_ad G 10 0)] μ (g_X10_either μ)) (Hg_X10_one : ∀ (μ : am_M), ct_P G l am_ci dd me_X10_one [.ref (am_ad G 10 0)] μ (g_X10_one μ)) (Hg_X10_product : ∀ (μ : am_M), ct_P G l am_ci dd me_X10_product [.ref (am_ad G 10 0)] μ (g_X10_product μ)) (Hg_X10_sums : ∀ (μ : am_M), ct_P G l am_ci dd me_X10_sums [.ref (am_ad G 10 0)] μ (g_X10_sums μ)) (H_5 : ∀ (x1 : Int32) (μ : am_M), sm_P G l am_ci d me_X10_sums 5 [(0, .ref (am_ad G 10 0)), (1, .int x1)] [] μ (r_5 x1 μ)) (s0 : Int32) (μ : am_M) : sm_P G l am_ci d me_X10_sums 73 [(0, .ref (am_ad G 10 0))] [.int s0] μ (f_X10_sums_73 N g_X10_both g_X10_compared g_X10_either g_X10_one g_X10_product g_X10_sums r_5 s0 μ) := by
  unfold f_X10_sums_73
  refine sm_istore_n (pc := 73) (lv' := [(1, .int s0), (0, .ref (am_ad G 10 0))]) dX10_sums_73 rfl (by decide) rfl ?_
  refine sm_goto (pc := 74) (tgt := 5) dX10_sums_74 (by decide) ?_
  refine sm_sub [1, 0] rfl ?_
  exact H_5 s0 μ
set_option maxHeartbeats 4000000 in
set_option maxRecDepth 100000 in
theorem p_X10_sums_44 (G : am_G) (l : Launch) (d : Nat) (hd0 : 2 ≤ d) (dd : Nat) (hdd : dd + 1 ≤ d) (N : Nat) (g_X10_both : am_M → Option (Int32 × am_M)) (g_X10_compared : am_M → Option (Int32 × am_M)) (g_X10_either : am_M → Option (Int32 × am_M)) (g_X10_one : am_M → Option (Int32 × am_M)) (g_X10_product : am_M → Option (Int32 × am_M)) (g_X10_sums : am_M → Option (Int32 × am_M)) (r_5 : Int32 → am_M → Option (Int32 × am_M)) (Hg_X10_both : ∀ (μ : am_M), ct_P G l am_ci dd me_X10_both [.ref (am_ad G 10 0)] μ (g_X10_both μ)) (Hg_X10_compared : ∀ (μ : am_M), ct_P G l am_ci dd me_X10_compared [.ref (am_ad G 10 0)] μ (g_X10_compared μ)) (Hg_X10_either : ∀ (μ : am_M), ct_P G l am_ci dd me_X10_either [.ref (am_ad G 10 0)] μ (g_X10_either μ)) (Hg_X10_one : ∀ (μ : am_M), ct_P G l am_ci dd me_X10_one [.ref (am_ad G 10 0)] μ (g_X10_one μ)) (Hg_X10_product : ∀ (μ : am_M), ct_P G l am_ci dd me_X10_product [.ref (am_ad G 10 0)] μ (g_X10_product μ)) (Hg_X10_sums : ∀ (μ : am_M), ct_P G l am_ci dd me_X10_sums [.ref (am_ad G 10 0)] μ (g_X10_sums μ)) (H_5 : ∀ (x1 : Int32) (μ : am_M), sm_P G l am_ci d me_X10_sums 5 [(0, .ref (am_ad G 10 0)), (1, .int x1)] [] μ (r_5 x1 μ)) (x1 : Int32) (s0 : Int32) (μ : am_M) : sm_P G l am_ci d me_X10_sums 44 [(0, .ref (am_ad G 10 0)), (1, .int x1)] [.int s0] μ (f_X10_sums_44 N g_X10_both g_X10_compared g_X10_either g_X10_one g_X10_product g_X10_sums r_5 x1 s0 μ) := by
  unfold f_X10_sums_44
  refine sm_istore_n (pc := 44) (lv' := [(2, .int s0), (0, .ref (am_ad G 10 0)), (1, .int x1)]) dX10_sums_44 rfl (by decide) rfl ?_
  refine sm_aload_n (pc := 45) dX10_sums_45 rfl 1 rfl ?_
  refine sm_dup (pc := 46) dX10_sums_46 rfl ?_
  refine sm_geti (pc := 47) dX10_sums_47 fi_X10_161 ?_
  refine sm_iconst (pc := 50) dX10_sums_50 (v := 1) (by decide) ?_
  refine sm_iadd (pc := 51) dX10_sums_51 ?_
  refine sm_puti (pc := 52) dX10_sums_52 fi_X10_161 ?_
  refine sm_nmM (fun μ7 => ?_)
  refine sm_aload_n (pc := 55) dX10_sums_55 rfl 1 rfl ?_
  refine sm_callVi (pc := 56) (As := []) (rest := []) dX10_sums_56 (Hg_X10_product μ7) (by omega) wl_X10_188 vm_X10_product rfl rfl (Nat.le_of_ble_eq_true rfl) (fun y9 μ8 => ?_)
  refine sm_istore_n (pc := 59) (lv' := [(3, .int y9), (2, .int s0), (0, .ref (am_ad G 10 0)), (1, .int x1)]) dX10_sums_59 rfl (by decide) rfl ?_
  refine sm_iload_n (pc := 60) dX10_sums_60 rfl 1 rfl ?_
  refine sm_if_eq (pc := 61) (tgt := 70) dX10_sums_61 (by decide) ?_ ?_
  · refine sm_iload_n (pc := 70) dX10_sums_70 rfl 3 rfl ?_
    refine sm_iload_n (pc := 71) dX10_sums_71 rfl 0 rfl ?_
    refine sm_isub (pc := 72) dX10_sums_72 ?_
    refine sm_sub [2] rfl ?_
    exact p_X10_sums_73 G l d hd0 dd hdd N g_X10_both g_X10_compared g_X10_either g_X10_one g_X10_product g_X10_sums r_5 Hg_X10_both Hg_X10_compared Hg_X10_either Hg_X10_one Hg_X10_product Hg_X10_sums H_5 (x1 - y9) μ8
  · refine sm_iload_n (pc := 64) dX10_sums_64 rfl 3 rfl ?_
    refine sm_iload_n (pc := 65) dX10_sums_65 rfl 0 rfl ?_
    refine sm_iadd (pc := 66) dX10_sums_66 ?_
    refine sm_goto (pc := 67) (tgt := 73) dX10_sums_67 (by decide) ?_
    refine sm_sub [2] rfl ?_
    exact p_X10_sums_73 G l d hd0 dd hdd N g_X10_both g_X10_compared g_X10_either g_X10_one g_X10_product g_X10_sums r_5 Hg_X10_both Hg_X10_compared Hg_X10_either Hg_X10_one Hg_X10_product Hg_X10_sums H_5 (x1 + y9) μ8
set_option maxHeartbeats 4000000 in
set_option maxRecDepth 100000 in
theorem p_X10_sums_30 (G : am_G) (l : Launch) (d : Nat) (hd0 : 2 ≤ d) (dd : Nat) (hdd : dd + 1 ≤ d) (N : Nat) (g_X10_both : am_M → Option (Int32 × am_M)) (g_X10_compared : am_M → Option (Int32 × am_M)) (g_X10_either : am_M → Option (Int32 × am_M)) (g_X10_one : am_M → Option (Int32 × am_M)) (g_X10_product : am_M → Option (Int32 × am_M)) (g_X10_sums : am_M → Option (Int32 × am_M)) (r_5 : Int32 → am_M → Option (Int32 × am_M)) (Hg_X10_both : ∀ (μ : am_M), ct_P G l am_ci dd me_X10_both [.ref (am_ad G 10 0)] μ (g_X10_both μ)) (Hg_X10_compared : ∀ (μ : am_M), ct_P G l am_ci dd me_X10_compared [.ref (am_ad G 10 0)] μ (g_X10_compared μ)) (Hg_X10_either : ∀ (μ : am_M), ct_P G l am_ci dd me_X10_either [.ref (am_ad G 10 0)] μ (g_X10_either μ)) (Hg_X10_one : ∀ (μ : am_M), ct_P G l am_ci dd me_X10_one [.ref (am_ad G 10 0)] μ (g_X10_one μ)) (Hg_X10_product : ∀ (μ : am_M), ct_P G l am_ci dd me_X10_product [.ref (am_ad G 10 0)] μ (g_X10_product μ)) (Hg_X10_sums : ∀ (μ : am_M), ct_P G l am_ci dd me_X10_sums [.ref (am_ad G 10 0)] μ (g_X10_sums μ)) (H_5 : ∀ (x1 : Int32) (μ : am_M), sm_P G l am_ci d me_X10_sums 5 [(0, .ref (am_ad G 10 0)), (1, .int x1)] [] μ (r_5 x1 μ)) (x1 : Int32) (μ : am_M) : sm_P G l am_ci d me_X10_sums 30 [(0, .ref (am_ad G 10 0)), (1, .int x1)] [] μ (f_X10_sums_30 N g_X10_both g_X10_compared g_X10_either g_X10_one g_X10_product g_X10_sums r_5 x1 μ) := by
  unfold f_X10_sums_30
  refine sm_aload_n (pc := 30) dX10_sums_30 rfl 0 rfl ?_
  refine sm_callVi (pc := 31) (As := []) (rest := []) dX10_sums_31 (c_X10_byteAt G l N μ) (by omega) wl_X10_173 vm_X10_byteAt rfl rfl (Nat.le_of_ble_eq_true rfl) (fun y6 μ5 => ?_)
  refine sm_bipush (pc := 34) dX10_sums_34 (v := 43) (by decide) ?_
  refine sm_icmp_ne (pc := 36) (tgt := 43) dX10_sums_36 (by decide) ?_ ?_
  · refine sm_iconst (pc := 43) dX10_sums_43 (v := 0) (by decide) ?_
    exact p_X10_sums_44 G l d hd0 dd hdd N g_X10_both g_X10_compared g_X10_either g_X10_one g_X10_product g_X10_sums r_5 Hg_X10_both Hg_X10_compared Hg_X10_either Hg_X10_one Hg_X10_product Hg_X10_sums H_5 x1 (0 : Int32) μ5
  · refine sm_iconst (pc := 39) dX10_sums_39 (v := 1) (by decide) ?_
    refine sm_goto (pc := 40) (tgt := 44) dX10_sums_40 (by decide) ?_
    exact p_X10_sums_44 G l d hd0 dd hdd N g_X10_both g_X10_compared g_X10_either g_X10_one g_X10_product g_X10_sums r_5 Hg_X10_both Hg_X10_compared Hg_X10_either Hg_X10_one Hg_X10_product Hg_X10_sums H_5 x1 (1 : Int32) μ5
set_option maxHeartbeats 4000000 in
set_option maxRecDepth 100000 in
theorem p_X10_sums_5 (G : am_G) (l : Launch) (d : Nat) (hd0 : 2 ≤ d) (dd : Nat) (hdd : dd + 1 ≤ d) (N : Nat) (g_X10_both : am_M → Option (Int32 × am_M)) (g_X10_compared : am_M → Option (Int32 × am_M)) (g_X10_either : am_M → Option (Int32 × am_M)) (g_X10_one : am_M → Option (Int32 × am_M)) (g_X10_product : am_M → Option (Int32 × am_M)) (g_X10_sums : am_M → Option (Int32 × am_M)) (r_5 : Int32 → am_M → Option (Int32 × am_M)) (Hg_X10_both : ∀ (μ : am_M), ct_P G l am_ci dd me_X10_both [.ref (am_ad G 10 0)] μ (g_X10_both μ)) (Hg_X10_compared : ∀ (μ : am_M), ct_P G l am_ci dd me_X10_compared [.ref (am_ad G 10 0)] μ (g_X10_compared μ)) (Hg_X10_either : ∀ (μ : am_M), ct_P G l am_ci dd me_X10_either [.ref (am_ad G 10 0)] μ (g_X10_either μ)) (Hg_X10_one : ∀ (μ : am_M), ct_P G l am_ci dd me_X10_one [.ref (am_ad G 10 0)] μ (g_X10_one μ)) (Hg_X10_product : ∀ (μ : am_M), ct_P G l am_ci dd me_X10_product [.ref (am_ad G 10 0)] μ (g_X10_product μ)) (Hg_X10_sums : ∀ (μ : am_M), ct_P G l am_ci dd me_X10_sums [.ref (am_ad G 10 0)] μ (g_X10_sums μ)) (H_5 : ∀ (x1 : Int32) (μ : am_M), sm_P G l am_ci d me_X10_sums 5 [(0, .ref (am_ad G 10 0)), (1, .int x1)] [] μ (r_5 x1 μ)) (x1 : Int32) (μ : am_M) : sm_P G l am_ci d me_X10_sums 5 [(0, .ref (am_ad G 10 0)), (1, .int x1)] [] μ (f_X10_sums_5 N g_X10_both g_X10_compared g_X10_either g_X10_one g_X10_product g_X10_sums r_5 x1 μ) := by
  unfold f_X10_sums_5
  refine sm_aload_n (pc := 5) dX10_sums_5 rfl 0 rfl ?_
  refine sm_geti (pc := 6) dX10_sums_6 fi_X10_170 ?_
  refine sm_if_ge (pc := 9) (tgt := 77) dX10_sums_9 (by decide) ?_ ?_
  · refine sm_iload_n (pc := 77) dX10_sums_77 rfl 1 rfl ?_
    exact sm_iret (pc := 78) dX10_sums_78 rfl
  · refine sm_aload_n (pc := 12) dX10_sums_12 rfl 0 rfl ?_
    refine sm_callVi (pc := 13) (As := []) (rest := []) dX10_sums_13 (c_X10_byteAt G l N μ) (by omega) wl_X10_173 vm_X10_byteAt rfl rfl (Nat.le_of_ble_eq_true rfl) (fun y4 μ3 => ?_)
    refine sm_bipush (pc := 16) dX10_sums_16 (v := 43) (by decide) ?_
    refine sm_icmp_eq (pc := 18) (tgt := 30) dX10_sums_18 (by decide) ?_ ?_
    · exact p_X10_sums_30 G l d hd0 dd hdd N g_X10_both g_X10_compared g_X10_either g_X10_one g_X10_product g_X10_sums r_5 Hg_X10_both Hg_X10_compared Hg_X10_either Hg_X10_one Hg_X10_product Hg_X10_sums H_5 x1 μ3
    · refine sm_aload_n (pc := 21) dX10_sums_21 rfl 0 rfl ?_
      refine sm_callVi (pc := 22) (As := []) (rest := []) dX10_sums_22 (c_X10_byteAt G l N μ3) (by omega) wl_X10_173 vm_X10_byteAt rfl rfl (Nat.le_of_ble_eq_true rfl) (fun y11 μ10 => ?_)
      refine sm_bipush (pc := 25) dX10_sums_25 (v := 45) (by decide) ?_
      refine sm_icmp_ne (pc := 27) (tgt := 77) dX10_sums_27 (by decide) ?_ ?_
      · refine sm_iload_n (pc := 77) dX10_sums_77 rfl 1 rfl ?_
        exact sm_iret (pc := 78) dX10_sums_78 rfl
      · exact p_X10_sums_30 G l d hd0 dd hdd N g_X10_both g_X10_compared g_X10_either g_X10_one g_X10_product g_X10_sums r_5 Hg_X10_both Hg_X10_compared Hg_X10_either Hg_X10_one Hg_X10_product Hg_X10_sums H_5 x1 μ10
theorem p_X10_sums_5_lp (G : am_G) (l : Launch) (d : Nat) (hd0 : 2 ≤ d) (dd : Nat) (hdd : dd + 1 ≤ d) (N : Nat) (g_X10_both : am_M → Option (Int32 × am_M)) (g_X10_compared : am_M → Option (Int32 × am_M)) (g_X10_either : am_M → Option (Int32 × am_M)) (g_X10_one : am_M → Option (Int32 × am_M)) (g_X10_product : am_M → Option (Int32 × am_M)) (g_X10_sums : am_M → Option (Int32 × am_M)) (Hg_X10_both : ∀ (μ : am_M), ct_P G l am_ci dd me_X10_both [.ref (am_ad G 10 0)] μ (g_X10_both μ)) (Hg_X10_compared : ∀ (μ : am_M), ct_P G l am_ci dd me_X10_compared [.ref (am_ad G 10 0)] μ (g_X10_compared μ)) (Hg_X10_either : ∀ (μ : am_M), ct_P G l am_ci dd me_X10_either [.ref (am_ad G 10 0)] μ (g_X10_either μ)) (Hg_X10_one : ∀ (μ : am_M), ct_P G l am_ci dd me_X10_one [.ref (am_ad G 10 0)] μ (g_X10_one μ)) (Hg_X10_product : ∀ (μ : am_M), ct_P G l am_ci dd me_X10_product [.ref (am_ad G 10 0)] μ (g_X10_product μ)) (Hg_X10_sums : ∀ (μ : am_M), ct_P G l am_ci dd me_X10_sums [.ref (am_ad G 10 0)] μ (g_X10_sums μ)) : ∀ (n : Nat) (x1 : Int32) (μ : am_M), sm_P G l am_ci d me_X10_sums 5 [(0, .ref (am_ad G 10 0)), (1, .int x1)] [] μ (f_X10_sums_5_lp N g_X10_both g_X10_compared g_X10_either g_X10_one g_X10_product g_X10_sums n x1 μ) := by
  intro n
  induction n with
  | zero => intros; exact sm_none
  | succ n ih => exact fun x1 μ => p_X10_sums_5 G l d hd0 dd hdd N g_X10_both g_X10_compared g_X10_either g_X10_one g_X10_product g_X10_sums (f_X10_sums_5_lp N g_X10_both g_X10_compared g_X10_either g_X10_one g_X10_product g_X10_sums n) Hg_X10_both Hg_X10_compared Hg_X10_either Hg_X10_one Hg_X10_product Hg_X10_sums ih x1 μ
set_option maxHeartbeats 4000000 in
set_option maxRecDepth 100000 in
theorem p_X10_sums_0 (G : am_G) (l : Launch) (d : Nat) (hd0 : 2 ≤ d) (dd : Nat) (hdd : dd + 1 ≤ d) (N : Nat) (g_X10_both : am_M → Option (Int32 × am_M)) (g_X10_compared : am_M → Option (Int32 × am_M)) (g_X10_either : am_M → Option (Int32 × am_M)) (g_X10_one : am_M → Option (Int32 × am_M)) (g_X10_product : am_M → Option (Int32 × am_M)) (g_X10_sums : am_M → Option (Int32 × am_M)) (Hg_X10_both : ∀ (μ : am_M), ct_P G l am_ci dd me_X10_both [.ref (am_ad G 10 0)] μ (g_X10_both μ)) (Hg_X10_compared : ∀ (μ : am_M), ct_P G l am_ci dd me_X10_compared [.ref (am_ad G 10 0)] μ (g_X10_compared μ)) (Hg_X10_either : ∀ (μ : am_M), ct_P G l am_ci dd me_X10_either [.ref (am_ad G 10 0)] μ (g_X10_either μ)) (Hg_X10_one : ∀ (μ : am_M), ct_P G l am_ci dd me_X10_one [.ref (am_ad G 10 0)] μ (g_X10_one μ)) (Hg_X10_product : ∀ (μ : am_M), ct_P G l am_ci dd me_X10_product [.ref (am_ad G 10 0)] μ (g_X10_product μ)) (Hg_X10_sums : ∀ (μ : am_M), ct_P G l am_ci dd me_X10_sums [.ref (am_ad G 10 0)] μ (g_X10_sums μ)) (μ : am_M) : sm_P G l am_ci d me_X10_sums 0 [(0, .ref (am_ad G 10 0))] [] μ (f_X10_sums_0 N g_X10_both g_X10_compared g_X10_either g_X10_one g_X10_product g_X10_sums μ) := by
  unfold f_X10_sums_0
  refine sm_aload_n (pc := 0) dX10_sums_0 rfl 0 rfl ?_
  refine sm_callVi (pc := 1) (As := []) (rest := []) dX10_sums_1 (Hg_X10_product μ) (by omega) wl_X10_188 vm_X10_product rfl rfl (Nat.le_of_ble_eq_true rfl) (fun y2 μ1 => ?_)
  refine sm_istore_n (pc := 4) (lv' := [(1, .int y2), (0, .ref (am_ad G 10 0))]) dX10_sums_4 rfl (by decide) rfl ?_
  refine sm_sub [1, 0] rfl ?_
  exact p_X10_sums_5_lp G l d hd0 dd hdd N g_X10_both g_X10_compared g_X10_either g_X10_one g_X10_product g_X10_sums Hg_X10_both Hg_X10_compared Hg_X10_either Hg_X10_one Hg_X10_product Hg_X10_sums N y2 μ1
theorem cr_X10_both (G : am_G) (l : Launch) (N : Nat) : ∀ D : Nat, (∀ (μ : am_M), ct_P G l am_ci (2 + D) me_X10_both [.ref (am_ad G 10 0)] μ ((f_X10_both_g N D).1 μ)) ∧ (∀ (μ : am_M), ct_P G l am_ci (2 + D) me_X10_compared [.ref (am_ad G 10 0)] μ ((f_X10_both_g N D).2.1 μ)) ∧ (∀ (μ : am_M), ct_P G l am_ci (2 + D) me_X10_either [.ref (am_ad G 10 0)] μ ((f_X10_both_g N D).2.2.1 μ)) ∧ (∀ (μ : am_M), ct_P G l am_ci (2 + D) me_X10_one [.ref (am_ad G 10 0)] μ ((f_X10_both_g N D).2.2.2.1 μ)) ∧ (∀ (μ : am_M), ct_P G l am_ci (2 + D) me_X10_product [.ref (am_ad G 10 0)] μ ((f_X10_both_g N D).2.2.2.2.1 μ)) ∧ (∀ (μ : am_M), ct_P G l am_ci (2 + D) me_X10_sums [.ref (am_ad G 10 0)] μ ((f_X10_both_g N D).2.2.2.2.2 μ)) := by
  intro D
  induction D with
  | zero => exact ⟨(fun μ a μ1 ho => (by cases ho)), (fun μ a μ1 ho => (by cases ho)), (fun μ a μ1 ho => (by cases ho)), (fun μ a μ1 ho => (by cases ho)), (fun μ a μ1 ho => (by cases ho)), (fun μ a μ1 ho => (by cases ho))⟩
  | succ D ih => exact ⟨(fun μ => ct_of (by decide +kernel) (Nat.le_of_ble_eq_true rfl) rfl (p_X10_both_0 G l (2 + (D + 1)) (by omega) (2 + D) (by omega) N (f_X10_both_g N D).1 (f_X10_both_g N D).2.1 (f_X10_both_g N D).2.2.1 (f_X10_both_g N D).2.2.2.1 (f_X10_both_g N D).2.2.2.2.1 (f_X10_both_g N D).2.2.2.2.2 ih.1 ih.2.1 ih.2.2.1 ih.2.2.2.1 ih.2.2.2.2.1 ih.2.2.2.2.2 μ)), (fun μ => ct_of (by decide +kernel) (Nat.le_of_ble_eq_true rfl) rfl (p_X10_compared_0 G l (2 + (D + 1)) (by omega) (2 + D) (by omega) N (f_X10_both_g N D).1 (f_X10_both_g N D).2.1 (f_X10_both_g N D).2.2.1 (f_X10_both_g N D).2.2.2.1 (f_X10_both_g N D).2.2.2.2.1 (f_X10_both_g N D).2.2.2.2.2 ih.1 ih.2.1 ih.2.2.1 ih.2.2.2.1 ih.2.2.2.2.1 ih.2.2.2.2.2 μ)), (fun μ => ct_of (by decide +kernel) (Nat.le_of_ble_eq_true rfl) rfl (p_X10_either_0 G l (2 + (D + 1)) (by omega) (2 + D) (by omega) N (f_X10_both_g N D).1 (f_X10_both_g N D).2.1 (f_X10_both_g N D).2.2.1 (f_X10_both_g N D).2.2.2.1 (f_X10_both_g N D).2.2.2.2.1 (f_X10_both_g N D).2.2.2.2.2 ih.1 ih.2.1 ih.2.2.1 ih.2.2.2.1 ih.2.2.2.2.1 ih.2.2.2.2.2 μ)), (fun μ => ct_of (by decide +kernel) (Nat.le_of_ble_eq_true rfl) rfl (p_X10_one_0 G l (2 + (D + 1)) (by omega) (2 + D) (by omega) N (f_X10_both_g N D).1 (f_X10_both_g N D).2.1 (f_X10_both_g N D).2.2.1 (f_X10_both_g N D).2.2.2.1 (f_X10_both_g N D).2.2.2.2.1 (f_X10_both_g N D).2.2.2.2.2 ih.1 ih.2.1 ih.2.2.1 ih.2.2.2.1 ih.2.2.2.2.1 ih.2.2.2.2.2 μ)), (fun μ => ct_of (by decide +kernel) (Nat.le_of_ble_eq_true rfl) rfl (p_X10_product_0 G l (2 + (D + 1)) (by omega) (2 + D) (by omega) N (f_X10_both_g N D).1 (f_X10_both_g N D).2.1 (f_X10_both_g N D).2.2.1 (f_X10_both_g N D).2.2.2.1 (f_X10_both_g N D).2.2.2.2.1 (f_X10_both_g N D).2.2.2.2.2 ih.1 ih.2.1 ih.2.2.1 ih.2.2.2.1 ih.2.2.2.2.1 ih.2.2.2.2.2 μ)), (fun μ => ct_of (by decide +kernel) (Nat.le_of_ble_eq_true rfl) rfl (p_X10_sums_0 G l (2 + (D + 1)) (by omega) (2 + D) (by omega) N (f_X10_both_g N D).1 (f_X10_both_g N D).2.1 (f_X10_both_g N D).2.2.1 (f_X10_both_g N D).2.2.2.1 (f_X10_both_g N D).2.2.2.2.1 (f_X10_both_g N D).2.2.2.2.2 ih.1 ih.2.1 ih.2.2.1 ih.2.2.2.1 ih.2.2.2.2.1 ih.2.2.2.2.2 μ))⟩
theorem c_X10_both (G : am_G) (l : Launch) (N : Nat) (μ : am_M) : ct_P G l am_ci 102 me_X10_both [.ref (am_ad G 10 0)] μ (f_X10_both N μ) := (cr_X10_both G l N 100).1 μ
theorem c_X10_compared (G : am_G) (l : Launch) (N : Nat) (μ : am_M) : ct_P G l am_ci 102 me_X10_compared [.ref (am_ad G 10 0)] μ (f_X10_compared N μ) := (cr_X10_both G l N 100).2.1 μ
theorem c_X10_either (G : am_G) (l : Launch) (N : Nat) (μ : am_M) : ct_P G l am_ci 102 me_X10_either [.ref (am_ad G 10 0)] μ (f_X10_either N μ) := (cr_X10_both G l N 100).2.2.1 μ
theorem c_X10_one (G : am_G) (l : Launch) (N : Nat) (μ : am_M) : ct_P G l am_ci 102 me_X10_one [.ref (am_ad G 10 0)] μ (f_X10_one N μ) := (cr_X10_both G l N 100).2.2.2.1 μ
theorem c_X10_product (G : am_G) (l : Launch) (N : Nat) (μ : am_M) : ct_P G l am_ci 102 me_X10_product [.ref (am_ad G 10 0)] μ (f_X10_product N μ) := (cr_X10_both G l N 100).2.2.2.2.1 μ
theorem c_X10_sums (G : am_G) (l : Launch) (N : Nat) (μ : am_M) : ct_P G l am_ci 102 me_X10_sums [.ref (am_ad G 10 0)] μ (f_X10_sums N μ) := (cr_X10_both G l N 100).2.2.2.2.2 μ

