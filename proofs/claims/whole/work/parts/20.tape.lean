def f_X6_isName_0 (N : Nat) (a0 : Int32) (μ : am_M) : Option (Int32 × am_M) :=
if a0 = (98 : Int32) then (am_z (1 : Int32) μ) else (if a0 = (99 : Int32) then (am_z (1 : Int32) μ) else (if a0 = (100 : Int32) then (am_z (0 : Int32) μ) else (if a0 = (101 : Int32) then (am_z (0 : Int32) μ) else (if a0 = (102 : Int32) then (am_z (0 : Int32) μ) else (if a0 = (103 : Int32) then (am_z (0 : Int32) μ) else (if a0 = (104 : Int32) then (am_z (0 : Int32) μ) else (if a0 = (105 : Int32) then (am_z (0 : Int32) μ) else (if a0 = (106 : Int32) then (am_z (0 : Int32) μ) else (if a0 = (107 : Int32) then (am_z (1 : Int32) μ) else (if a0 = (108 : Int32) then (am_z (0 : Int32) μ) else (if a0 = (109 : Int32) then (am_z (0 : Int32) μ) else (if a0 = (110 : Int32) then (am_z (1 : Int32) μ) else (if a0 = (111 : Int32) then (am_z (0 : Int32) μ) else (if a0 = (112 : Int32) then (am_z (1 : Int32) μ) else (if a0 = (113 : Int32) then (am_z (0 : Int32) μ) else (if a0 = (114 : Int32) then (am_z (0 : Int32) μ) else (if a0 = (115 : Int32) then (am_z (1 : Int32) μ) else (if a0 = (116 : Int32) then (am_z (1 : Int32) μ) else (am_z (0 : Int32) μ)))))))))))))))))))
def f_X6_isName (N : Nat) (a0 : Int32) (μ : am_M) : Option (Int32 × am_M) := f_X6_isName_0 N a0 μ
set_option maxHeartbeats 4000000 in
set_option maxRecDepth 100000 in
theorem p_X6_isName_0 (G : am_G) (l : Launch) (d : Nat) (hd0 : 0 ≤ d) (N : Nat) (a0 : Int32) (μ : am_M) : sm_P G l am_ci d me_X6_isName 0 [(0, .int a0)] [] μ (f_X6_isName_0 N a0 μ) := by
  unfold f_X6_isName_0
  refine sm_iload_n (pc := 0) dX6_isName_0 rfl 0 rfl ?_
  refine sm_ite (fun e1 => ?_) (fun e1 => ?_)
  · refine sm_tsi (pc := 1) (c1 := 98) (off := 91) (tgt := 92) e1 dX6_isName_1 (by decide) (by decide) (by decide) (by decide) ?_
    refine sm_iconst (pc := 92) dX6_isName_92 (v := 1) (by decide) ?_
    exact sm_zret (pc := 93) dX6_isName_93 rfl
  refine sm_ite (fun e2 => ?_) (fun e2 => ?_)
  · refine sm_tsi (pc := 1) (c1 := 99) (off := 91) (tgt := 92) e2 dX6_isName_1 (by decide) (by decide) (by decide) (by decide) ?_
    refine sm_iconst (pc := 92) dX6_isName_92 (v := 1) (by decide) ?_
    exact sm_zret (pc := 93) dX6_isName_93 rfl
  refine sm_ite (fun e3 => ?_) (fun e3 => ?_)
  · refine sm_tsi (pc := 1) (c1 := 100) (off := 93) (tgt := 94) e3 dX6_isName_1 (by decide) (by decide) (by decide) (by decide) ?_
    refine sm_iconst (pc := 94) dX6_isName_94 (v := 0) (by decide) ?_
    exact sm_zret (pc := 95) dX6_isName_95 rfl
  refine sm_ite (fun e4 => ?_) (fun e4 => ?_)
  · refine sm_tsi (pc := 1) (c1 := 101) (off := 93) (tgt := 94) e4 dX6_isName_1 (by decide) (by decide) (by decide) (by decide) ?_
    refine sm_iconst (pc := 94) dX6_isName_94 (v := 0) (by decide) ?_
    exact sm_zret (pc := 95) dX6_isName_95 rfl
  refine sm_ite (fun e5 => ?_) (fun e5 => ?_)
  · refine sm_tsi (pc := 1) (c1 := 102) (off := 93) (tgt := 94) e5 dX6_isName_1 (by decide) (by decide) (by decide) (by decide) ?_
    refine sm_iconst (pc := 94) dX6_isName_94 (v := 0) (by decide) ?_
    exact sm_zret (pc := 95) dX6_isName_95 rfl
  refine sm_ite (fun e6 => ?_) (fun e6 => ?_)
  · refine sm_tsi (pc := 1) (c1 := 103) (off := 93) (tgt := 94) e6 dX6_isName_1 (by decide) (by decide) (by decide) (by decide) ?_
    refine sm_iconst (pc := 94) dX6_isName_94 (v := 0) (by decide) ?_
    exact sm_zret (pc := 95) dX6_isName_95 rfl
  refine sm_ite (fun e7 => ?_) (fun e7 => ?_)
  · refine sm_tsi (pc := 1) (c1 := 104) (off := 93) (tgt := 94) e7 dX6_isName_1 (by decide) (by decide) (by decide) (by decide) ?_
    refine sm_iconst (pc := 94) dX6_isName_94 (v := 0) (by decide) ?_
    exact sm_zret (pc := 95) dX6_isName_95 rfl
  refine sm_ite (fun e8 => ?_) (fun e8 => ?_)
  · refine sm_tsi (pc := 1) (c1 := 105) (off := 93) (tgt := 94) e8 dX6_isName_1 (by decide) (by decide) (by decide) (by decide) ?_
    refine sm_iconst (pc := 94) dX6_isName_94 (v := 0) (by decide) ?_
    exact sm_zret (pc := 95) dX6_isName_95 rfl
  refine sm_ite (fun e9 => ?_) (fun e9 => ?_)
  · refine sm_tsi (pc := 1) (c1 := 106) (off := 93) (tgt := 94) e9 dX6_isName_1 (by decide) (by decide) (by decide) (by decide) ?_
    refine sm_iconst (pc := 94) dX6_isName_94 (v := 0) (by decide) ?_
    exact sm_zret (pc := 95) dX6_isName_95 rfl
  refine sm_ite (fun e10 => ?_) (fun e10 => ?_)
  · refine sm_tsi (pc := 1) (c1 := 107) (off := 91) (tgt := 92) e10 dX6_isName_1 (by decide) (by decide) (by decide) (by decide) ?_
    refine sm_iconst (pc := 92) dX6_isName_92 (v := 1) (by decide) ?_
    exact sm_zret (pc := 93) dX6_isName_93 rfl
  refine sm_ite (fun e11 => ?_) (fun e11 => ?_)
  · refine sm_tsi (pc := 1) (c1 := 108) (off := 93) (tgt := 94) e11 dX6_isName_1 (by decide) (by decide) (by decide) (by decide) ?_
    refine sm_iconst (pc := 94) dX6_isName_94 (v := 0) (by decide) ?_
    exact sm_zret (pc := 95) dX6_isName_95 rfl
  refine sm_ite (fun e12 => ?_) (fun e12 => ?_)
  · refine sm_tsi (pc := 1) (c1 := 109) (off := 93) (tgt := 94) e12 dX6_isName_1 (by decide) (by decide) (by decide) (by decide) ?_
    refine sm_iconst (pc := 94) dX6_isName_94 (v := 0) (by decide) ?_
    exact sm_zret (pc := 95) dX6_isName_95 rfl
  refine sm_ite (fun e13 => ?_) (fun e13 => ?_)
  · refine sm_tsi (pc := 1) (c1 := 110) (off := 91) (tgt := 92) e13 dX6_isName_1 (by decide) (by decide) (by decide) (by decide) ?_
    refine sm_iconst (pc := 92) dX6_isName_92 (v := 1) (by decide) ?_
    exact sm_zret (pc := 93) dX6_isName_93 rfl
  refine sm_ite (fun e14 => ?_) (fun e14 => ?_)
  · refine sm_tsi (pc := 1) (c1 := 111) (off := 93) (tgt := 94) e14 dX6_isName_1 (by decide) (by decide) (by decide) (by decide) ?_
    refine sm_iconst (pc := 94) dX6_isName_94 (v := 0) (by decide) ?_
    exact sm_zret (pc := 95) dX6_isName_95 rfl
  refine sm_ite (fun e15 => ?_) (fun e15 => ?_)
  · refine sm_tsi (pc := 1) (c1 := 112) (off := 91) (tgt := 92) e15 dX6_isName_1 (by decide) (by decide) (by decide) (by decide) ?_
    refine sm_iconst (pc := 92) dX6_isName_92 (v := 1) (by decide) ?_
    exact sm_zret (pc := 93) dX6_isName_93 rfl
  refine sm_ite (fun e16 => ?_) (fun e16 => ?_)
  · refine sm_tsi (pc := 1) (c1 := 113) (off := 93) (tgt := 94) e16 dX6_isName_1 (by decide) (by decide) (by decide) (by decide) ?_
    refine sm_iconst (pc := 94) dX6_isName_94 (v := 0) (by decide) ?_
    exact sm_zret (pc := 95) dX6_isName_95 rfl
  refine sm_ite (fun e17 => ?_) (fun e17 => ?_)
  · refine sm_tsi (pc := 1) (c1 := 114) (off := 93) (tgt := 94) e17 dX6_isName_1 (by decide) (by decide) (by decide) (by decide) ?_
    refine sm_iconst (pc := 94) dX6_isName_94 (v := 0) (by decide) ?_
    exact sm_zret (pc := 95) dX6_isName_95 rfl
  refine sm_ite (fun e18 => ?_) (fun e18 => ?_)
  · refine sm_tsi (pc := 1) (c1 := 115) (off := 91) (tgt := 92) e18 dX6_isName_1 (by decide) (by decide) (by decide) (by decide) ?_
    refine sm_iconst (pc := 92) dX6_isName_92 (v := 1) (by decide) ?_
    exact sm_zret (pc := 93) dX6_isName_93 rfl
  refine sm_ite (fun e19 => ?_) (fun e19 => ?_)
  · refine sm_tsi (pc := 1) (c1 := 116) (off := 91) (tgt := 92) e19 dX6_isName_1 (by decide) (by decide) (by decide) (by decide) ?_
    refine sm_iconst (pc := 92) dX6_isName_92 (v := 1) (by decide) ?_
    exact sm_zret (pc := 93) dX6_isName_93 rfl
  replace e1 := am_ne (n := 98) (by decide) e1
  replace e2 := am_ne (n := 99) (by decide) e2
  replace e3 := am_ne (n := 100) (by decide) e3
  replace e4 := am_ne (n := 101) (by decide) e4
  replace e5 := am_ne (n := 102) (by decide) e5
  replace e6 := am_ne (n := 103) (by decide) e6
  replace e7 := am_ne (n := 104) (by decide) e7
  replace e8 := am_ne (n := 105) (by decide) e8
  replace e9 := am_ne (n := 106) (by decide) e9
  replace e10 := am_ne (n := 107) (by decide) e10
  replace e11 := am_ne (n := 108) (by decide) e11
  replace e12 := am_ne (n := 109) (by decide) e12
  replace e13 := am_ne (n := 110) (by decide) e13
  replace e14 := am_ne (n := 111) (by decide) e14
  replace e15 := am_ne (n := 112) (by decide) e15
  replace e16 := am_ne (n := 113) (by decide) e16
  replace e17 := am_ne (n := 114) (by decide) e17
  replace e18 := am_ne (n := 115) (by decide) e18
  replace e19 := am_ne (n := 116) (by decide) e19
  refine sm_tso (pc := 1) (tgt := 94) dX6_isName_1 (by omega) (by decide) ?_
  refine sm_iconst (pc := 94) dX6_isName_94 (v := 0) (by decide) ?_
  exact sm_zret (pc := 95) dX6_isName_95 rfl
theorem c_X6_isName (G : am_G) (l : Launch) (N : Nat) (a0 : Int32) (μ : am_M) : ct_P G l am_ci 0 me_X6_isName [.int a0] μ (f_X6_isName N a0 μ) := ct_of (by decide +kernel) (Nat.le_of_ble_eq_true rfl) rfl (p_X6_isName_0 G l 0 (Nat.le_refl _) N a0 μ)

def f_X6_take_16 (N : Nat) (r_16 : Int32 → Int32 → Int32 → am_M → Option (Int32 × am_M)) (x1 : Int32) (x2 : Int32) (x3 : Int32) (μ : am_M) : Option (Int32 × am_M) :=
if x1 ≤ x3 then (some ((μ.1 3 0 1), μ)) else (if (120 : Int32) ≤ (μ.1 3 0 1) then (some ((μ.1 3 0 1), μ)) else (am_gd (μ.1 3 0 1) 120 (fun j1 => am_nm (am_ui μ 48 0 j1 ((x2 >>> (((8 : Int32) * x3) &&& 31)) &&& (255 : Int32))) (fun μ2 => am_nm (am_ui μ2 3 0 1 ((μ2.1 3 0 1) + (1 : Int32))) (fun μ3 => r_16 x1 x2 (x3 + (1 : Int32)) μ3)))))
def f_X6_take_16_lp (N : Nat) : Nat → Int32 → Int32 → Int32 → am_M → Option (Int32 × am_M)
  | 0, _, _, _, _ => none
  | n + 1, x1, x2, x3, μ => f_X6_take_16 N (f_X6_take_16_lp N n) x1 x2 x3 μ
def f_X6_take_0 (N : Nat) (a1 : Int32) (a2 : Int32) (μ : am_M) : Option (Int32 × am_M) :=
if ((μ.1 3 0 1) + a1) ≤ (120 : Int32) then (f_X6_take_16_lp N N a1 a2 (0 : Int32) μ) else (some ((-3 : Int32), μ))
def f_X6_take (N : Nat) (a1 : Int32) (a2 : Int32) (μ : am_M) : Option (Int32 × am_M) := f_X6_take_0 N a1 a2 μ
set_option maxHeartbeats 4000000 in
set_option maxRecDepth 100000 in
theorem p_X6_take_16 (G : am_G) (l : Launch) (d : Nat) (hd0 : 0 ≤ d) (N : Nat) (r_16 : Int32 → Int32 → Int32 → am_M → Option (Int32 × am_M)) (H_16 : ∀ (x1 : Int32) (x2 : Int32) (x3 : Int32) (μ : am_M), sm_P G l am_ci d me_X6_take 16 [(0, .ref (am_ad G 3 0)), (1, .int x1), (2, .int x2), (3, .int x3)] [] μ (r_16 x1 x2 x3 μ)) (x1 : Int32) (x2 : Int32) (x3 : Int32) (μ : am_M) : sm_P G l am_ci d me_X6_take 16 [(0, .ref (am_ad G 3 0)), (1, .int x1), (2, .int x2), (3, .int x3)] [] μ (f_X6_take_16 N r_16 x1 x2 x3 μ) := by
  unfold f_X6_take_16
  refine sm_iload_n (pc := 16) dX6_take_16 rfl 3 rfl ?_
  refine sm_iload_n (pc := 17) dX6_take_17 rfl 1 rfl ?_
  refine sm_icmp_ge (pc := 18) (tgt := 65) dX6_take_18 (by decide) ?_ ?_
  · refine sm_aload_n (pc := 65) dX6_take_65 rfl 0 rfl ?_
    refine sm_geti (pc := 66) dX6_take_66 fi_X6_18 ?_
    exact sm_iret (pc := 69) dX6_take_69 rfl
  · refine sm_aload_n (pc := 21) dX6_take_21 rfl 0 rfl ?_
    refine sm_geti (pc := 22) dX6_take_22 fi_X6_18 ?_
    refine sm_bipush (pc := 25) dX6_take_25 (v := 120) (by decide) ?_
    refine sm_icmp_ge (pc := 27) (tgt := 65) dX6_take_27 (by decide) ?_ ?_
    · refine sm_aload_n (pc := 65) dX6_take_65 rfl 0 rfl ?_
      refine sm_geti (pc := 66) dX6_take_66 fi_X6_18 ?_
      exact sm_iret (pc := 69) dX6_take_69 rfl
    · refine sm_aload_n (pc := 30) dX6_take_30 rfl 0 rfl ?_
      refine sm_getr (pc := 31) dX6_take_31 fi_X6_9 ?_
      refine sm_aload_n (pc := 34) dX6_take_34 rfl 0 rfl ?_
      refine sm_geti (pc := 35) dX6_take_35 fi_X6_18 ?_
      refine sm_iload_n (pc := 38) dX6_take_38 rfl 2 rfl ?_
      refine sm_bipush (pc := 39) dX6_take_39 (v := 8) (by decide) ?_
      refine sm_iload_n (pc := 41) dX6_take_41 rfl 3 rfl ?_
      refine sm_imul (pc := 42) dX6_take_42 ?_
      refine sm_ishr (pc := 43) dX6_take_43 ?_
      refine sm_sipush (pc := 44) dX6_take_44 (v := 255) (by decide) ?_
      refine sm_iand (pc := 47) dX6_take_47 ?_
      refine sm_iast (pc := 48) dX6_take_48 ly_48 (by decide) (fun j1 hj1 => ?_)
      refine sm_nmM (fun μ2 => ?_)
      refine sm_aload_n (pc := 49) dX6_take_49 rfl 0 rfl ?_
      refine sm_dup (pc := 50) dX6_take_50 rfl ?_
      refine sm_geti (pc := 51) dX6_take_51 fi_X6_18 ?_
      refine sm_iconst (pc := 54) dX6_take_54 (v := 1) (by decide) ?_
      refine sm_iadd (pc := 55) dX6_take_55 ?_
      refine sm_puti (pc := 56) dX6_take_56 fi_X6_18 ?_
      refine sm_nmM (fun μ3 => ?_)
      refine sm_iinc (pc := 59) (v := (x3 + (1 : Int32))) (lv' := [(3, .int (x3 + (1 : Int32))), (0, .ref (am_ad G 3 0)), (1, .int x1), (2, .int x2)]) dX6_take_59 3 rfl rfl (by decide) rfl ?_
      refine sm_goto (pc := 62) (tgt := 16) dX6_take_62 (by decide) ?_
      refine sm_sub [1, 2, 3, 0] rfl ?_
      exact H_16 x1 x2 (x3 + (1 : Int32)) μ3
theorem p_X6_take_16_lp (G : am_G) (l : Launch) (d : Nat) (hd0 : 0 ≤ d) (N : Nat) : ∀ (n : Nat) (x1 : Int32) (x2 : Int32) (x3 : Int32) (μ : am_M), sm_P G l am_ci d me_X6_take 16 [(0, .ref (am_ad G 3 0)), (1, .int x1), (2, .int x2), (3, .int x3)] [] μ (f_X6_take_16_lp N n x1 x2 x3 μ) := by
  intro n
  induction n with
  | zero => intros; exact sm_none
  | succ n ih => exact fun x1 x2 x3 μ => p_X6_take_16 G l d hd0 N (f_X6_take_16_lp N n) ih x1 x2 x3 μ
set_option maxHeartbeats 4000000 in
set_option maxRecDepth 100000 in
theorem p_X6_take_0 (G : am_G) (l : Launch) (d : Nat) (hd0 : 0 ≤ d) (N : Nat) (a1 : Int32) (a2 : Int32) (μ : am_M) : sm_P G l am_ci d me_X6_take 0 [(0, .ref (am_ad G 3 0)), (1, .int a1), (2, .int a2)] [] μ (f_X6_take_0 N a1 a2 μ) := by
  unfold f_X6_take_0
  refine sm_aload_n (pc := 0) dX6_take_0 rfl 0 rfl ?_
  refine sm_geti (pc := 1) dX6_take_1 fi_X6_18 ?_
  refine sm_iload_n (pc := 4) dX6_take_4 rfl 1 rfl ?_
  refine sm_iadd (pc := 5) dX6_take_5 ?_
  refine sm_bipush (pc := 6) dX6_take_6 (v := 120) (by decide) ?_
  refine sm_icmp_le (pc := 8) (tgt := 14) dX6_take_8 (by decide) ?_ ?_
  · refine sm_iconst (pc := 14) dX6_take_14 (v := 0) (by decide) ?_
    refine sm_istore_n (pc := 15) (lv' := [(3, .int (0 : Int32)), (0, .ref (am_ad G 3 0)), (1, .int a1), (2, .int a2)]) dX6_take_15 rfl (by decide) rfl ?_
    refine sm_sub [1, 2, 3, 0] rfl ?_
    exact p_X6_take_16_lp G l d hd0 N N a1 a2 (0 : Int32) μ
  · refine sm_bipush (pc := 11) dX6_take_11 (v := -3) (by decide) ?_
    exact sm_iret (pc := 13) dX6_take_13 rfl
theorem c_X6_take (G : am_G) (l : Launch) (N : Nat) (a1 : Int32) (a2 : Int32) (μ : am_M) : ct_P G l am_ci 0 me_X6_take [.ref (am_ad G 3 0), .int a1, .int a2] μ (f_X6_take N a1 a2 μ) := ct_of (by decide +kernel) (Nat.le_of_ble_eq_true rfl) rfl (p_X6_take_0 G l 0 (Nat.le_refl _) N a1 a2 μ)

def f_X6_empty_0 (N : Nat) (μ : am_M) : Option (Unit × am_M) :=
am_nm (am_ui μ 3 0 1 (0 : Int32)) (fun μ1 => some ((), μ1))
def f_X6_empty (N : Nat) (μ : am_M) : Option (Unit × am_M) := f_X6_empty_0 N μ
set_option maxHeartbeats 4000000 in
set_option maxRecDepth 100000 in
theorem p_X6_empty_0 (G : am_G) (l : Launch) (d : Nat) (hd0 : 0 ≤ d) (N : Nat) (μ : am_M) : sm_P G l am_cu d me_X6_empty 0 [(0, .ref (am_ad G 3 0))] [] μ (f_X6_empty_0 N μ) := by
  unfold f_X6_empty_0
  refine sm_aload_n (pc := 0) dX6_empty_0 rfl 0 rfl ?_
  refine sm_iconst (pc := 1) dX6_empty_1 (v := 0) (by decide) ?_
  refine sm_puti (pc := 2) dX6_empty_2 fi_X6_18 ?_
  refine sm_nmM (fun μ1 => ?_)
  exact sm_vret (pc := 5) dX6_empty_5 rfl
theorem c_X6_empty (G : am_G) (l : Launch) (N : Nat) (μ : am_M) : ct_P G l am_cu 0 me_X6_empty [.ref (am_ad G 3 0)] μ (f_X6_empty N μ) := ct_of (by decide +kernel) (Nat.le_of_ble_eq_true rfl) rfl (p_X6_empty_0 G l 0 (Nat.le_refl _) N μ)

def f_X6_place_0 (N : Nat) (μ : am_M) : Option (Int32 × am_M) :=
some ((μ.1 3 0 2), μ)
def f_X6_place (N : Nat) (μ : am_M) : Option (Int32 × am_M) := f_X6_place_0 N μ
set_option maxHeartbeats 4000000 in
set_option maxRecDepth 100000 in
theorem p_X6_place_0 (G : am_G) (l : Launch) (d : Nat) (hd0 : 0 ≤ d) (N : Nat) (μ : am_M) : sm_P G l am_ci d me_X6_place 0 [(0, .ref (am_ad G 3 0))] [] μ (f_X6_place_0 N μ) := by
  unfold f_X6_place_0
  refine sm_aload_n (pc := 0) dX6_place_0 rfl 0 rfl ?_
  refine sm_geti (pc := 1) dX6_place_1 fi_X6_22 ?_
  exact sm_iret (pc := 4) dX6_place_4 rfl
theorem c_X6_place (G : am_G) (l : Launch) (N : Nat) (μ : am_M) : ct_P G l am_ci 0 me_X6_place [.ref (am_ad G 3 0)] μ (f_X6_place N μ) := ct_of (by decide +kernel) (Nat.le_of_ble_eq_true rfl) rfl (p_X6_place_0 G l 0 (Nat.le_refl _) N μ)

def f_X6_size_0 (N : Nat) (μ : am_M) : Option (Int32 × am_M) :=
some ((μ.1 3 0 4), μ)
def f_X6_size (N : Nat) (μ : am_M) : Option (Int32 × am_M) := f_X6_size_0 N μ
set_option maxHeartbeats 4000000 in
set_option maxRecDepth 100000 in
theorem p_X6_size_0 (G : am_G) (l : Launch) (d : Nat) (hd0 : 0 ≤ d) (N : Nat) (μ : am_M) : sm_P G l am_ci d me_X6_size 0 [(0, .ref (am_ad G 3 0))] [] μ (f_X6_size_0 N μ) := by
  unfold f_X6_size_0
  refine sm_aload_n (pc := 0) dX6_size_0 rfl 0 rfl ?_
  refine sm_geti (pc := 1) dX6_size_1 fi_X6_25 ?_
  exact sm_iret (pc := 4) dX6_size_4 rfl
theorem c_X6_size (G : am_G) (l : Launch) (N : Nat) (μ : am_M) : ct_P G l am_ci 0 me_X6_size [.ref (am_ad G 3 0)] μ (f_X6_size N μ) := ct_of (by decide +kernel) (Nat.le_of_ble_eq_true rfl) rfl (p_X6_size_0 G l 0 (Nat.le_refl _) N μ)

def f_X6_stepAt_0 (N : Nat) (a1 : Int32) (μ : am_M) : Option (Int32 × am_M) :=
am_bd (f_X9_isWithin N a1 (0 : Int32) (120 : Int32) μ) (fun y2 μ1 => if y2 = 0 then (some ((0 : Int32), μ1)) else (am_gd a1 121 (fun j3 => some ((μ1.1 51 0 j3), μ1))))
def f_X6_stepAt (N : Nat) (a1 : Int32) (μ : am_M) : Option (Int32 × am_M) := f_X6_stepAt_0 N a1 μ
set_option maxHeartbeats 4000000 in
set_option maxRecDepth 100000 in
theorem p_X6_stepAt_0 (G : am_G) (l : Launch) (d : Nat) (hd0 : 1 ≤ d) (N : Nat) (a1 : Int32) (μ : am_M) : sm_P G l am_ci d me_X6_stepAt 0 [(0, .ref (am_ad G 3 0)), (1, .int a1)] [] μ (f_X6_stepAt_0 N a1 μ) := by
  unfold f_X6_stepAt_0
  refine sm_iload_n (pc := 0) dX6_stepAt_0 rfl 1 rfl ?_
  refine sm_iconst (pc := 1) dX6_stepAt_1 (v := 0) (by decide) ?_
  refine sm_bipush (pc := 2) dX6_stepAt_2 (v := 120) (by decide) ?_
  refine sm_callNi (pc := 4) (As := [.int a1, .int (0 : Int32), .int (120 : Int32)]) (rest := []) dX6_stepAt_4 (c_X9_isWithin G l N a1 (0 : Int32) (120 : Int32) μ) (by omega) wl_X6_28 st_X9_isWithin rfl rfl (Nat.le_of_ble_eq_true rfl) (fun y2 μ1 => ?_)
  refine sm_if_eq (pc := 7) (tgt := 19) dX6_stepAt_7 (by decide) ?_ ?_
  · refine sm_iconst (pc := 19) dX6_stepAt_19 (v := 0) (by decide) ?_
    exact sm_iret (pc := 20) dX6_stepAt_20 rfl
  · refine sm_aload_n (pc := 10) dX6_stepAt_10 rfl 0 rfl ?_
    refine sm_getr (pc := 11) dX6_stepAt_11 fi_X6_15 ?_
    refine sm_iload_n (pc := 14) dX6_stepAt_14 rfl 1 rfl ?_
    refine sm_iald (pc := 15) dX6_stepAt_15 ly_51 (by decide) (fun j3 hj3 => ?_)
    refine sm_goto (pc := 16) (tgt := 20) dX6_stepAt_16 (by decide) ?_
    exact sm_iret (pc := 20) dX6_stepAt_20 rfl
theorem c_X6_stepAt (G : am_G) (l : Launch) (N : Nat) (a1 : Int32) (μ : am_M) : ct_P G l am_ci 1 me_X6_stepAt [.ref (am_ad G 3 0), .int a1] μ (f_X6_stepAt N a1 μ) := ct_of (by decide +kernel) (Nat.le_of_ble_eq_true rfl) rfl (p_X6_stepAt_0 G l 1 (Nat.le_refl _) N a1 μ)

def f_X6_here_0 (N : Nat) (μ : am_M) : Option (Int32 × am_M) :=
if (μ.1 3 0 1) ≤ (μ.1 3 0 2) then (some ((-1 : Int32), μ)) else (if (120 : Int32) ≤ (μ.1 3 0 2) then (some ((-1 : Int32), μ)) else (am_gd (μ.1 3 0 2) 120 (fun j1 => some ((μ.1 48 0 j1), μ))))
def f_X6_here (N : Nat) (μ : am_M) : Option (Int32 × am_M) := f_X6_here_0 N μ
set_option maxHeartbeats 4000000 in
set_option maxRecDepth 100000 in
theorem p_X6_here_0 (G : am_G) (l : Launch) (d : Nat) (hd0 : 0 ≤ d) (N : Nat) (μ : am_M) : sm_P G l am_ci d me_X6_here 0 [(0, .ref (am_ad G 3 0))] [] μ (f_X6_here_0 N μ) := by
  unfold f_X6_here_0
  refine sm_aload_n (pc := 0) dX6_here_0 rfl 0 rfl ?_
  refine sm_geti (pc := 1) dX6_here_1 fi_X6_22 ?_
  refine sm_aload_n (pc := 4) dX6_here_4 rfl 0 rfl ?_
  refine sm_geti (pc := 5) dX6_here_5 fi_X6_18 ?_
  refine sm_icmp_ge (pc := 8) (tgt := 32) dX6_here_8 (by decide) ?_ ?_
  · refine sm_iconst (pc := 32) dX6_here_32 (v := -1) (by decide) ?_
    exact sm_iret (pc := 33) dX6_here_33 rfl
  · refine sm_aload_n (pc := 11) dX6_here_11 rfl 0 rfl ?_
    refine sm_geti (pc := 12) dX6_here_12 fi_X6_22 ?_
    refine sm_bipush (pc := 15) dX6_here_15 (v := 120) (by decide) ?_
    refine sm_icmp_ge (pc := 17) (tgt := 32) dX6_here_17 (by decide) ?_ ?_
    · refine sm_iconst (pc := 32) dX6_here_32 (v := -1) (by decide) ?_
      exact sm_iret (pc := 33) dX6_here_33 rfl
    · refine sm_aload_n (pc := 20) dX6_here_20 rfl 0 rfl ?_
      refine sm_getr (pc := 21) dX6_here_21 fi_X6_9 ?_
      refine sm_aload_n (pc := 24) dX6_here_24 rfl 0 rfl ?_
      refine sm_geti (pc := 25) dX6_here_25 fi_X6_22 ?_
      refine sm_iald (pc := 28) dX6_here_28 ly_48 (by decide) (fun j1 hj1 => ?_)
      refine sm_goto (pc := 29) (tgt := 33) dX6_here_29 (by decide) ?_
      exact sm_iret (pc := 33) dX6_here_33 rfl
theorem c_X6_here (G : am_G) (l : Launch) (N : Nat) (μ : am_M) : ct_P G l am_ci 0 me_X6_here [.ref (am_ad G 3 0)] μ (f_X6_here N μ) := ct_of (by decide +kernel) (Nat.le_of_ble_eq_true rfl) rfl (p_X6_here_0 G l 0 (Nat.le_refl _) N μ)

def f_X6_write_0 (N : Nat) (a1 : Int32) (μ : am_M) : Option (Unit × am_M) :=
if (121 : Int32) ≤ (μ.1 3 0 4) then (some ((), μ)) else (am_gd (μ.1 3 0 4) 121 (fun j1 => am_nm (am_ui μ 51 0 j1 a1) (fun μ2 => am_nm (am_ui μ2 3 0 4 ((μ2.1 3 0 4) + (1 : Int32))) (fun μ3 => some ((), μ3)))))
def f_X6_write (N : Nat) (a1 : Int32) (μ : am_M) : Option (Unit × am_M) := f_X6_write_0 N a1 μ
set_option maxHeartbeats 4000000 in
set_option maxRecDepth 100000 in
theorem p_X6_write_0 (G : am_G) (l : Launch) (d : Nat) (hd0 : 0 ≤ d) (N : Nat) (a1 : Int32) (μ : am_M) : sm_P G l am_cu d me_X6_write 0 [(0, .ref (am_ad G 3 0)), (1, .int a1)] [] μ (f_X6_write_0 N a1 μ) := by
  unfold f_X6_write_0
  refine sm_aload_n (pc := 0) dX6_write_0 rfl 0 rfl ?_
  refine sm_geti (pc := 1) dX6_write_1 fi_X6_25 ?_
  refine sm_bipush (pc := 4) dX6_write_4 (v := 121) (by decide) ?_
  refine sm_icmp_ge (pc := 6) (tgt := 29) dX6_write_6 (by decide) ?_ ?_
  · exact sm_vret (pc := 29) dX6_write_29 rfl
  · refine sm_aload_n (pc := 9) dX6_write_9 rfl 0 rfl ?_
    refine sm_getr (pc := 10) dX6_write_10 fi_X6_15 ?_
    refine sm_aload_n (pc := 13) dX6_write_13 rfl 0 rfl ?_
    refine sm_geti (pc := 14) dX6_write_14 fi_X6_25 ?_
    refine sm_iload_n (pc := 17) dX6_write_17 rfl 1 rfl ?_
    refine sm_iast (pc := 18) dX6_write_18 ly_51 (by decide) (fun j1 hj1 => ?_)
    refine sm_nmM (fun μ2 => ?_)
    refine sm_aload_n (pc := 19) dX6_write_19 rfl 0 rfl ?_
    refine sm_dup (pc := 20) dX6_write_20 rfl ?_
    refine sm_geti (pc := 21) dX6_write_21 fi_X6_25 ?_
    refine sm_iconst (pc := 24) dX6_write_24 (v := 1) (by decide) ?_
    refine sm_iadd (pc := 25) dX6_write_25 ?_
    refine sm_puti (pc := 26) dX6_write_26 fi_X6_25 ?_
    refine sm_nmM (fun μ3 => ?_)
    exact sm_vret (pc := 29) dX6_write_29 rfl
theorem c_X6_write (G : am_G) (l : Launch) (N : Nat) (a1 : Int32) (μ : am_M) : ct_P G l am_cu 0 me_X6_write [.ref (am_ad G 3 0), .int a1] μ (f_X6_write N a1 μ) := ct_of (by decide +kernel) (Nat.le_of_ble_eq_true rfl) rfl (p_X6_write_0 G l 0 (Nat.le_refl _) N a1 μ)

def f_X6_readNumber_52 (N : Nat) (x1 : Int32) (μ : am_M) : Option (Unit × am_M) :=
am_bd (f_X6_write N x1 μ) (fun _ μ1 => some ((), μ1))
def f_X6_readNumber_4 (N : Nat) (r_4 : Int32 → Int32 → am_M → Option (Unit × am_M)) (x1 : Int32) (x2 : Int32) (μ : am_M) : Option (Unit × am_M) :=
if (4 : Int32) ≤ x2 then (f_X6_readNumber_52 N x1 μ) else (am_bd (f_X6_here N μ) (fun y3 μ2 => am_bd (f_X9_isWithin N y3 (48 : Int32) (57 : Int32) μ2) (fun y5 μ4 => if y5 = 0 then (f_X6_readNumber_52 N x1 μ4) else (am_bd (f_X6_here N μ4) (fun y7 μ6 => am_nm (((x1 * (10 : Int32)) + y7) - (48 : Int32)) (fun y8 => am_nm (am_ui μ6 3 0 2 ((μ6.1 3 0 2) + (1 : Int32))) (fun μ9 => r_4 y8 (x2 + (1 : Int32)) μ9)))))))
def f_X6_readNumber_4_lp (N : Nat) : Nat → Int32 → Int32 → am_M → Option (Unit × am_M)
  | 0, _, _, _ => none
  | n + 1, x1, x2, μ => f_X6_readNumber_4 N (f_X6_readNumber_4_lp N n) x1 x2 μ
def f_X6_readNumber_0 (N : Nat) (μ : am_M) : Option (Unit × am_M) :=
f_X6_readNumber_4_lp N N (0 : Int32) (0 : Int32) μ
def f_X6_readNumber (N : Nat) (μ : am_M) : Option (Unit × am_M) := f_X6_readNumber_0 N μ
set_option maxHeartbeats 4000000 in
set_option maxRecDepth 100000 in
theorem p_X6_readNumber_52 (G : am_G) (l : Launch) (d : Nat) (hd0 : 1 ≤ d) (N : Nat) (x1 : Int32) (μ : am_M) : sm_P G l am_cu d me_X6_readNumber 52 [(0, .ref (am_ad G 3 0)), (1, .int x1)] [] μ (f_X6_readNumber_52 N x1 μ) := by
  unfold f_X6_readNumber_52
  refine sm_aload_n (pc := 52) dX6_readNumber_52 rfl 0 rfl ?_
  refine sm_iload_n (pc := 53) dX6_readNumber_53 rfl 1 rfl ?_
  refine sm_callVv (pc := 54) (As := [.int x1]) (rest := []) dX6_readNumber_54 (c_X6_write G l N x1 μ) (by omega) wl_X6_44 vm_X6_write rfl rfl (Nat.le_of_ble_eq_true rfl) (fun _ μ1 => ?_)
  exact sm_vret (pc := 57) dX6_readNumber_57 rfl
set_option maxHeartbeats 4000000 in
set_option maxRecDepth 100000 in
theorem p_X6_readNumber_4 (G : am_G) (l : Launch) (d : Nat) (hd0 : 1 ≤ d) (N : Nat) (r_4 : Int32 → Int32 → am_M → Option (Unit × am_M)) (H_4 : ∀ (x1 : Int32) (x2 : Int32) (μ : am_M), sm_P G l am_cu d me_X6_readNumber 4 [(0, .ref (am_ad G 3 0)), (1, .int x1), (2, .int x2)] [] μ (r_4 x1 x2 μ)) (x1 : Int32) (x2 : Int32) (μ : am_M) : sm_P G l am_cu d me_X6_readNumber 4 [(0, .ref (am_ad G 3 0)), (1, .int x1), (2, .int x2)] [] μ (f_X6_readNumber_4 N r_4 x1 x2 μ) := by
  unfold f_X6_readNumber_4
  refine sm_iload_n (pc := 4) dX6_readNumber_4 rfl 2 rfl ?_
  refine sm_iconst (pc := 5) dX6_readNumber_5 (v := 4) (by decide) ?_
  refine sm_icmp_ge (pc := 6) (tgt := 52) dX6_readNumber_6 (by decide) ?_ ?_
  · refine sm_sub [0, 1] rfl ?_
    exact p_X6_readNumber_52 G l d hd0 N x1 μ
  · refine sm_aload_n (pc := 9) dX6_readNumber_9 rfl 0 rfl ?_
    refine sm_callVi (pc := 10) (As := []) (rest := []) dX6_readNumber_10 (c_X6_here G l N μ) (by omega) wl_X6_36 vm_X6_here rfl rfl (Nat.le_of_ble_eq_true rfl) (fun y3 μ2 => ?_)
    refine sm_bipush (pc := 13) dX6_readNumber_13 (v := 48) (by decide) ?_
    refine sm_bipush (pc := 15) dX6_readNumber_15 (v := 57) (by decide) ?_
    refine sm_callNi (pc := 17) (As := [.int y3, .int (48 : Int32), .int (57 : Int32)]) (rest := []) dX6_readNumber_17 (c_X9_isWithin G l N y3 (48 : Int32) (57 : Int32) μ2) (by omega) wl_X6_28 st_X9_isWithin rfl rfl (Nat.le_of_ble_eq_true rfl) (fun y5 μ4 => ?_)
    refine sm_if_eq (pc := 20) (tgt := 52) dX6_readNumber_20 (by decide) ?_ ?_
    · refine sm_sub [0, 1] rfl ?_
      exact p_X6_readNumber_52 G l d hd0 N x1 μ4
    · refine sm_iload_n (pc := 23) dX6_readNumber_23 rfl 1 rfl ?_
      refine sm_bipush (pc := 24) dX6_readNumber_24 (v := 10) (by decide) ?_
      refine sm_imul (pc := 26) dX6_readNumber_26 ?_
      refine sm_aload_n (pc := 27) dX6_readNumber_27 rfl 0 rfl ?_
      refine sm_callVi (pc := 28) (As := []) (rest := [.int (x1 * (10 : Int32))]) dX6_readNumber_28 (c_X6_here G l N μ4) (by omega) wl_X6_36 vm_X6_here rfl rfl (Nat.le_of_ble_eq_true rfl) (fun y7 μ6 => ?_)
      refine sm_iadd (pc := 31) dX6_readNumber_31 ?_
      refine sm_bipush (pc := 32) dX6_readNumber_32 (v := 48) (by decide) ?_
      refine sm_isub (pc := 34) dX6_readNumber_34 ?_
      refine sm_nmI (fun y8 => ?_)
      refine sm_istore_n (pc := 35) (lv' := [(1, .int y8), (0, .ref (am_ad G 3 0)), (2, .int x2)]) dX6_readNumber_35 rfl (by decide) rfl ?_
      refine sm_aload_n (pc := 36) dX6_readNumber_36 rfl 1 rfl ?_
      refine sm_dup (pc := 37) dX6_readNumber_37 rfl ?_
      refine sm_geti (pc := 38) dX6_readNumber_38 fi_X6_22 ?_
      refine sm_iconst (pc := 41) dX6_readNumber_41 (v := 1) (by decide) ?_
      refine sm_iadd (pc := 42) dX6_readNumber_42 ?_
      refine sm_puti (pc := 43) dX6_readNumber_43 fi_X6_22 ?_
      refine sm_nmM (fun μ9 => ?_)
      refine sm_iinc (pc := 46) (v := (x2 + (1 : Int32))) (lv' := [(2, .int (x2 + (1 : Int32))), (1, .int y8), (0, .ref (am_ad G 3 0))]) dX6_readNumber_46 2 rfl rfl (by decide) rfl ?_
      refine sm_goto (pc := 49) (tgt := 4) dX6_readNumber_49 (by decide) ?_
      refine sm_sub [2, 1, 0] rfl ?_
      exact H_4 y8 (x2 + (1 : Int32)) μ9
theorem p_X6_readNumber_4_lp (G : am_G) (l : Launch) (d : Nat) (hd0 : 1 ≤ d) (N : Nat) : ∀ (n : Nat) (x1 : Int32) (x2 : Int32) (μ : am_M), sm_P G l am_cu d me_X6_readNumber 4 [(0, .ref (am_ad G 3 0)), (1, .int x1), (2, .int x2)] [] μ (f_X6_readNumber_4_lp N n x1 x2 μ) := by
  intro n
  induction n with
  | zero => intros; exact sm_none
  | succ n ih => exact fun x1 x2 μ => p_X6_readNumber_4 G l d hd0 N (f_X6_readNumber_4_lp N n) ih x1 x2 μ
set_option maxHeartbeats 4000000 in
set_option maxRecDepth 100000 in
theorem p_X6_readNumber_0 (G : am_G) (l : Launch) (d : Nat) (hd0 : 1 ≤ d) (N : Nat) (μ : am_M) : sm_P G l am_cu d me_X6_readNumber 0 [(0, .ref (am_ad G 3 0))] [] μ (f_X6_readNumber_0 N μ) := by
  unfold f_X6_readNumber_0
  refine sm_iconst (pc := 0) dX6_readNumber_0 (v := 0) (by decide) ?_
  refine sm_istore_n (pc := 1) (lv' := [(1, .int (0 : Int32)), (0, .ref (am_ad G 3 0))]) dX6_readNumber_1 rfl (by decide) rfl ?_
  refine sm_iconst (pc := 2) dX6_readNumber_2 (v := 0) (by decide) ?_
  refine sm_istore_n (pc := 3) (lv' := [(2, .int (0 : Int32)), (1, .int (0 : Int32)), (0, .ref (am_ad G 3 0))]) dX6_readNumber_3 rfl (by decide) rfl ?_
  refine sm_sub [2, 1, 0] rfl ?_
  exact p_X6_readNumber_4_lp G l d hd0 N N (0 : Int32) (0 : Int32) μ
theorem c_X6_readNumber (G : am_G) (l : Launch) (N : Nat) (μ : am_M) : ct_P G l am_cu 1 me_X6_readNumber [.ref (am_ad G 3 0)] μ (f_X6_readNumber N μ) := ct_of (by decide +kernel) (Nat.le_of_ble_eq_true rfl) rfl (p_X6_readNumber_0 G l 1 (Nat.le_refl _) N μ)

def f_X6_levelOf_0 (N : Nat) (a0 : Int32) (μ : am_M) : Option (Int32 × am_M) :=
if a0 = (37 : Int32) then (some ((4 : Int32), μ)) else (if a0 = (38 : Int32) then (some ((1 : Int32), μ)) else (if a0 = (42 : Int32) then (some ((4 : Int32), μ)) else (if a0 = (43 : Int32) then (some ((3 : Int32), μ)) else (if a0 = (45 : Int32) then (some ((3 : Int32), μ)) else (if a0 = (47 : Int32) then (some ((4 : Int32), μ)) else (if a0 = (60 : Int32) then (some ((2 : Int32), μ)) else (if a0 = (61 : Int32) then (some ((2 : Int32), μ)) else (if a0 = (62 : Int32) then (some ((2 : Int32), μ)) else (if a0 = (124 : Int32) then (some ((0 : Int32), μ)) else (some ((-1 : Int32), μ)))))))))))
def f_X6_levelOf (N : Nat) (a0 : Int32) (μ : am_M) : Option (Int32 × am_M) := f_X6_levelOf_0 N a0 μ
set_option maxHeartbeats 4000000 in
set_option maxRecDepth 100000 in
theorem p_X6_levelOf_0 (G : am_G) (l : Launch) (d : Nat) (hd0 : 0 ≤ d) (N : Nat) (a0 : Int32) (μ : am_M) : sm_P G l am_ci d me_X6_levelOf 0 [(0, .int a0)] [] μ (f_X6_levelOf_0 N a0 μ) := by
  unfold f_X6_levelOf_0
  refine sm_iload_n (pc := 0) dX6_levelOf_0 rfl 0 rfl ?_
  refine sm_ite (fun e1 => ?_) (fun e1 => ?_)
  · refine sm_lku (pc := 1) (off := 99) (tgt := 100) dX6_levelOf_1 (by decide) (by rw [e1]; decide) (by decide) ?_
    refine sm_iconst (pc := 100) dX6_levelOf_100 (v := 4) (by decide) ?_
    exact sm_iret (pc := 101) dX6_levelOf_101 rfl
  refine sm_ite (fun e2 => ?_) (fun e2 => ?_)
  · refine sm_lku (pc := 1) (off := 93) (tgt := 94) dX6_levelOf_1 (by decide) (by rw [e2]; decide) (by decide) ?_
    refine sm_iconst (pc := 94) dX6_levelOf_94 (v := 1) (by decide) ?_
    exact sm_iret (pc := 95) dX6_levelOf_95 rfl
  refine sm_ite (fun e3 => ?_) (fun e3 => ?_)
  · refine sm_lku (pc := 1) (off := 99) (tgt := 100) dX6_levelOf_1 (by decide) (by rw [e3]; decide) (by decide) ?_
    refine sm_iconst (pc := 100) dX6_levelOf_100 (v := 4) (by decide) ?_
    exact sm_iret (pc := 101) dX6_levelOf_101 rfl
  refine sm_ite (fun e4 => ?_) (fun e4 => ?_)
  · refine sm_lku (pc := 1) (off := 97) (tgt := 98) dX6_levelOf_1 (by decide) (by rw [e4]; decide) (by decide) ?_
    refine sm_iconst (pc := 98) dX6_levelOf_98 (v := 3) (by decide) ?_
    exact sm_iret (pc := 99) dX6_levelOf_99 rfl
  refine sm_ite (fun e5 => ?_) (fun e5 => ?_)
  · refine sm_lku (pc := 1) (off := 97) (tgt := 98) dX6_levelOf_1 (by decide) (by rw [e5]; decide) (by decide) ?_
    refine sm_iconst (pc := 98) dX6_levelOf_98 (v := 3) (by decide) ?_
    exact sm_iret (pc := 99) dX6_levelOf_99 rfl
  refine sm_ite (fun e6 => ?_) (fun e6 => ?_)
  · refine sm_lku (pc := 1) (off := 99) (tgt := 100) dX6_levelOf_1 (by decide) (by rw [e6]; decide) (by decide) ?_
    refine sm_iconst (pc := 100) dX6_levelOf_100 (v := 4) (by decide) ?_
    exact sm_iret (pc := 101) dX6_levelOf_101 rfl
  refine sm_ite (fun e7 => ?_) (fun e7 => ?_)
  · refine sm_lku (pc := 1) (off := 95) (tgt := 96) dX6_levelOf_1 (by decide) (by rw [e7]; decide) (by decide) ?_
    refine sm_iconst (pc := 96) dX6_levelOf_96 (v := 2) (by decide) ?_
    exact sm_iret (pc := 97) dX6_levelOf_97 rfl
  refine sm_ite (fun e8 => ?_) (fun e8 => ?_)
  · refine sm_lku (pc := 1) (off := 95) (tgt := 96) dX6_levelOf_1 (by decide) (by rw [e8]; decide) (by decide) ?_
    refine sm_iconst (pc := 96) dX6_levelOf_96 (v := 2) (by decide) ?_
    exact sm_iret (pc := 97) dX6_levelOf_97 rfl
  refine sm_ite (fun e9 => ?_) (fun e9 => ?_)
  · refine sm_lku (pc := 1) (off := 95) (tgt := 96) dX6_levelOf_1 (by decide) (by rw [e9]; decide) (by decide) ?_
    refine sm_iconst (pc := 96) dX6_levelOf_96 (v := 2) (by decide) ?_
    exact sm_iret (pc := 97) dX6_levelOf_97 rfl
  refine sm_ite (fun e10 => ?_) (fun e10 => ?_)
  · refine sm_lku (pc := 1) (off := 91) (tgt := 92) dX6_levelOf_1 (by decide) (by rw [e10]; decide) (by decide) ?_
    refine sm_iconst (pc := 92) dX6_levelOf_92 (v := 0) (by decide) ?_
    exact sm_iret (pc := 93) dX6_levelOf_93 rfl
  replace e1 := am_ne (n := 37) (by decide) e1
  replace e2 := am_ne (n := 38) (by decide) e2
  replace e3 := am_ne (n := 42) (by decide) e3
  replace e4 := am_ne (n := 43) (by decide) e4
  replace e5 := am_ne (n := 45) (by decide) e5
  replace e6 := am_ne (n := 47) (by decide) e6
  replace e7 := am_ne (n := 60) (by decide) e7
  replace e8 := am_ne (n := 61) (by decide) e8
  replace e9 := am_ne (n := 62) (by decide) e9
  replace e10 := am_ne (n := 124) (by decide) e10
  refine sm_lku (pc := 1) (off := 101) (tgt := 102) dX6_levelOf_1 (by decide) (am_lkd _ _ _ (by simp only [List.all_cons, List.all_nil, Bool.and_true, Bool.and_eq_true, bne_iff_ne, ne_eq]; omega)) (by decide) ?_
  refine sm_iconst (pc := 102) dX6_levelOf_102 (v := -1) (by decide) ?_
  exact sm_iret (pc := 103) dX6_levelOf_103 rfl
theorem c_X6_levelOf (G : am_G) (l : Launch) (N : Nat) (a0 : Int32) (μ : am_M) : ct_P G l am_ci 0 me_X6_levelOf [.int a0] μ (f_X6_levelOf N a0 μ) := ct_of (by decide +kernel) (Nat.le_of_ble_eq_true rfl) rfl (p_X6_levelOf_0 G l 0 (Nat.le_refl _) N a0 μ)

def f_X6_readInside_0 (N : Nat) (g_X6_readInside : Int32 → am_M → Option (Int32 × am_M)) (g_X6_readLevel : Int32 → Int32 → am_M → Option (Int32 × am_M)) (g_X6_readOne : Int32 → am_M → Option (Int32 × am_M)) (g_X6_readSigned : Int32 → Int32 → am_M → Option (Int32 × am_M)) (a1 : Int32) (μ : am_M) : Option (Int32 × am_M) :=
am_bd (g_X6_readLevel (0 : Int32) a1 μ) (fun y2 μ1 => if y2 = 0 then (am_z (0 : Int32) μ1) else (am_bd (f_X6_here N μ1) (fun y4 μ3 => if y4 = (41 : Int32) then (am_nm (am_ui μ3 3 0 2 ((μ3.1 3 0 2) + (1 : Int32))) (fun μ5 => am_z (1 : Int32) μ5)) else (am_z (0 : Int32) μ3))))
def f_X6_readLevel_36 (N : Nat) (g_X6_readInside : Int32 → am_M → Option (Int32 × am_M)) (g_X6_readLevel : Int32 → Int32 → am_M → Option (Int32 × am_M)) (g_X6_readOne : Int32 → am_M → Option (Int32 × am_M)) (g_X6_readSigned : Int32 → Int32 → am_M → Option (Int32 × am_M)) (r_36 : Int32 → Int32 → Int32 → Int32 → Int32 → am_M → Option (Int32 × am_M)) (x1 : Int32) (x2 : Int32) (x3 : Int32) (x4 : Int32) (x5 : Int32) (μ : am_M) : Option (Int32 × am_M) :=
if x3 = 0 then (am_z x3 μ) else (if x4 ≤ x5 then (am_z x3 μ) else (am_bd (f_X6_here N μ) (fun y4 μ3 => am_bd (f_X6_levelOf N y4 μ3) (fun y6 μ5 => if y6 = x1 then (am_bd (f_X6_here N μ5) (fun y8 μ7 => am_nm (am_ui μ7 3 0 2 ((μ7.1 3 0 2) + (1 : Int32))) (fun μ9 => am_bd (g_X6_readLevel (x1 + (1 : Int32)) x2 μ9) (fun y11 μ10 => am_bd (f_X6_write N (-y8) μ10) (fun _ μ12 => r_36 x1 x2 y11 x4 (x5 + (1 : Int32)) μ12))))) else (am_z x3 μ5)))))
def f_X6_readLevel_36_lp (N : Nat) (g_X6_readInside : Int32 → am_M → Option (Int32 × am_M)) (g_X6_readLevel : Int32 → Int32 → am_M → Option (Int32 × am_M)) (g_X6_readOne : Int32 → am_M → Option (Int32 × am_M)) (g_X6_readSigned : Int32 → Int32 → am_M → Option (Int32 × am_M)) : Nat → Int32 → Int32 → Int32 → Int32 → Int32 → am_M → Option (Int32 × am_M)
  | 0, _, _, _, _, _, _ => none
  | n + 1, x1, x2, x3, x4, x5, μ => f_X6_readLevel_36 N g_X6_readInside g_X6_readLevel g_X6_readOne g_X6_readSigned (f_X6_readLevel_36_lp N g_X6_readInside g_X6_readLevel g_X6_readOne g_X6_readSigned n) x1 x2 x3 x4 x5 μ
def f_X6_readLevel_31 (N : Nat) (g_X6_readInside : Int32 → am_M → Option (Int32 × am_M)) (g_X6_readLevel : Int32 → Int32 → am_M → Option (Int32 × am_M)) (g_X6_readOne : Int32 → am_M → Option (Int32 × am_M)) (g_X6_readSigned : Int32 → Int32 → am_M → Option (Int32 × am_M)) (x1 : Int32) (x2 : Int32) (x3 : Int32) (s0 : Int32) (μ : am_M) : Option (Int32 × am_M) :=
f_X6_readLevel_36_lp N g_X6_readInside g_X6_readLevel g_X6_readOne g_X6_readSigned N x1 x2 x3 s0 (0 : Int32) μ
def f_X6_readLevel_0 (N : Nat) (g_X6_readInside : Int32 → am_M → Option (Int32 × am_M)) (g_X6_readLevel : Int32 → Int32 → am_M → Option (Int32 × am_M)) (g_X6_readOne : Int32 → am_M → Option (Int32 × am_M)) (g_X6_readSigned : Int32 → Int32 → am_M → Option (Int32 × am_M)) (a1 : Int32) (a2 : Int32) (μ : am_M) : Option (Int32 × am_M) :=
if a1 < (5 : Int32) then (am_bd (g_X6_readLevel (a1 + (1 : Int32)) a2 μ) (fun y2 μ1 => if a1 = (2 : Int32) then (f_X6_readLevel_31 N g_X6_readInside g_X6_readLevel g_X6_readOne g_X6_readSigned a1 a2 y2 (1 : Int32) μ1) else (f_X6_readLevel_31 N g_X6_readInside g_X6_readLevel g_X6_readOne g_X6_readSigned a1 a2 y2 (120 : Int32) μ1))) else (am_bd (g_X6_readOne a2 μ) (fun y14 μ13 => am_z y14 μ13))
def f_X6_readOne_65 (N : Nat) (g_X6_readInside : Int32 → am_M → Option (Int32 × am_M)) (g_X6_readLevel : Int32 → Int32 → am_M → Option (Int32 × am_M)) (g_X6_readOne : Int32 → am_M → Option (Int32 × am_M)) (g_X6_readSigned : Int32 → Int32 → am_M → Option (Int32 × am_M)) (x1 : Int32) (x2 : Int32) (μ : am_M) : Option (Int32 × am_M) :=
if x1 < (6 : Int32) then (am_nm (am_ui μ 3 0 2 ((μ.1 3 0 2) + (1 : Int32))) (fun μ7 => if x2 = (40 : Int32) then (am_bd (g_X6_readInside (x1 + (1 : Int32)) μ7) (fun y11 μ10 => am_z y11 μ10)) else (am_bd (g_X6_readSigned x2 (x1 + (1 : Int32)) μ7) (fun y9 μ8 => am_z y9 μ8)))) else (am_z (0 : Int32) μ)
def f_X6_readOne_0 (N : Nat) (g_X6_readInside : Int32 → am_M → Option (Int32 × am_M)) (g_X6_readLevel : Int32 → Int32 → am_M → Option (Int32 × am_M)) (g_X6_readOne : Int32 → am_M → Option (Int32 × am_M)) (g_X6_readSigned : Int32 → Int32 → am_M → Option (Int32 × am_M)) (a1 : Int32) (μ : am_M) : Option (Int32 × am_M) :=
am_bd (f_X6_here N μ) (fun y2 μ1 => am_bd (f_X9_isWithin N y2 (48 : Int32) (57 : Int32) μ1) (fun y4 μ3 => if y4 = 0 then (am_bd (f_X6_isName N y2 μ3) (fun y6 μ5 => if y6 = 0 then (if y2 = (33 : Int32) then (f_X6_readOne_65 N g_X6_readInside g_X6_readLevel g_X6_readOne g_X6_readSigned a1 y2 μ5) else (if y2 = (45 : Int32) then (f_X6_readOne_65 N g_X6_readInside g_X6_readLevel g_X6_readOne g_X6_readSigned a1 y2 μ5) else (if y2 = (40 : Int32) then (f_X6_readOne_65 N g_X6_readInside g_X6_readLevel g_X6_readOne g_X6_readSigned a1 y2 μ5) else (am_z (0 : Int32) μ5)))) else (am_nm (am_ui μ5 3 0 2 ((μ5.1 3 0 2) + (1 : Int32))) (fun μ12 => am_bd (f_X6_write N (-y2) μ12) (fun _ μ13 => am_z (1 : Int32) μ13))))) else (am_bd (f_X6_readNumber N μ3) (fun _ μ14 => am_z (1 : Int32) μ14))))
def f_X6_readSigned_20 (N : Nat) (g_X6_readInside : Int32 → am_M → Option (Int32 × am_M)) (g_X6_readLevel : Int32 → Int32 → am_M → Option (Int32 × am_M)) (g_X6_readOne : Int32 → am_M → Option (Int32 × am_M)) (g_X6_readSigned : Int32 → Int32 → am_M → Option (Int32 × am_M)) (x3 : Int32) (s0 : Int32) (μ : am_M) : Option (Int32 × am_M) :=
am_bd (f_X6_write N s0 μ) (fun _ μ3 => am_z x3 μ3)
def f_X6_readSigned_0 (N : Nat) (g_X6_readInside : Int32 → am_M → Option (Int32 × am_M)) (g_X6_readLevel : Int32 → Int32 → am_M → Option (Int32 × am_M)) (g_X6_readOne : Int32 → am_M → Option (Int32 × am_M)) (g_X6_readSigned : Int32 → Int32 → am_M → Option (Int32 × am_M)) (a1 : Int32) (a2 : Int32) (μ : am_M) : Option (Int32 × am_M) :=
am_bd (g_X6_readOne a2 μ) (fun y2 μ1 => if a1 = (45 : Int32) then (f_X6_readSigned_20 N g_X6_readInside g_X6_readLevel g_X6_readOne g_X6_readSigned y2 (-126 : Int32) μ1) else (f_X6_readSigned_20 N g_X6_readInside g_X6_readLevel g_X6_readOne g_X6_readSigned y2 (-a1) μ1))
def f_X6_readInside_g (N : Nat) : Nat → ((Int32 → am_M → Option (Int32 × am_M)) × (Int32 → Int32 → am_M → Option (Int32 × am_M)) × (Int32 → am_M → Option (Int32 × am_M)) × (Int32 → Int32 → am_M → Option (Int32 × am_M)))
  | 0 => (fun _ _ => none, fun _ _ _ => none, fun _ _ => none, fun _ _ _ => none)
  | D + 1 => (f_X6_readInside_0 N (f_X6_readInside_g N D).1 (f_X6_readInside_g N D).2.1 (f_X6_readInside_g N D).2.2.1 (f_X6_readInside_g N D).2.2.2, f_X6_readLevel_0 N (f_X6_readInside_g N D).1 (f_X6_readInside_g N D).2.1 (f_X6_readInside_g N D).2.2.1 (f_X6_readInside_g N D).2.2.2, f_X6_readOne_0 N (f_X6_readInside_g N D).1 (f_X6_readInside_g N D).2.1 (f_X6_readInside_g N D).2.2.1 (f_X6_readInside_g N D).2.2.2, f_X6_readSigned_0 N (f_X6_readInside_g N D).1 (f_X6_readInside_g N D).2.1 (f_X6_readInside_g N D).2.2.1 (f_X6_readInside_g N D).2.2.2)
def f_X6_readInside (N : Nat) (a1 : Int32) (μ : am_M) : Option (Int32 × am_M) := (f_X6_readInside_g N 100).1 a1 μ
def f_X6_readLevel (N : Nat) (a1 : Int32) (a2 : Int32) (μ : am_M) : Option (Int32 × am_M) := (f_X6_readInside_g N 100).2.1 a1 a2 μ
def f_X6_readOne (N : Nat) (a1 : Int32) (μ : am_M) : Option (Int32 × am_M) := (f_X6_readInside_g N 100).2.2.1 a1 μ
def f_X6_readSigned (N : Nat) (a1 : Int32) (a2 : Int32) (μ : am_M) : Option (Int32 × am_M) := (f_X6_readInside_g N 100).2.2.2 a1 a2 μ
set_option maxHeartbeats 4000000 in
set_option maxRecDepth 100000 in
theorem p_X6_readInside_0 (G : am_G) (l : Launch) (d : Nat) (hd0 : 2 ≤ d) (dd : Nat) (hdd : dd + 1 ≤ d) (N : Nat) (g_X6_readInside : Int32 → am_M → Option (Int32 × am_M)) (g_X6_readLevel : Int32 → Int32 → am_M → Option (Int32 × am_M)) (g_X6_readOne : Int32 → am_M → Option (Int32 × am_M)) (g_X6_readSigned : Int32 → Int32 → am_M → Option (Int32 × am_M)) (Hg_X6_readInside : ∀ (z0 : Int32) (μ : am_M), ct_P G l am_ci dd me_X6_readInside [.ref (am_ad G 3 0), .int z0] μ (g_X6_readInside z0 μ)) (Hg_X6_readLevel : ∀ (z0 : Int32) (z1 : Int32) (μ : am_M), ct_P G l am_ci dd me_X6_readLevel [.ref (am_ad G 3 0), .int z0, .int z1] μ (g_X6_readLevel z0 z1 μ)) (Hg_X6_readOne : ∀ (z0 : Int32) (μ : am_M), ct_P G l am_ci dd me_X6_readOne [.ref (am_ad G 3 0), .int z0] μ (g_X6_readOne z0 μ)) (Hg_X6_readSigned : ∀ (z0 : Int32) (z1 : Int32) (μ : am_M), ct_P G l am_ci dd me_X6_readSigned [.ref (am_ad G 3 0), .int z0, .int z1] μ (g_X6_readSigned z0 z1 μ)) (a1 : Int32) (μ : am_M) : sm_P G l am_ci d me_X6_readInside 0 [(0, .ref (am_ad G 3 0)), (1, .int a1)] [] μ (f_X6_readInside_0 N g_X6_readInside g_X6_readLevel g_X6_readOne g_X6_readSigned a1 μ) := by
  unfold f_X6_readInside_0
  refine sm_aload_n (pc := 0) dX6_readInside_0 rfl 0 rfl ?_
  refine sm_iconst (pc := 1) dX6_readInside_1 (v := 0) (by decide) ?_
  refine sm_iload_n (pc := 2) dX6_readInside_2 rfl 1 rfl ?_
  refine sm_callVi (pc := 3) (As := [.int (0 : Int32), .int a1]) (rest := []) dX6_readInside_3 (Hg_X6_readLevel (0 : Int32) a1 μ) (by omega) wl_X6_40 vm_X6_readLevel rfl rfl (Nat.le_of_ble_eq_true rfl) (fun y2 μ1 => ?_)
  refine sm_if_eq (pc := 6) (tgt := 18) dX6_readInside_6 (by decide) ?_ ?_
  · refine sm_iconst (pc := 18) dX6_readInside_18 (v := 0) (by decide) ?_
    exact sm_zret (pc := 19) dX6_readInside_19 rfl
  · refine sm_aload_n (pc := 9) dX6_readInside_9 rfl 0 rfl ?_
    refine sm_callVi (pc := 10) (As := []) (rest := []) dX6_readInside_10 (c_X6_here G l N μ1) (by omega) wl_X6_36 vm_X6_here rfl rfl (Nat.le_of_ble_eq_true rfl) (fun y4 μ3 => ?_)
    refine sm_bipush (pc := 13) dX6_readInside_13 (v := 41) (by decide) ?_
    refine sm_icmp_eq (pc := 15) (tgt := 20) dX6_readInside_15 (by decide) ?_ ?_
    · refine sm_aload_n (pc := 20) dX6_readInside_20 rfl 0 rfl ?_
      refine sm_dup (pc := 21) dX6_readInside_21 rfl ?_
      refine sm_geti (pc := 22) dX6_readInside_22 fi_X6_22 ?_
      refine sm_iconst (pc := 25) dX6_readInside_25 (v := 1) (by decide) ?_
      refine sm_iadd (pc := 26) dX6_readInside_26 ?_
      refine sm_puti (pc := 27) dX6_readInside_27 fi_X6_22 ?_
      refine sm_nmM (fun μ5 => ?_)
      refine sm_iconst (pc := 30) dX6_readInside_30 (v := 1) (by decide) ?_
      exact sm_zret (pc := 31) dX6_readInside_31 rfl
    · refine sm_iconst (pc := 18) dX6_readInside_18 (v := 0) (by decide) ?_
      exact sm_zret (pc := 19) dX6_readInside_19 rfl
set_option maxHeartbeats 4000000 in
set_option maxRecDepth 100000 in
theorem p_X6_readLevel_36 (G : am_G) (l : Launch) (d : Nat) (hd0 : 2 ≤ d) (dd : Nat) (hdd : dd + 1 ≤ d) (N : Nat) (g_X6_readInside : Int32 → am_M → Option (Int32 × am_M)) (g_X6_readLevel : Int32 → Int32 → am_M → Option (Int32 × am_M)) (g_X6_readOne : Int32 → am_M → Option (Int32 × am_M)) (g_X6_readSigned : Int32 → Int32 → am_M → Option (Int32 × am_M)) (r_36 : Int32 → Int32 → Int32 → Int32 → Int32 → am_M → Option (Int32 × am_M)) (Hg_X6_readInside : ∀ (z0 : Int32) (μ : am_M), ct_P G l am_ci dd me_X6_readInside [.ref (am_ad G 3 0), .int z0] μ (g_X6_readInside z0 μ)) (Hg_X6_readLevel : ∀ (z0 : Int32) (z1 : Int32) (μ : am_M), ct_P G l am_ci dd me_X6_readLevel [.ref (am_ad G 3 0), .int z0, .int z1] μ (g_X6_readLevel z0 z1 μ)) (Hg_X6_readOne : ∀ (z0 : Int32) (μ : am_M), ct_P G l am_ci dd me_X6_readOne [.ref (am_ad G 3 0), .int z0] μ (g_X6_readOne z0 μ)) (Hg_X6_readSigned : ∀ (z0 : Int32) (z1 : Int32) (μ : am_M), ct_P G l am_ci dd me_X6_readSigned [.ref (am_ad G 3 0), .int z0, .int z1] μ (g_X6_readSigned z0 z1 μ)) (H_36 : ∀ (x1 : Int32) (x2 : Int32) (x3 : Int32) (x4 : Int32) (x5 : Int32) (μ : am_M), sm_P G l am_ci d me_X6_readLevel 36 [(0, .ref (am_ad G 3 0)), (1, .int x1), (2, .int x2), (3, .int x3), (4, .int x4), (5, .int x5)] [] μ (r_36 x1 x2 x3 x4 x5 μ)) (x1 : Int32) (x2 : Int32) (x3 : Int32) (x4 : Int32) (x5 : Int32) (μ : am_M) : sm_P G l am_ci d me_X6_readLevel 36 [(0, .ref (am_ad G 3 0)), (1, .int x1), (2, .int x2), (3, .int x3), (4, .int x4), (5, .int x5)] [] μ (f_X6_readLevel_36 N g_X6_readInside g_X6_readLevel g_X6_readOne g_X6_readSigned r_36 x1 x2 x3 x4 x5 μ) := by
  unfold f_X6_readLevel_36
  refine sm_iload_n (pc := 36) dX6_readLevel_36 rfl 3 rfl ?_
  refine sm_if_eq (pc := 37) (tgt := 96) dX6_readLevel_37 (by decide) ?_ ?_
  · refine sm_iload_n (pc := 96) dX6_readLevel_96 rfl 3 rfl ?_
    exact sm_zret (pc := 97) dX6_readLevel_97 rfl
  · refine sm_iload (pc := 40) dX6_readLevel_40 5 rfl ?_
    refine sm_iload (pc := 42) dX6_readLevel_42 4 rfl ?_
    refine sm_icmp_ge (pc := 44) (tgt := 96) dX6_readLevel_44 (by decide) ?_ ?_
    · refine sm_iload_n (pc := 96) dX6_readLevel_96 rfl 3 rfl ?_
      exact sm_zret (pc := 97) dX6_readLevel_97 rfl
    · refine sm_aload_n (pc := 47) dX6_readLevel_47 rfl 0 rfl ?_
      refine sm_callVi (pc := 48) (As := []) (rest := []) dX6_readLevel_48 (c_X6_here G l N μ) (by omega) wl_X6_36 vm_X6_here rfl rfl (Nat.le_of_ble_eq_true rfl) (fun y4 μ3 => ?_)
      refine sm_callSi (pc := 51) (As := [.int y4]) (rest := []) dX6_readLevel_51 (c_X6_levelOf G l N y4 μ3) (by omega) wl_X6_52 st_X6_levelOf rfl rfl (Nat.le_of_ble_eq_true rfl) (fun y6 μ5 => ?_)
      refine sm_iload_n (pc := 54) dX6_readLevel_54 rfl 1 rfl ?_
      refine sm_icmp_ne (pc := 55) (tgt := 96) dX6_readLevel_55 (by decide) ?_ ?_
      · refine sm_iload_n (pc := 96) dX6_readLevel_96 rfl 3 rfl ?_
        exact sm_zret (pc := 97) dX6_readLevel_97 rfl
      · refine sm_aload_n (pc := 58) dX6_readLevel_58 rfl 0 rfl ?_
        refine sm_callVi (pc := 59) (As := []) (rest := []) dX6_readLevel_59 (c_X6_here G l N μ5) (by omega) wl_X6_36 vm_X6_here rfl rfl (Nat.le_of_ble_eq_true rfl) (fun y8 μ7 => ?_)
        refine sm_istore (pc := 62) (lv' := [(6, .int y8), (0, .ref (am_ad G 3 0)), (1, .int x1), (2, .int x2), (3, .int x3), (4, .int x4), (5, .int x5)]) dX6_readLevel_62 (by decide) rfl ?_
        refine sm_aload_n (pc := 64) dX6_readLevel_64 rfl 1 rfl ?_
        refine sm_dup (pc := 65) dX6_readLevel_65 rfl ?_
        refine sm_geti (pc := 66) dX6_readLevel_66 fi_X6_22 ?_
        refine sm_iconst (pc := 69) dX6_readLevel_69 (v := 1) (by decide) ?_
        refine sm_iadd (pc := 70) dX6_readLevel_70 ?_
        refine sm_puti (pc := 71) dX6_readLevel_71 fi_X6_22 ?_
        refine sm_nmM (fun μ9 => ?_)
        refine sm_aload_n (pc := 74) dX6_readLevel_74 rfl 1 rfl ?_
        refine sm_iload_n (pc := 75) dX6_readLevel_75 rfl 2 rfl ?_
        refine sm_iconst (pc := 76) dX6_readLevel_76 (v := 1) (by decide) ?_
        refine sm_iadd (pc := 77) dX6_readLevel_77 ?_
        refine sm_iload_n (pc := 78) dX6_readLevel_78 rfl 3 rfl ?_
        refine sm_callVi (pc := 79) (As := [.int (x1 + (1 : Int32)), .int x2]) (rest := []) dX6_readLevel_79 (Hg_X6_readLevel (x1 + (1 : Int32)) x2 μ9) (by omega) wl_X6_40 vm_X6_readLevel rfl rfl (Nat.le_of_ble_eq_true rfl) (fun y11 μ10 => ?_)
        refine sm_istore_n (pc := 82) (lv' := [(3, .int y11), (6, .int y8), (0, .ref (am_ad G 3 0)), (1, .int x1), (2, .int x2), (4, .int x4), (5, .int x5)]) dX6_readLevel_82 rfl (by decide) rfl ?_
        refine sm_aload_n (pc := 83) dX6_readLevel_83 rfl 2 rfl ?_
        refine sm_iload (pc := 84) dX6_readLevel_84 1 rfl ?_
        refine sm_ineg (pc := 86) dX6_readLevel_86 ?_
        refine sm_callVv (pc := 87) (As := [.int (-y8)]) (rest := []) dX6_readLevel_87 (c_X6_write G l N (-y8) μ10) (by omega) wl_X6_44 vm_X6_write rfl rfl (Nat.le_of_ble_eq_true rfl) (fun _ μ12 => ?_)
        refine sm_iinc (pc := 90) (v := (x5 + (1 : Int32))) (lv' := [(5, .int (x5 + (1 : Int32))), (3, .int y11), (6, .int y8), (0, .ref (am_ad G 3 0)), (1, .int x1), (2, .int x2), (4, .int x4)]) dX6_readLevel_90 6 rfl rfl (by decide) rfl ?_
        refine sm_goto (pc := 93) (tgt := 36) dX6_readLevel_93 (by decide) ?_
        refine sm_sub [3, 4, 5, 1, 6, 0] rfl ?_
        exact H_36 x1 x2 y11 x4 (x5 + (1 : Int32)) μ12
theorem p_X6_readLevel_36_lp (G : am_G) (l : Launch) (d : Nat) (hd0 : 2 ≤ d) (dd : Nat) (hdd : dd + 1 ≤ d) (N : Nat) (g_X6_readInside : Int32 → am_M → Option (Int32 × am_M)) (g_X6_readLevel : Int32 → Int32 → am_M → Option (Int32 × am_M)) (g_X6_readOne : Int32 → am_M → Option (Int32 × am_M)) (g_X6_readSigned : Int32 → Int32 → am_M → Option (Int32 × am_M)) (Hg_X6_readInside : ∀ (z0 : Int32) (μ : am_M), ct_P G l am_ci dd me_X6_readInside [.ref (am_ad G 3 0), .int z0] μ (g_X6_readInside z0 μ)) (Hg_X6_readLevel : ∀ (z0 : Int32) (z1 : Int32) (μ : am_M), ct_P G l am_ci dd me_X6_readLevel [.ref (am_ad G 3 0), .int z0, .int z1] μ (g_X6_readLevel z0 z1 μ)) (Hg_X6_readOne : ∀ (z0 : Int32) (μ : am_M), ct_P G l am_ci dd me_X6_readOne [.ref (am_ad G 3 0), .int z0] μ (g_X6_readOne z0 μ)) (Hg_X6_readSigned : ∀ (z0 : Int32) (z1 : Int32) (μ : am_M), ct_P G l am_ci dd me_X6_readSigned [.ref (am_ad G 3 0), .int z0, .int z1] μ (g_X6_readSigned z0 z1 μ)) : ∀ (n : Nat) (x1 : Int32) (x2 : Int32) (x3 : Int32) (x4 : Int32) (x5 : Int32) (μ : am_M), sm_P G l am_ci d me_X6_readLevel 36 [(0, .ref (am_ad G 3 0)), (1, .int x1), (2, .int x2), (3, .int x3), (4, .int x4), (5, .int x5)] [] μ (f_X6_readLevel_36_lp N g_X6_readInside g_X6_readLevel g_X6_readOne g_X6_readSigned n x1 x2 x3 x4 x5 μ) := by
  intro n
  induction n with
  | zero => intros; exact sm_none
  | succ n ih => exact fun x1 x2 x3 x4 x5 μ => p_X6_readLevel_36 G l d hd0 dd hdd N g_X6_readInside g_X6_readLevel g_X6_readOne g_X6_readSigned (f_X6_readLevel_36_lp N g_X6_readInside g_X6_readLevel g_X6_readOne g_X6_readSigned n) Hg_X6_readInside Hg_X6_readLevel Hg_X6_readOne Hg_X6_readSigned ih x1 x2 x3 x4 x5 μ
set_option maxHeartbeats 4000000 in
set_option maxRecDepth 100000 in
theorem p_X6_readLevel_31 (G : am_G) (l : Launch) (d : Nat) (hd0 : 2 ≤ d) (dd : Nat) (hdd : dd + 1 ≤ d) (N : Nat) (g_X6_readInside : Int32 → am_M → Option (Int32 × am_M)) (g_X6_readLevel : Int32 → Int32 → am_M → Option (Int32 × am_M)) (g_X6_readOne : Int32 → am_M → Option (Int32 × am_M)) (g_X6_readSigned : Int32 → Int32 → am_M → Option (Int32 × am_M)) (Hg_X6_readInside : ∀ (z0 : Int32) (μ : am_M), ct_P G l am_ci dd me_X6_readInside [.ref (am_ad G 3 0), .int z0] μ (g_X6_readInside z0 μ)) (Hg_X6_readLevel : ∀ (z0 : Int32) (z1 : Int32) (μ : am_M), ct_P G l am_ci dd me_X6_readLevel [.ref (am_ad G 3 0), .int z0, .int z1] μ (g_X6_readLevel z0 z1 μ)) (Hg_X6_readOne : ∀ (z0 : Int32) (μ : am_M), ct_P G l am_ci dd me_X6_readOne [.ref (am_ad G 3 0), .int z0] μ (g_X6_readOne z0 μ)) (Hg_X6_readSigned : ∀ (z0 : Int32) (z1 : Int32) (μ : am_M), ct_P G l am_ci dd me_X6_readSigned [.ref (am_ad G 3 0), .int z0, .int z1] μ (g_X6_readSigned z0 z1 μ)) (x1 : Int32) (x2 : Int32) (x3 : Int32) (s0 : Int32) (μ : am_M) : sm_P G l am_ci d me_X6_readLevel 31 [(0, .ref (am_ad G 3 0)), (1, .int x1), (2, .int x2), (3, .int x3)] [.int s0] μ (f_X6_readLevel_31 N g_X6_readInside g_X6_readLevel g_X6_readOne g_X6_readSigned x1 x2 x3 s0 μ) := by
  unfold f_X6_readLevel_31
  refine sm_istore (pc := 31) (lv' := [(4, .int s0), (0, .ref (am_ad G 3 0)), (1, .int x1), (2, .int x2), (3, .int x3)]) dX6_readLevel_31 (by decide) rfl ?_
  refine sm_iconst (pc := 33) dX6_readLevel_33 (v := 0) (by decide) ?_
  refine sm_istore (pc := 34) (lv' := [(5, .int (0 : Int32)), (4, .int s0), (0, .ref (am_ad G 3 0)), (1, .int x1), (2, .int x2), (3, .int x3)]) dX6_readLevel_34 (by decide) rfl ?_
  refine sm_sub [2, 3, 4, 5, 1, 0] rfl ?_
  exact p_X6_readLevel_36_lp G l d hd0 dd hdd N g_X6_readInside g_X6_readLevel g_X6_readOne g_X6_readSigned Hg_X6_readInside Hg_X6_readLevel Hg_X6_readOne Hg_X6_readSigned N x1 x2 x3 s0 (0 : Int32) μ
set_option maxHeartbeats 4000000 in
set_option maxRecDepth 100000 in
theorem p_X6_readLevel_0 (G : am_G) (l : Launch) (d : Nat) (hd0 : 2 ≤ d) (dd : Nat) (hdd : dd + 1 ≤ d) (N : Nat) (g_X6_readInside : Int32 → am_M → Option (Int32 × am_M)) (g_X6_readLevel : Int32 → Int32 → am_M → Option (Int32 × am_M)) (g_X6_readOne : Int32 → am_M → Option (Int32 × am_M)) (g_X6_readSigned : Int32 → Int32 → am_M → Option (Int32 × am_M)) (Hg_X6_readInside : ∀ (z0 : Int32) (μ : am_M), ct_P G l am_ci dd me_X6_readInside [.ref (am_ad G 3 0), .int z0] μ (g_X6_readInside z0 μ)) (Hg_X6_readLevel : ∀ (z0 : Int32) (z1 : Int32) (μ : am_M), ct_P G l am_ci dd me_X6_readLevel [.ref (am_ad G 3 0), .int z0, .int z1] μ (g_X6_readLevel z0 z1 μ)) (Hg_X6_readOne : ∀ (z0 : Int32) (μ : am_M), ct_P G l am_ci dd me_X6_readOne [.ref (am_ad G 3 0), .int z0] μ (g_X6_readOne z0 μ)) (Hg_X6_readSigned : ∀ (z0 : Int32) (z1 : Int32) (μ : am_M), ct_P G l am_ci dd me_X6_readSigned [.ref (am_ad G 3 0), .int z0, .int z1] μ (g_X6_readSigned z0 z1 μ)) (a1 : Int32) (a2 : Int32) (μ : am_M) : sm_P G l am_ci d me_X6_readLevel 0 [(0, .ref (am_ad G 3 0)), (1, .int a1), (2, .int a2)] [] μ (f_X6_readLevel_0 N g_X6_readInside g_X6_readLevel g_X6_readOne g_X6_readSigned a1 a2 μ) := by
  unfold f_X6_readLevel_0
  refine sm_iload_n (pc := 0) dX6_readLevel_0 rfl 1 rfl ?_
  refine sm_iconst (pc := 1) dX6_readLevel_1 (v := 5) (by decide) ?_
  refine sm_icmp_lt (pc := 2) (tgt := 11) dX6_readLevel_2 (by decide) ?_ ?_
  · refine sm_aload_n (pc := 11) dX6_readLevel_11 rfl 0 rfl ?_
    refine sm_iload_n (pc := 12) dX6_readLevel_12 rfl 1 rfl ?_
    refine sm_iconst (pc := 13) dX6_readLevel_13 (v := 1) (by decide) ?_
    refine sm_iadd (pc := 14) dX6_readLevel_14 ?_
    refine sm_iload_n (pc := 15) dX6_readLevel_15 rfl 2 rfl ?_
    refine sm_callVi (pc := 16) (As := [.int (a1 + (1 : Int32)), .int a2]) (rest := []) dX6_readLevel_16 (Hg_X6_readLevel (a1 + (1 : Int32)) a2 μ) (by omega) wl_X6_40 vm_X6_readLevel rfl rfl (Nat.le_of_ble_eq_true rfl) (fun y2 μ1 => ?_)
    refine sm_istore_n (pc := 19) (lv' := [(3, .int y2), (0, .ref (am_ad G 3 0)), (1, .int a1), (2, .int a2)]) dX6_readLevel_19 rfl (by decide) rfl ?_
    refine sm_iload_n (pc := 20) dX6_readLevel_20 rfl 2 rfl ?_
    refine sm_iconst (pc := 21) dX6_readLevel_21 (v := 2) (by decide) ?_
    refine sm_icmp_ne (pc := 22) (tgt := 29) dX6_readLevel_22 (by decide) ?_ ?_
    · refine sm_bipush (pc := 29) dX6_readLevel_29 (v := 120) (by decide) ?_
      refine sm_sub [1, 2, 3, 0] rfl ?_
      exact p_X6_readLevel_31 G l d hd0 dd hdd N g_X6_readInside g_X6_readLevel g_X6_readOne g_X6_readSigned Hg_X6_readInside Hg_X6_readLevel Hg_X6_readOne Hg_X6_readSigned a1 a2 y2 (120 : Int32) μ1
    · refine sm_iconst (pc := 25) dX6_readLevel_25 (v := 1) (by decide) ?_
      refine sm_goto (pc := 26) (tgt := 31) dX6_readLevel_26 (by decide) ?_
      refine sm_sub [1, 2, 3, 0] rfl ?_
      exact p_X6_readLevel_31 G l d hd0 dd hdd N g_X6_readInside g_X6_readLevel g_X6_readOne g_X6_readSigned Hg_X6_readInside Hg_X6_readLevel Hg_X6_readOne Hg_X6_readSigned a1 a2 y2 (1 : Int32) μ1
  · refine sm_aload_n (pc := 5) dX6_readLevel_5 rfl 0 rfl ?_
    refine sm_iload_n (pc := 6) dX6_readLevel_6 rfl 2 rfl ?_
    refine sm_callVi (pc := 7) (As := [.int a2]) (rest := []) dX6_readLevel_7 (Hg_X6_readOne a2 μ) (by omega) wl_X6_48 vm_X6_readOne rfl rfl (Nat.le_of_ble_eq_true rfl) (fun y14 μ13 => ?_)
    exact sm_zret (pc := 10) dX6_readLevel_10 rfl
set_option maxHeartbeats 4000000 in
set_option maxRecDepth 100000 in
theorem p_X6_readOne_65 (G : am_G) (l : Launch) (d : Nat) (hd0 : 2 ≤ d) (dd : Nat) (hdd : dd + 1 ≤ d) (N : Nat) (g_X6_readInside : Int32 → am_M → Option (Int32 × am_M)) (g_X6_readLevel : Int32 → Int32 → am_M → Option (Int32 × am_M)) (g_X6_readOne : Int32 → am_M → Option (Int32 × am_M)) (g_X6_readSigned : Int32 → Int32 → am_M → Option (Int32 × am_M)) (Hg_X6_readInside : ∀ (z0 : Int32) (μ : am_M), ct_P G l am_ci dd me_X6_readInside [.ref (am_ad G 3 0), .int z0] μ (g_X6_readInside z0 μ)) (Hg_X6_readLevel : ∀ (z0 : Int32) (z1 : Int32) (μ : am_M), ct_P G l am_ci dd me_X6_readLevel [.ref (am_ad G 3 0), .int z0, .int z1] μ (g_X6_readLevel z0 z1 μ)) (Hg_X6_readOne : ∀ (z0 : Int32) (μ : am_M), ct_P G l am_ci dd me_X6_readOne [.ref (am_ad G 3 0), .int z0] μ (g_X6_readOne z0 μ)) (Hg_X6_readSigned : ∀ (z0 : Int32) (z1 : Int32) (μ : am_M), ct_P G l am_ci dd me_X6_readSigned [.ref (am_ad G 3 0), .int z0, .int z1] μ (g_X6_readSigned z0 z1 μ)) (x1 : Int32) (x2 : Int32) (μ : am_M) : sm_P G l am_ci d me_X6_readOne 65 [(0, .ref (am_ad G 3 0)), (1, .int x1), (2, .int x2)] [] μ (f_X6_readOne_65 N g_X6_readInside g_X6_readLevel g_X6_readOne g_X6_readSigned x1 x2 μ) := by
  unfold f_X6_readOne_65
  refine sm_iload_n (pc := 65) dX6_readOne_65 rfl 1 rfl ?_
  refine sm_bipush (pc := 66) dX6_readOne_66 (v := 6) (by decide) ?_
  refine sm_icmp_lt (pc := 68) (tgt := 73) dX6_readOne_68 (by decide) ?_ ?_
  · refine sm_aload_n (pc := 73) dX6_readOne_73 rfl 0 rfl ?_
    refine sm_dup (pc := 74) dX6_readOne_74 rfl ?_
    refine sm_geti (pc := 75) dX6_readOne_75 fi_X6_22 ?_
    refine sm_iconst (pc := 78) dX6_readOne_78 (v := 1) (by decide) ?_
    refine sm_iadd (pc := 79) dX6_readOne_79 ?_
    refine sm_puti (pc := 80) dX6_readOne_80 fi_X6_22 ?_
    refine sm_nmM (fun μ7 => ?_)
    refine sm_iload_n (pc := 83) dX6_readOne_83 rfl 2 rfl ?_
    refine sm_bipush (pc := 84) dX6_readOne_84 (v := 40) (by decide) ?_
    refine sm_icmp_ne (pc := 86) (tgt := 99) dX6_readOne_86 (by decide) ?_ ?_
    · refine sm_aload_n (pc := 99) dX6_readOne_99 rfl 0 rfl ?_
      refine sm_iload_n (pc := 100) dX6_readOne_100 rfl 2 rfl ?_
      refine sm_iload_n (pc := 101) dX6_readOne_101 rfl 1 rfl ?_
      refine sm_iconst (pc := 102) dX6_readOne_102 (v := 1) (by decide) ?_
      refine sm_iadd (pc := 103) dX6_readOne_103 ?_
      refine sm_callVi (pc := 104) (As := [.int x2, .int (x1 + (1 : Int32))]) (rest := []) dX6_readOne_104 (Hg_X6_readSigned x2 (x1 + (1 : Int32)) μ7) (by omega) wl_X6_65 vm_X6_readSigned rfl rfl (Nat.le_of_ble_eq_true rfl) (fun y9 μ8 => ?_)
      exact sm_zret (pc := 107) dX6_readOne_107 rfl
    · refine sm_aload_n (pc := 89) dX6_readOne_89 rfl 0 rfl ?_
      refine sm_iload_n (pc := 90) dX6_readOne_90 rfl 1 rfl ?_
      refine sm_iconst (pc := 91) dX6_readOne_91 (v := 1) (by decide) ?_
      refine sm_iadd (pc := 92) dX6_readOne_92 ?_
      refine sm_callVi (pc := 93) (As := [.int (x1 + (1 : Int32))]) (rest := []) dX6_readOne_93 (Hg_X6_readInside (x1 + (1 : Int32)) μ7) (by omega) wl_X6_62 vm_X6_readInside rfl rfl (Nat.le_of_ble_eq_true rfl) (fun y11 μ10 => ?_)
      refine sm_goto (pc := 96) (tgt := 107) dX6_readOne_96 (by decide) ?_
      exact sm_zret (pc := 107) dX6_readOne_107 rfl
  · refine sm_iconst (pc := 71) dX6_readOne_71 (v := 0) (by decide) ?_
    exact sm_zret (pc := 72) dX6_readOne_72 rfl
set_option maxHeartbeats 4000000 in
set_option maxRecDepth 100000 in
theorem p_X6_readOne_0 (G : am_G) (l : Launch) (d : Nat) (hd0 : 2 ≤ d) (dd : Nat) (hdd : dd + 1 ≤ d) (N : Nat) (g_X6_readInside : Int32 → am_M → Option (Int32 × am_M)) (g_X6_readLevel : Int32 → Int32 → am_M → Option (Int32 × am_M)) (g_X6_readOne : Int32 → am_M → Option (Int32 × am_M)) (g_X6_readSigned : Int32 → Int32 → am_M → Option (Int32 × am_M)) (Hg_X6_readInside : ∀ (z0 : Int32) (μ : am_M), ct_P G l am_ci dd me_X6_readInside [.ref (am_ad G 3 0), .int z0] μ (g_X6_readInside z0 μ)) (Hg_X6_readLevel : ∀ (z0 : Int32) (z1 : Int32) (μ : am_M), ct_P G l am_ci dd me_X6_readLevel [.ref (am_ad G 3 0), .int z0, .int z1] μ (g_X6_readLevel z0 z1 μ)) (Hg_X6_readOne : ∀ (z0 : Int32) (μ : am_M), ct_P G l am_ci dd me_X6_readOne [.ref (am_ad G 3 0), .int z0] μ (g_X6_readOne z0 μ)) (Hg_X6_readSigned : ∀ (z0 : Int32) (z1 : Int32) (μ : am_M), ct_P G l am_ci dd me_X6_readSigned [.ref (am_ad G 3 0), .int z0, .int z1] μ (g_X6_readSigned z0 z1 μ)) (a1 : Int32) (μ : am_M) : sm_P G l am_ci d me_X6_readOne 0 [(0, .ref (am_ad G 3 0)), (1, .int a1)] [] μ (f_X6_readOne_0 N g_X6_readInside g_X6_readLevel g_X6_readOne g_X6_readSigned a1 μ) := by
  unfold f_X6_readOne_0
  refine sm_aload_n (pc := 0) dX6_readOne_0 rfl 0 rfl ?_
  refine sm_callVi (pc := 1) (As := []) (rest := []) dX6_readOne_1 (c_X6_here G l N μ) (by omega) wl_X6_36 vm_X6_here rfl rfl (Nat.le_of_ble_eq_true rfl) (fun y2 μ1 => ?_)
  refine sm_istore_n (pc := 4) (lv' := [(2, .int y2), (0, .ref (am_ad G 3 0)), (1, .int a1)]) dX6_readOne_4 rfl (by decide) rfl ?_
  refine sm_iload_n (pc := 5) dX6_readOne_5 rfl 0 rfl ?_
  refine sm_bipush (pc := 6) dX6_readOne_6 (v := 48) (by decide) ?_
  refine sm_bipush (pc := 8) dX6_readOne_8 (v := 57) (by decide) ?_
  refine sm_callNi (pc := 10) (As := [.int y2, .int (48 : Int32), .int (57 : Int32)]) (rest := []) dX6_readOne_10 (c_X9_isWithin G l N y2 (48 : Int32) (57 : Int32) μ1) (by omega) wl_X6_28 st_X9_isWithin rfl rfl (Nat.le_of_ble_eq_true rfl) (fun y4 μ3 => ?_)
  refine sm_if_eq (pc := 13) (tgt := 22) dX6_readOne_13 (by decide) ?_ ?_
  · refine sm_iload_n (pc := 22) dX6_readOne_22 rfl 0 rfl ?_
    refine sm_callSi (pc := 23) (As := [.int y2]) (rest := []) dX6_readOne_23 (c_X6_isName G l N y2 μ3) (by omega) wl_X6_59 st_X6_isName rfl rfl (Nat.le_of_ble_eq_true rfl) (fun y6 μ5 => ?_)
    refine sm_if_eq (pc := 26) (tgt := 47) dX6_readOne_26 (by decide) ?_ ?_
    · refine sm_iload_n (pc := 47) dX6_readOne_47 rfl 0 rfl ?_
      refine sm_bipush (pc := 48) dX6_readOne_48 (v := 33) (by decide) ?_
      refine sm_icmp_eq (pc := 50) (tgt := 65) dX6_readOne_50 (by decide) ?_ ?_
      · refine sm_sub [1, 2, 0] rfl ?_
        exact p_X6_readOne_65 G l d hd0 dd hdd N g_X6_readInside g_X6_readLevel g_X6_readOne g_X6_readSigned Hg_X6_readInside Hg_X6_readLevel Hg_X6_readOne Hg_X6_readSigned a1 y2 μ5
      · refine sm_iload_n (pc := 53) dX6_readOne_53 rfl 0 rfl ?_
        refine sm_bipush (pc := 54) dX6_readOne_54 (v := 45) (by decide) ?_
        refine sm_icmp_eq (pc := 56) (tgt := 65) dX6_readOne_56 (by decide) ?_ ?_
        · refine sm_sub [1, 2, 0] rfl ?_
          exact p_X6_readOne_65 G l d hd0 dd hdd N g_X6_readInside g_X6_readLevel g_X6_readOne g_X6_readSigned Hg_X6_readInside Hg_X6_readLevel Hg_X6_readOne Hg_X6_readSigned a1 y2 μ5
        · refine sm_iload_n (pc := 59) dX6_readOne_59 rfl 0 rfl ?_
          refine sm_bipush (pc := 60) dX6_readOne_60 (v := 40) (by decide) ?_
          refine sm_icmp_ne (pc := 62) (tgt := 71) dX6_readOne_62 (by decide) ?_ ?_
          · refine sm_iconst (pc := 71) dX6_readOne_71 (v := 0) (by decide) ?_
            exact sm_zret (pc := 72) dX6_readOne_72 rfl
          · refine sm_sub [1, 2, 0] rfl ?_
            exact p_X6_readOne_65 G l d hd0 dd hdd N g_X6_readInside g_X6_readLevel g_X6_readOne g_X6_readSigned Hg_X6_readInside Hg_X6_readLevel Hg_X6_readOne Hg_X6_readSigned a1 y2 μ5
    · refine sm_aload_n (pc := 29) dX6_readOne_29 rfl 1 rfl ?_
      refine sm_dup (pc := 30) dX6_readOne_30 rfl ?_
      refine sm_geti (pc := 31) dX6_readOne_31 fi_X6_22 ?_
      refine sm_iconst (pc := 34) dX6_readOne_34 (v := 1) (by decide) ?_
      refine sm_iadd (pc := 35) dX6_readOne_35 ?_
      refine sm_puti (pc := 36) dX6_readOne_36 fi_X6_22 ?_
      refine sm_nmM (fun μ12 => ?_)
      refine sm_aload_n (pc := 39) dX6_readOne_39 rfl 1 rfl ?_
      refine sm_iload_n (pc := 40) dX6_readOne_40 rfl 0 rfl ?_
      refine sm_ineg (pc := 41) dX6_readOne_41 ?_
      refine sm_callVv (pc := 42) (As := [.int (-y2)]) (rest := []) dX6_readOne_42 (c_X6_write G l N (-y2) μ12) (by omega) wl_X6_44 vm_X6_write rfl rfl (Nat.le_of_ble_eq_true rfl) (fun _ μ13 => ?_)
      refine sm_iconst (pc := 45) dX6_readOne_45 (v := 1) (by decide) ?_
      exact sm_zret (pc := 46) dX6_readOne_46 rfl
  · refine sm_aload_n (pc := 16) dX6_readOne_16 rfl 1 rfl ?_
    refine sm_callVv (pc := 17) (As := []) (rest := []) dX6_readOne_17 (c_X6_readNumber G l N μ3) (by omega) wl_X6_56 vm_X6_readNumber rfl rfl (Nat.le_of_ble_eq_true rfl) (fun _ μ14 => ?_)
    refine sm_iconst (pc := 20) dX6_readOne_20 (v := 1) (by decide) ?_
    exact sm_zret (pc := 21) dX6_readOne_21 rfl
set_option maxHeartbeats 4000000 in
set_option maxRecDepth 100000 in
theorem p_X6_readSigned_20 (G : am_G) (l : Launch) (d : Nat) (hd0 : 2 ≤ d) (dd : Nat) (hdd : dd + 1 ≤ d) (N : Nat) (g_X6_readInside : Int32 → am_M → Option (Int32 × am_M)) (g_X6_readLevel : Int32 → Int32 → am_M → Option (Int32 × am_M)) (g_X6_readOne : Int32 → am_M → Option (Int32 × am_M)) (g_X6_readSigned : Int32 → Int32 → am_M → Option (Int32 × am_M)) (Hg_X6_readInside : ∀ (z0 : Int32) (μ : am_M), ct_P G l am_ci dd me_X6_readInside [.ref (am_ad G 3 0), .int z0] μ (g_X6_readInside z0 μ)) (Hg_X6_readLevel : ∀ (z0 : Int32) (z1 : Int32) (μ : am_M), ct_P G l am_ci dd me_X6_readLevel [.ref (am_ad G 3 0), .int z0, .int z1] μ (g_X6_readLevel z0 z1 μ)) (Hg_X6_readOne : ∀ (z0 : Int32) (μ : am_M), ct_P G l am_ci dd me_X6_readOne [.ref (am_ad G 3 0), .int z0] μ (g_X6_readOne z0 μ)) (Hg_X6_readSigned : ∀ (z0 : Int32) (z1 : Int32) (μ : am_M), ct_P G l am_ci dd me_X6_readSigned [.ref (am_ad G 3 0), .int z0, .int z1] μ (g_X6_readSigned z0 z1 μ)) (x3 : Int32) (s0 : Int32) (μ : am_M) : sm_P G l am_ci d me_X6_readSigned 20 [(0, .ref (am_ad G 3 0)), (3, .int x3)] [.int s0, .ref (am_ad G 3 0)] μ (f_X6_readSigned_20 N g_X6_readInside g_X6_readLevel g_X6_readOne g_X6_readSigned x3 s0 μ) := by
  unfold f_X6_readSigned_20
  refine sm_callVv (pc := 20) (As := [.int s0]) (rest := []) dX6_readSigned_20 (c_X6_write G l N s0 μ) (by omega) wl_X6_44 vm_X6_write rfl rfl (Nat.le_of_ble_eq_true rfl) (fun _ μ3 => ?_)
  refine sm_iload_n (pc := 23) dX6_readSigned_23 rfl 1 rfl ?_
  exact sm_zret (pc := 24) dX6_readSigned_24 rfl
set_option maxHeartbeats 4000000 in
set_option maxRecDepth 100000 in
theorem p_X6_readSigned_0 (G : am_G) (l : Launch) (d : Nat) (hd0 : 2 ≤ d) (dd : Nat) (hdd : dd + 1 ≤ d) (N : Nat) (g_X6_readInside : Int32 → am_M → Option (Int32 × am_M)) (g_X6_readLevel : Int32 → Int32 → am_M → Option (Int32 × am_M)) (g_X6_readOne : Int32 → am_M → Option (Int32 × am_M)) (g_X6_readSigned : Int32 → Int32 → am_M → Option (Int32 × am_M)) (Hg_X6_readInside : ∀ (z0 : Int32) (μ : am_M), ct_P G l am_ci dd me_X6_readInside [.ref (am_ad G 3 0), .int z0] μ (g_X6_readInside z0 μ)) (Hg_X6_readLevel : ∀ (z0 : Int32) (z1 : Int32) (μ : am_M), ct_P G l am_ci dd me_X6_readLevel [.ref (am_ad G 3 0), .int z0, .int z1] μ (g_X6_readLevel z0 z1 μ)) (Hg_X6_readOne : ∀ (z0 : Int32) (μ : am_M), ct_P G l am_ci dd me_X6_readOne [.ref (am_ad G 3 0), .int z0] μ (g_X6_readOne z0 μ)) (Hg_X6_readSigned : ∀ (z0 : Int32) (z1 : Int32) (μ : am_M), ct_P G l am_ci dd me_X6_readSigned [.ref (am_ad G 3 0), .int z0, .int z1] μ (g_X6_readSigned z0 z1 μ)) (a1 : Int32) (a2 : Int32) (μ : am_M) : sm_P G l am_ci d me_X6_readSigned 0 [(0, .ref (am_ad G 3 0)), (1, .int a1), (2, .int a2)] [] μ (f_X6_readSigned_0 N g_X6_readInside g_X6_readLevel g_X6_readOne g_X6_readSigned a1 a2 μ) := by
  unfold f_X6_readSigned_0
  refine sm_aload_n (pc := 0) dX6_readSigned_0 rfl 0 rfl ?_
  refine sm_iload_n (pc := 1) dX6_readSigned_1 rfl 2 rfl ?_
  refine sm_callVi (pc := 2) (As := [.int a2]) (rest := []) dX6_readSigned_2 (Hg_X6_readOne a2 μ) (by omega) wl_X6_48 vm_X6_readOne rfl rfl (Nat.le_of_ble_eq_true rfl) (fun y2 μ1 => ?_)
  refine sm_istore_n (pc := 5) (lv' := [(3, .int y2), (0, .ref (am_ad G 3 0)), (1, .int a1), (2, .int a2)]) dX6_readSigned_5 rfl (by decide) rfl ?_
  refine sm_aload_n (pc := 6) dX6_readSigned_6 rfl 1 rfl ?_
  refine sm_iload_n (pc := 7) dX6_readSigned_7 rfl 2 rfl ?_
  refine sm_bipush (pc := 8) dX6_readSigned_8 (v := 45) (by decide) ?_
  refine sm_icmp_ne (pc := 10) (tgt := 18) dX6_readSigned_10 (by decide) ?_ ?_
  · refine sm_iload_n (pc := 18) dX6_readSigned_18 rfl 2 rfl ?_
    refine sm_ineg (pc := 19) dX6_readSigned_19 ?_
    refine sm_sub [1, 0] rfl ?_
    exact p_X6_readSigned_20 G l d hd0 dd hdd N g_X6_readInside g_X6_readLevel g_X6_readOne g_X6_readSigned Hg_X6_readInside Hg_X6_readLevel Hg_X6_readOne Hg_X6_readSigned y2 (-a1) μ1
  · refine sm_bipush (pc := 13) dX6_readSigned_13 (v := -126) (by decide) ?_
    refine sm_goto (pc := 15) (tgt := 20) dX6_readSigned_15 (by decide) ?_
    refine sm_sub [1, 0] rfl ?_
    exact p_X6_readSigned_20 G l d hd0 dd hdd N g_X6_readInside g_X6_readLevel g_X6_readOne g_X6_readSigned Hg_X6_readInside Hg_X6_readLevel Hg_X6_readOne Hg_X6_readSigned y2 (-126 : Int32) μ1
theorem cr_X6_readInside (G : am_G) (l : Launch) (N : Nat) : ∀ D : Nat, (∀ (z0 : Int32) (μ : am_M), ct_P G l am_ci (2 + D) me_X6_readInside [.ref (am_ad G 3 0), .int z0] μ ((f_X6_readInside_g N D).1 z0 μ)) ∧ (∀ (z0 : Int32) (z1 : Int32) (μ : am_M), ct_P G l am_ci (2 + D) me_X6_readLevel [.ref (am_ad G 3 0), .int z0, .int z1] μ ((f_X6_readInside_g N D).2.1 z0 z1 μ)) ∧ (∀ (z0 : Int32) (μ : am_M), ct_P G l am_ci (2 + D) me_X6_readOne [.ref (am_ad G 3 0), .int z0] μ ((f_X6_readInside_g N D).2.2.1 z0 μ)) ∧ (∀ (z0 : Int32) (z1 : Int32) (μ : am_M), ct_P G l am_ci (2 + D) me_X6_readSigned [.ref (am_ad G 3 0), .int z0, .int z1] μ ((f_X6_readInside_g N D).2.2.2 z0 z1 μ)) := by
  intro D
  induction D with
  | zero => exact ⟨(fun _ μ a μ1 ho => (by cases ho)), (fun _ _ μ a μ1 ho => (by cases ho)), (fun _ μ a μ1 ho => (by cases ho)), (fun _ _ μ a μ1 ho => (by cases ho))⟩
  | succ D ih => exact ⟨(fun a1 μ => ct_of (by decide +kernel) (Nat.le_of_ble_eq_true rfl) rfl (p_X6_readInside_0 G l (2 + (D + 1)) (by omega) (2 + D) (by omega) N (f_X6_readInside_g N D).1 (f_X6_readInside_g N D).2.1 (f_X6_readInside_g N D).2.2.1 (f_X6_readInside_g N D).2.2.2 ih.1 ih.2.1 ih.2.2.1 ih.2.2.2 a1 μ)), (fun a1 a2 μ => ct_of (by decide +kernel) (Nat.le_of_ble_eq_true rfl) rfl (p_X6_readLevel_0 G l (2 + (D + 1)) (by omega) (2 + D) (by omega) N (f_X6_readInside_g N D).1 (f_X6_readInside_g N D).2.1 (f_X6_readInside_g N D).2.2.1 (f_X6_readInside_g N D).2.2.2 ih.1 ih.2.1 ih.2.2.1 ih.2.2.2 a1 a2 μ)), (fun a1 μ => ct_of (by decide +kernel) (Nat.le_of_ble_eq_true rfl) rfl (p_X6_readOne_0 G l (2 + (D + 1)) (by omega) (2 + D) (by omega) N (f_X6_readInside_g N D).1 (f_X6_readInside_g N D).2.1 (f_X6_readInside_g N D).2.2.1 (f_X6_readInside_g N D).2.2.2 ih.1 ih.2.1 ih.2.2.1 ih.2.2.2 a1 μ)), (fun a1 a2 μ => ct_of (by decide +kernel) (Nat.le_of_ble_eq_true rfl) rfl (p_X6_readSigned_0 G l (2 + (D + 1)) (by omega) (2 + D) (by omega) N (f_X6_readInside_g N D).1 (f_X6_readInside_g N D).2.1 (f_X6_readInside_g N D).2.2.1 (f_X6_readInside_g N D).2.2.2 ih.1 ih.2.1 ih.2.2.1 ih.2.2.2 a1 a2 μ))⟩
theorem c_X6_readInside (G : am_G) (l : Launch) (N : Nat) (a1 : Int32) (μ : am_M) : ct_P G l am_ci 102 me_X6_readInside [.ref (am_ad G 3 0), .int a1] μ (f_X6_readInside N a1 μ) := (cr_X6_readInside G l N 100).1 a1 μ
theorem c_X6_readLevel (G : am_G) (l : Launch) (N : Nat) (a1 : Int32) (a2 : Int32) (μ : am_M) : ct_P G l am_ci 102 me_X6_readLevel [.ref (am_ad G 3 0), .int a1, .int a2] μ (f_X6_readLevel N a1 a2 μ) := (cr_X6_readInside G l N 100).2.1 a1 a2 μ
theorem c_X6_readOne (G : am_G) (l : Launch) (N : Nat) (a1 : Int32) (μ : am_M) : ct_P G l am_ci 102 me_X6_readOne [.ref (am_ad G 3 0), .int a1] μ (f_X6_readOne N a1 μ) := (cr_X6_readInside G l N 100).2.2.1 a1 μ
theorem c_X6_readSigned (G : am_G) (l : Launch) (N : Nat) (a1 : Int32) (a2 : Int32) (μ : am_M) : ct_P G l am_ci 102 me_X6_readSigned [.ref (am_ad G 3 0), .int a1, .int a2] μ (f_X6_readSigned N a1 a2 μ) := (cr_X6_readInside G l N 100).2.2.2 a1 a2 μ

def f_X6_readLine_43 (N : Nat) (x1 : Int32) (μ : am_M) : Option (Int32 × am_M) :=
am_bd (f_X6_write N (-59 : Int32) μ) (fun _ μ3 => am_z x1 μ3)
def f_X6_readLine_0 (N : Nat) (μ : am_M) : Option (Int32 × am_M) :=
am_bd (f_X6_readLevel N (0 : Int32) (0 : Int32) μ) (fun y2 μ1 => if y2 = 0 then (f_X6_readLine_43 N y2 μ1) else (am_bd (f_X6_here N μ1) (fun y5 μ4 => if y5 = (63 : Int32) then (am_nm (am_ui μ4 3 0 2 ((μ4.1 3 0 2) + (1 : Int32))) (fun μ6 => am_bd (f_X6_write N (-63 : Int32) μ6) (fun _ μ7 => am_bd (f_X6_readLevel N (0 : Int32) (0 : Int32) μ7) (fun y9 μ8 => f_X6_readLine_43 N y9 μ8)))) else (f_X6_readLine_43 N y2 μ4))))
def f_X6_readLine (N : Nat) (μ : am_M) : Option (Int32 × am_M) := f_X6_readLine_0 N μ
set_option maxHeartbeats 4000000 in
set_option maxRecDepth 100000 in
theorem p_X6_readLine_43 (G : am_G) (l : Launch) (d : Nat) (hd0 : 103 ≤ d) (N : Nat) (x1 : Int32) (μ : am_M) : sm_P G l am_ci d me_X6_readLine 43 [(0, .ref (am_ad G 3 0)), (1, .int x1)] [] μ (f_X6_readLine_43 N x1 μ) := by
  unfold f_X6_readLine_43
  refine sm_aload_n (pc := 43) dX6_readLine_43 rfl 0 rfl ?_
  refine sm_bipush (pc := 44) dX6_readLine_44 (v := -59) (by decide) ?_
  refine sm_callVv (pc := 46) (As := [.int (-59 : Int32)]) (rest := []) dX6_readLine_46 (c_X6_write G l N (-59 : Int32) μ) (by omega) wl_X6_44 vm_X6_write rfl rfl (Nat.le_of_ble_eq_true rfl) (fun _ μ3 => ?_)
  refine sm_iload_n (pc := 49) dX6_readLine_49 rfl 1 rfl ?_
  exact sm_zret (pc := 50) dX6_readLine_50 rfl
set_option maxHeartbeats 4000000 in
set_option maxRecDepth 100000 in
theorem p_X6_readLine_0 (G : am_G) (l : Launch) (d : Nat) (hd0 : 103 ≤ d) (N : Nat) (μ : am_M) : sm_P G l am_ci d me_X6_readLine 0 [(0, .ref (am_ad G 3 0))] [] μ (f_X6_readLine_0 N μ) := by
  unfold f_X6_readLine_0
  refine sm_aload_n (pc := 0) dX6_readLine_0 rfl 0 rfl ?_
  refine sm_iconst (pc := 1) dX6_readLine_1 (v := 0) (by decide) ?_
  refine sm_iconst (pc := 2) dX6_readLine_2 (v := 0) (by decide) ?_
  refine sm_callVi (pc := 3) (As := [.int (0 : Int32), .int (0 : Int32)]) (rest := []) dX6_readLine_3 (c_X6_readLevel G l N (0 : Int32) (0 : Int32) μ) (by omega) wl_X6_40 vm_X6_readLevel rfl rfl (Nat.le_of_ble_eq_true rfl) (fun y2 μ1 => ?_)
  refine sm_istore_n (pc := 6) (lv' := [(1, .int y2), (0, .ref (am_ad G 3 0))]) dX6_readLine_6 rfl (by decide) rfl ?_
  refine sm_iload_n (pc := 7) dX6_readLine_7 rfl 0 rfl ?_
  refine sm_if_eq (pc := 8) (tgt := 43) dX6_readLine_8 (by decide) ?_ ?_
  · refine sm_sub [1, 0] rfl ?_
    exact p_X6_readLine_43 G l d hd0 N y2 μ1
  · refine sm_aload_n (pc := 11) dX6_readLine_11 rfl 1 rfl ?_
    refine sm_callVi (pc := 12) (As := []) (rest := []) dX6_readLine_12 (c_X6_here G l N μ1) (by omega) wl_X6_36 vm_X6_here rfl rfl (Nat.le_of_ble_eq_true rfl) (fun y5 μ4 => ?_)
    refine sm_bipush (pc := 15) dX6_readLine_15 (v := 63) (by decide) ?_
    refine sm_icmp_ne (pc := 17) (tgt := 43) dX6_readLine_17 (by decide) ?_ ?_
    · refine sm_sub [1, 0] rfl ?_
      exact p_X6_readLine_43 G l d hd0 N y2 μ4
    · refine sm_aload_n (pc := 20) dX6_readLine_20 rfl 1 rfl ?_
      refine sm_dup (pc := 21) dX6_readLine_21 rfl ?_
      refine sm_geti (pc := 22) dX6_readLine_22 fi_X6_22 ?_
      refine sm_iconst (pc := 25) dX6_readLine_25 (v := 1) (by decide) ?_
      refine sm_iadd (pc := 26) dX6_readLine_26 ?_
      refine sm_puti (pc := 27) dX6_readLine_27 fi_X6_22 ?_
      refine sm_nmM (fun μ6 => ?_)
      refine sm_aload_n (pc := 30) dX6_readLine_30 rfl 1 rfl ?_
      refine sm_bipush (pc := 31) dX6_readLine_31 (v := -63) (by decide) ?_
      refine sm_callVv (pc := 33) (As := [.int (-63 : Int32)]) (rest := []) dX6_readLine_33 (c_X6_write G l N (-63 : Int32) μ6) (by omega) wl_X6_44 vm_X6_write rfl rfl (Nat.le_of_ble_eq_true rfl) (fun _ μ7 => ?_)
      refine sm_aload_n (pc := 36) dX6_readLine_36 rfl 1 rfl ?_
      refine sm_iconst (pc := 37) dX6_readLine_37 (v := 0) (by decide) ?_
      refine sm_iconst (pc := 38) dX6_readLine_38 (v := 0) (by decide) ?_
      refine sm_callVi (pc := 39) (As := [.int (0 : Int32), .int (0 : Int32)]) (rest := []) dX6_readLine_39 (c_X6_readLevel G l N (0 : Int32) (0 : Int32) μ7) (by omega) wl_X6_40 vm_X6_readLevel rfl rfl (Nat.le_of_ble_eq_true rfl) (fun y9 μ8 => ?_)
      refine sm_istore_n (pc := 42) (lv' := [(1, .int y9), (0, .ref (am_ad G 3 0))]) dX6_readLine_42 rfl (by decide) rfl ?_
      refine sm_sub [1, 0] rfl ?_
      exact p_X6_readLine_43 G l d hd0 N y9 μ8
theorem c_X6_readLine (G : am_G) (l : Launch) (N : Nat) (μ : am_M) : ct_P G l am_ci 103 me_X6_readLine [.ref (am_ad G 3 0)] μ (f_X6_readLine N μ) := ct_of (by decide +kernel) (Nat.le_of_ble_eq_true rfl) rfl (p_X6_readLine_0 G l 103 (Nat.le_refl _) N μ)

def f_X6_reads_57 (N : Nat) (x1 : Int32) (μ : am_M) : Option (Int32 × am_M) :=
if x1 = 0 then (am_z (0 : Int32) μ) else (if (μ.1 3 0 2) = (μ.1 3 0 1) then (am_z (1 : Int32) μ) else (am_z (0 : Int32) μ))
def f_X6_reads_17 (N : Nat) (r_17 : Int32 → Int32 → am_M → Option (Int32 × am_M)) (x1 : Int32) (x2 : Int32) (μ : am_M) : Option (Int32 × am_M) :=
if x1 = 0 then (f_X6_reads_57 N x1 μ) else (if (120 : Int32) ≤ x2 then (f_X6_reads_57 N x1 μ) else (am_bd (f_X6_here N μ) (fun y6 μ5 => if y6 = (59 : Int32) then (am_nm (am_ui μ5 3 0 2 ((μ5.1 3 0 2) + (1 : Int32))) (fun μ7 => am_bd (f_X6_readLine N μ7) (fun y9 μ8 => r_17 y9 (x2 + (1 : Int32)) μ8))) else (f_X6_reads_57 N x1 μ5))))
def f_X6_reads_17_lp (N : Nat) : Nat → Int32 → Int32 → am_M → Option (Int32 × am_M)
  | 0, _, _, _ => none
  | n + 1, x1, x2, μ => f_X6_reads_17 N (f_X6_reads_17_lp N n) x1 x2 μ
def f_X6_reads_0 (N : Nat) (μ : am_M) : Option (Int32 × am_M) :=
am_nm (am_ui μ 3 0 2 (0 : Int32)) (fun μ1 => am_nm (am_ui μ1 3 0 4 (0 : Int32)) (fun μ2 => am_bd (f_X6_readLine N μ2) (fun y4 μ3 => f_X6_reads_17_lp N N y4 (0 : Int32) μ3)))
def f_X6_reads (N : Nat) (μ : am_M) : Option (Int32 × am_M) := f_X6_reads_0 N μ
set_option maxHeartbeats 4000000 in
set_option maxRecDepth 100000 in
theorem p_X6_reads_57 (G : am_G) (l : Launch) (d : Nat) (hd0 : 104 ≤ d) (N : Nat) (x1 : Int32) (μ : am_M) : sm_P G l am_ci d me_X6_reads 57 [(0, .ref (am_ad G 3 0)), (1, .int x1)] [] μ (f_X6_reads_57 N x1 μ) := by
  unfold f_X6_reads_57
  refine sm_iload_n (pc := 57) dX6_reads_57 rfl 1 rfl ?_
  refine sm_if_eq (pc := 58) (tgt := 76) dX6_reads_58 (by decide) ?_ ?_
  · refine sm_iconst (pc := 76) dX6_reads_76 (v := 0) (by decide) ?_
    exact sm_zret (pc := 77) dX6_reads_77 rfl
  · refine sm_aload_n (pc := 61) dX6_reads_61 rfl 0 rfl ?_
    refine sm_geti (pc := 62) dX6_reads_62 fi_X6_22 ?_
    refine sm_aload_n (pc := 65) dX6_reads_65 rfl 0 rfl ?_
    refine sm_geti (pc := 66) dX6_reads_66 fi_X6_18 ?_
    refine sm_icmp_ne (pc := 69) (tgt := 76) dX6_reads_69 (by decide) ?_ ?_
    · refine sm_iconst (pc := 76) dX6_reads_76 (v := 0) (by decide) ?_
      exact sm_zret (pc := 77) dX6_reads_77 rfl
    · refine sm_iconst (pc := 72) dX6_reads_72 (v := 1) (by decide) ?_
      refine sm_goto (pc := 73) (tgt := 77) dX6_reads_73 (by decide) ?_
      exact sm_zret (pc := 77) dX6_reads_77 rfl
set_option maxHeartbeats 4000000 in
set_option maxRecDepth 100000 in
theorem p_X6_reads_17 (G : am_G) (l : Launch) (d : Nat) (hd0 : 104 ≤ d) (N : Nat) (r_17 : Int32 → Int32 → am_M → Option (Int32 × am_M)) (H_17 : ∀ (x1 : Int32) (x2 : Int32) (μ : am_M), sm_P G l am_ci d me_X6_reads 17 [(0, .ref (am_ad G 3 0)), (1, .int x1), (2, .int x2)] [] μ (r_17 x1 x2 μ)) (x1 : Int32) (x2 : Int32) (μ : am_M) : sm_P G l am_ci d me_X6_reads 17 [(0, .ref (am_ad G 3 0)), (1, .int x1), (2, .int x2)] [] μ (f_X6_reads_17 N r_17 x1 x2 μ) := by
  unfold f_X6_reads_17
  refine sm_iload_n (pc := 17) dX6_reads_17 rfl 1 rfl ?_
  refine sm_if_eq (pc := 18) (tgt := 57) dX6_reads_18 (by decide) ?_ ?_
  · refine sm_sub [0, 1] rfl ?_
    exact p_X6_reads_57 G l d hd0 N x1 μ
  · refine sm_iload_n (pc := 21) dX6_reads_21 rfl 2 rfl ?_
    refine sm_bipush (pc := 22) dX6_reads_22 (v := 120) (by decide) ?_
    refine sm_icmp_ge (pc := 24) (tgt := 57) dX6_reads_24 (by decide) ?_ ?_
    · refine sm_sub [0, 1] rfl ?_
      exact p_X6_reads_57 G l d hd0 N x1 μ
    · refine sm_aload_n (pc := 27) dX6_reads_27 rfl 0 rfl ?_
      refine sm_callVi (pc := 28) (As := []) (rest := []) dX6_reads_28 (c_X6_here G l N μ) (by omega) wl_X6_36 vm_X6_here rfl rfl (Nat.le_of_ble_eq_true rfl) (fun y6 μ5 => ?_)
      refine sm_bipush (pc := 31) dX6_reads_31 (v := 59) (by decide) ?_
      refine sm_icmp_ne (pc := 33) (tgt := 57) dX6_reads_33 (by decide) ?_ ?_
      · refine sm_sub [0, 1] rfl ?_
        exact p_X6_reads_57 G l d hd0 N x1 μ5
      · refine sm_aload_n (pc := 36) dX6_reads_36 rfl 0 rfl ?_
        refine sm_dup (pc := 37) dX6_reads_37 rfl ?_
        refine sm_geti (pc := 38) dX6_reads_38 fi_X6_22 ?_
        refine sm_iconst (pc := 41) dX6_reads_41 (v := 1) (by decide) ?_
        refine sm_iadd (pc := 42) dX6_reads_42 ?_
        refine sm_puti (pc := 43) dX6_reads_43 fi_X6_22 ?_
        refine sm_nmM (fun μ7 => ?_)
        refine sm_aload_n (pc := 46) dX6_reads_46 rfl 0 rfl ?_
        refine sm_callVi (pc := 47) (As := []) (rest := []) dX6_reads_47 (c_X6_readLine G l N μ7) (by omega) wl_X6_32 vm_X6_readLine rfl rfl (Nat.le_of_ble_eq_true rfl) (fun y9 μ8 => ?_)
        refine sm_istore_n (pc := 50) (lv' := [(1, .int y9), (0, .ref (am_ad G 3 0)), (2, .int x2)]) dX6_reads_50 rfl (by decide) rfl ?_
        refine sm_iinc (pc := 51) (v := (x2 + (1 : Int32))) (lv' := [(2, .int (x2 + (1 : Int32))), (1, .int y9), (0, .ref (am_ad G 3 0))]) dX6_reads_51 2 rfl rfl (by decide) rfl ?_
        refine sm_goto (pc := 54) (tgt := 17) dX6_reads_54 (by decide) ?_
        refine sm_sub [2, 1, 0] rfl ?_
        exact H_17 y9 (x2 + (1 : Int32)) μ8
theorem p_X6_reads_17_lp (G : am_G) (l : Launch) (d : Nat) (hd0 : 104 ≤ d) (N : Nat) : ∀ (n : Nat) (x1 : Int32) (x2 : Int32) (μ : am_M), sm_P G l am_ci d me_X6_reads 17 [(0, .ref (am_ad G 3 0)), (1, .int x1), (2, .int x2)] [] μ (f_X6_reads_17_lp N n x1 x2 μ) := by
  intro n
  induction n with
  | zero => intros; exact sm_none
  | succ n ih => exact fun x1 x2 μ => p_X6_reads_17 G l d hd0 N (f_X6_reads_17_lp N n) ih x1 x2 μ
set_option maxHeartbeats 4000000 in
set_option maxRecDepth 100000 in
theorem p_X6_reads_0 (G : am_G) (l : Launch) (d : Nat) (hd0 : 104 ≤ d) (N : Nat) (μ : am_M) : sm_P G l am_ci d me_X6_reads 0 [(0, .ref (am_ad G 3 0))] [] μ (f_X6_reads_0 N μ) := by
  unfold f_X6_reads_0
  refine sm_aload_n (pc := 0) dX6_reads_0 rfl 0 rfl ?_
  refine sm_iconst (pc := 1) dX6_reads_1 (v := 0) (by decide) ?_
  refine sm_puti (pc := 2) dX6_reads_2 fi_X6_22 ?_
  refine sm_nmM (fun μ1 => ?_)
  refine sm_aload_n (pc := 5) dX6_reads_5 rfl 0 rfl ?_
  refine sm_iconst (pc := 6) dX6_reads_6 (v := 0) (by decide) ?_
  refine sm_puti (pc := 7) dX6_reads_7 fi_X6_25 ?_
  refine sm_nmM (fun μ2 => ?_)
  refine sm_aload_n (pc := 10) dX6_reads_10 rfl 0 rfl ?_
  refine sm_callVi (pc := 11) (As := []) (rest := []) dX6_reads_11 (c_X6_readLine G l N μ2) (by omega) wl_X6_32 vm_X6_readLine rfl rfl (Nat.le_of_ble_eq_true rfl) (fun y4 μ3 => ?_)
  refine sm_istore_n (pc := 14) (lv' := [(1, .int y4), (0, .ref (am_ad G 3 0))]) dX6_reads_14 rfl (by decide) rfl ?_
  refine sm_iconst (pc := 15) dX6_reads_15 (v := 0) (by decide) ?_
  refine sm_istore_n (pc := 16) (lv' := [(2, .int (0 : Int32)), (1, .int y4), (0, .ref (am_ad G 3 0))]) dX6_reads_16 rfl (by decide) rfl ?_
  refine sm_sub [2, 1, 0] rfl ?_
  exact p_X6_reads_17_lp G l d hd0 N N y4 (0 : Int32) μ3
theorem c_X6_reads (G : am_G) (l : Launch) (N : Nat) (μ : am_M) : ct_P G l am_ci 104 me_X6_reads [.ref (am_ad G 3 0)] μ (f_X6_reads N μ) := ct_of (by decide +kernel) (Nat.le_of_ble_eq_true rfl) rfl (p_X6_reads_0 G l 104 (Nat.le_refl _) N μ)
