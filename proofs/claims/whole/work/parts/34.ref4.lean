def f_X10_count_0 (N : Nat) (a1 : Int32) (μ : am_M) : Option (Int32 × am_M) :=
if a1 = (0 : Int32) then (some ((μ.1 10 0 6), μ)) else (if a1 = (1 : Int32) then (some ((μ.1 10 0 8), μ)) else (if a1 = (2 : Int32) then (some ((μ.1 10 0 15), μ)) else (if a1 = (3 : Int32) then (some ((μ.1 10 0 14), μ)) else (if a1 = (4 : Int32) then (some ((μ.1 10 0 5), μ)) else (if a1 = (5 : Int32) then (some ((μ.1 10 0 45), μ)) else (if a1 = (6 : Int32) then (some ((μ.1 10 0 48), μ)) else (some ((-1 : Int32), μ))))))))
def f_X10_count (N : Nat) (a1 : Int32) (μ : am_M) : Option (Int32 × am_M) := f_X10_count_0 N a1 μ
set_option maxHeartbeats 4000000 in
set_option maxRecDepth 100000 in
theorem p_X10_count_0 (G : am_G) (l : Launch) (d : Nat) (hd0 : 0 ≤ d) (N : Nat) (a1 : Int32) (μ : am_M) : sm_P G l am_ci d me_X10_count 0 [(0, .ref (am_ad G 10 0)), (1, .int a1)] [] μ (f_X10_count_0 N a1 μ) := by
  unfold f_X10_count_0
  refine sm_iload_n (pc := 0) dX10_count_0 rfl 1 rfl ?_
  refine sm_ite (fun e1 => ?_) (fun e1 => ?_)
  · refine sm_tsi (pc := 1) (c1 := 0) (off := 43) (tgt := 44) e1 dX10_count_1 (by decide) (by decide) (by decide) (by decide) ?_
    refine sm_aload_n (pc := 44) dX10_count_44 rfl 0 rfl ?_
    refine sm_geti (pc := 45) dX10_count_45 fi_X10_102 ?_
    exact sm_iret (pc := 48) dX10_count_48 rfl
  refine sm_ite (fun e2 => ?_) (fun e2 => ?_)
  · refine sm_tsi (pc := 1) (c1 := 1) (off := 48) (tgt := 49) e2 dX10_count_1 (by decide) (by decide) (by decide) (by decide) ?_
    refine sm_aload_n (pc := 49) dX10_count_49 rfl 0 rfl ?_
    refine sm_geti (pc := 50) dX10_count_50 fi_X10_109 ?_
    exact sm_iret (pc := 53) dX10_count_53 rfl
  refine sm_ite (fun e3 => ?_) (fun e3 => ?_)
  · refine sm_tsi (pc := 1) (c1 := 2) (off := 53) (tgt := 54) e3 dX10_count_1 (by decide) (by decide) (by decide) (by decide) ?_
    refine sm_aload_n (pc := 54) dX10_count_54 rfl 0 rfl ?_
    refine sm_geti (pc := 55) dX10_count_55 fi_X10_141 ?_
    exact sm_iret (pc := 58) dX10_count_58 rfl
  refine sm_ite (fun e4 => ?_) (fun e4 => ?_)
  · refine sm_tsi (pc := 1) (c1 := 3) (off := 58) (tgt := 59) e4 dX10_count_1 (by decide) (by decide) (by decide) (by decide) ?_
    refine sm_aload_n (pc := 59) dX10_count_59 rfl 0 rfl ?_
    refine sm_geti (pc := 60) dX10_count_60 fi_X10_158 ?_
    exact sm_iret (pc := 63) dX10_count_63 rfl
  refine sm_ite (fun e5 => ?_) (fun e5 => ?_)
  · refine sm_tsi (pc := 1) (c1 := 4) (off := 63) (tgt := 64) e5 dX10_count_1 (by decide) (by decide) (by decide) (by decide) ?_
    refine sm_aload_n (pc := 64) dX10_count_64 rfl 0 rfl ?_
    refine sm_geti (pc := 65) dX10_count_65 fi_X10_96 ?_
    exact sm_iret (pc := 68) dX10_count_68 rfl
  refine sm_ite (fun e6 => ?_) (fun e6 => ?_)
  · refine sm_tsi (pc := 1) (c1 := 5) (off := 68) (tgt := 69) e6 dX10_count_1 (by decide) (by decide) (by decide) (by decide) ?_
    refine sm_aload_n (pc := 69) dX10_count_69 rfl 0 rfl ?_
    refine sm_geti (pc := 70) dX10_count_70 fi_X10_327 ?_
    exact sm_iret (pc := 73) dX10_count_73 rfl
  refine sm_ite (fun e7 => ?_) (fun e7 => ?_)
  · refine sm_tsi (pc := 1) (c1 := 6) (off := 73) (tgt := 74) e7 dX10_count_1 (by decide) (by decide) (by decide) (by decide) ?_
    refine sm_aload_n (pc := 74) dX10_count_74 rfl 0 rfl ?_
    refine sm_geti (pc := 75) dX10_count_75 fi_X10_332 ?_
    exact sm_iret (pc := 78) dX10_count_78 rfl
  replace e1 := am_ne (n := 0) (by decide) e1
  replace e2 := am_ne (n := 1) (by decide) e2
  replace e3 := am_ne (n := 2) (by decide) e3
  replace e4 := am_ne (n := 3) (by decide) e4
  replace e5 := am_ne (n := 4) (by decide) e5
  replace e6 := am_ne (n := 5) (by decide) e6
  replace e7 := am_ne (n := 6) (by decide) e7
  refine sm_tso (pc := 1) (tgt := 79) dX10_count_1 (by omega) (by decide) ?_
  refine sm_iconst (pc := 79) dX10_count_79 (v := -1) (by decide) ?_
  exact sm_iret (pc := 80) dX10_count_80 rfl
theorem c_X10_count (G : am_G) (l : Launch) (N : Nat) (a1 : Int32) (μ : am_M) : ct_P G l am_ci 0 me_X10_count [.ref (am_ad G 10 0), .int a1] μ (f_X10_count N a1 μ) := ct_of (by decide +kernel) (Nat.le_of_ble_eq_true rfl) rfl (p_X10_count_0 G l 0 (Nat.le_refl _) N a1 μ)

