/-! constructors of the parts -/
set_option maxHeartbeats 4000000 in
set_option maxRecDepth 100000 in
theorem ci_X5 (D : va_G) (cT : Nat → ClassId) (l : Launch) {z i o : Nat} {cs : List va_E} (h : cs[i]? = some (.inr (5, [.null, .int 0, .int 0]))) (ho : z + cs.length = o) : ct_I D cT l 1 me_X5_init [.ref (z + i)] z cs (cx cs i 5 [.ref (o + 0), .int 0, .int 0] [be_q cT 3 9 (o + 1), be_i cT 6, be_i cT 6, be_i cT 6, be_i cT 6, be_i cT 6, be_i cT 6, be_i cT 6, be_i cT 6, be_i cT 6]) 10 63 := by
  subst ho
  have hlt : i < cs.length := (List.getElem?_eq_some_iff.mp h).1
  refine ci_of (by decide +kernel) (Nat.le_of_ble_eq_true rfl) rfl rfl (fun p e R s m args below meth c ls hR1 hR2 hR3 hR4 B hin hH hl => ?_)
  · have hH : bH D z (cx cs i 5 [.null, .int 0, .int 0] []) s.heap := by rw [cx_0 h]; exact hH
    have hS : va_S (bA z) s.heap s.heap [] := va_S.rf
    refine lv_aload_n B.1 B.2.1 dX5_init_0 rfl (lv_at hl 0 rfl) ?_
    refine bk_obj B wo_X5 wi_oi wi_oc (Nat.le_trans (Nat.le_of_ble_eq_true rfl) hR1) (Nat.le_trans (Nat.le_of_ble_eq_true rfl) hR2) hl.1 dX5_init_1 ?_
    refine lv_aload_n B.1 B.2.1 dX5_init_4 rfl (lv_at hl 0 rfl) ?_
    refine lv_bipush B.1 B.2.1 (v := 9) dX5_init_5 (by decide) ?_
    refine lv_bipush B.1 B.2.1 (v := 6) dX5_init_7 (by decide) ?_
    refine ck_mi B hH hS (n := 9) (k := 6) (n' := 9) (k' := 6) (o := 0) cl_X5_9 wi_aI dX5_init_9 (by decide) (by decide) (by decide) (by decide) (by decide) (by decide) (Nat.le_trans (Nat.le_of_ble_eq_true rfl) hR3) (Nat.le_trans (Nat.le_of_ble_eq_true rfl) hR4) rfl (fun H1 locs1 hH hS => ?_)
    have hH : bH D z (cx cs i 5 [.null, .int 0, .int 0] [be_q cT 3 9 (z + cs.length + 1), be_i cT 6, be_i cT 6, be_i cT 6, be_i cT 6, be_i cT 6, be_i cT 6, be_i cT 6, be_i cT 6, be_i cT 6]) _ := hH
    refine ck_put B hH hS hlt (C := RX5) (T := TX5) (N := 3) (k := 0) (ty0 := tyX5) rfl in_X5 tyX5_ok nmX5 (Nat.le_of_ble_eq_true rfl) fw_X5_11 hin rfl rfl rfl (Nat.le_of_ble_eq_true rfl) dX5_init_13 (fun H1 locs1 hH hS => ?_)
    have hH : bH D z (cx cs i 5 [.ref (z + cs.length + 0), .int 0, .int 0] [be_q cT 3 9 (z + cs.length + 1), be_i cT 6, be_i cT 6, be_i cT 6, be_i cT 6, be_i cT 6, be_i cT 6, be_i cT 6, be_i cT 6, be_i cT 6]) _ := hH
    exact bk_ret B hH hS rfl dX5_init_16
set_option maxHeartbeats 4000000 in
set_option maxRecDepth 100000 in
theorem ci_X1 (D : va_G) (cT : Nat → ClassId) (l : Launch) {z i o a1 : Nat} {cs : List va_E} (h : cs[i]? = some (.inr (1, [.null, .null, .null, .null, .null, .int 0, .int 0]))) (ho : z + cs.length = o) : ct_I D cT l 1 me_X1_init [.ref (z + i), .ref a1] z cs (cx cs i 1 [.ref a1, .ref (o + 0), .ref (o + 1), .ref (o + 2), .ref (o + 3), .int 0, .int 0] [be_i cT 40, be_i cT 40, be_i cT 40, be_i cT 40]) 4 160 := by
  subst ho
  have hlt : i < cs.length := (List.getElem?_eq_some_iff.mp h).1
  refine ci_of (by decide +kernel) (Nat.le_of_ble_eq_true rfl) rfl rfl (fun p e R s m args below meth c ls hR1 hR2 hR3 hR4 B hin hH hl => ?_)
  · have hH : bH D z (cx cs i 1 [.null, .null, .null, .null, .null, .int 0, .int 0] []) s.heap := by rw [cx_0 h]; exact hH
    have hS : va_S (bA z) s.heap s.heap [] := va_S.rf
    refine lv_aload_n B.1 B.2.1 dX1_init_0 rfl (lv_at hl 0 rfl) ?_
    refine bk_obj B wo_X1 wi_oi wi_oc (Nat.le_trans (Nat.le_of_ble_eq_true rfl) hR1) (Nat.le_trans (Nat.le_of_ble_eq_true rfl) hR2) hl.1 dX1_init_1 ?_
    refine lv_aload_n B.1 B.2.1 dX1_init_4 rfl (lv_at hl 0 rfl) ?_
    refine lv_bipush B.1 B.2.1 (v := 40) dX1_init_5 (by decide) ?_
    refine ck_newi B hH hS (n := 40) (k := 40) (o := 0) dX1_init_7 (by decide) (by decide) (by decide) wi_aI (Nat.le_trans (Nat.le_of_ble_eq_true rfl) hR3) (Nat.le_trans (Nat.le_of_ble_eq_true rfl) hR4) rfl (fun H1 hH hS => ?_)
    have hH : bH D z (cx cs i 1 [.null, .null, .null, .null, .null, .int 0, .int 0] [be_i cT 40]) _ := hH
    refine ck_put B hH hS hlt (C := RX1) (T := TX1) (N := 7) (k := 1) (ty0 := tyX1) rfl in_X1 tyX1_ok nmX1 (Nat.le_of_ble_eq_true rfl) fw_X1_9 hin rfl rfl rfl (Nat.le_of_ble_eq_true rfl) dX1_init_9 (fun H1 locs1 hH hS => ?_)
    have hH : bH D z (cx cs i 1 [.null, .ref (z + cs.length + 0), .null, .null, .null, .int 0, .int 0] [be_i cT 40]) _ := hH
    refine lv_aload_n B.1 B.2.1 dX1_init_12 rfl (lv_at hl 0 rfl) ?_
    refine lv_bipush B.1 B.2.1 (v := 40) dX1_init_13 (by decide) ?_
    refine ck_newi B hH hS (n := 40) (k := 40) (o := 1) dX1_init_15 (by decide) (by decide) (by decide) wi_aI (Nat.le_trans (Nat.le_of_ble_eq_true rfl) hR3) (Nat.le_trans (Nat.le_of_ble_eq_true rfl) hR4) rfl (fun H1 hH hS => ?_)
    have hH : bH D z (cx cs i 1 [.null, .ref (z + cs.length + 0), .null, .null, .null, .int 0, .int 0] [be_i cT 40, be_i cT 40]) _ := hH
    refine ck_put B hH hS hlt (C := RX1) (T := TX1) (N := 7) (k := 2) (ty0 := tyX1) rfl in_X1 tyX1_ok nmX1 (Nat.le_of_ble_eq_true rfl) fw_X1_15 hin rfl rfl rfl (Nat.le_of_ble_eq_true rfl) dX1_init_17 (fun H1 locs1 hH hS => ?_)
    have hH : bH D z (cx cs i 1 [.null, .ref (z + cs.length + 0), .ref (z + cs.length + 1), .null, .null, .int 0, .int 0] [be_i cT 40, be_i cT 40]) _ := hH
    refine lv_aload_n B.1 B.2.1 dX1_init_20 rfl (lv_at hl 0 rfl) ?_
    refine lv_bipush B.1 B.2.1 (v := 40) dX1_init_21 (by decide) ?_
    refine ck_newi B hH hS (n := 40) (k := 40) (o := 2) dX1_init_23 (by decide) (by decide) (by decide) wi_aI (Nat.le_trans (Nat.le_of_ble_eq_true rfl) hR3) (Nat.le_trans (Nat.le_of_ble_eq_true rfl) hR4) rfl (fun H1 hH hS => ?_)
    have hH : bH D z (cx cs i 1 [.null, .ref (z + cs.length + 0), .ref (z + cs.length + 1), .null, .null, .int 0, .int 0] [be_i cT 40, be_i cT 40, be_i cT 40]) _ := hH
    refine ck_put B hH hS hlt (C := RX1) (T := TX1) (N := 7) (k := 3) (ty0 := tyX1) rfl in_X1 tyX1_ok nmX1 (Nat.le_of_ble_eq_true rfl) fw_X1_18 hin rfl rfl rfl (Nat.le_of_ble_eq_true rfl) dX1_init_25 (fun H1 locs1 hH hS => ?_)
    have hH : bH D z (cx cs i 1 [.null, .ref (z + cs.length + 0), .ref (z + cs.length + 1), .ref (z + cs.length + 2), .null, .int 0, .int 0] [be_i cT 40, be_i cT 40, be_i cT 40]) _ := hH
    refine lv_aload_n B.1 B.2.1 dX1_init_28 rfl (lv_at hl 0 rfl) ?_
    refine lv_bipush B.1 B.2.1 (v := 40) dX1_init_29 (by decide) ?_
    refine ck_newi B hH hS (n := 40) (k := 40) (o := 3) dX1_init_31 (by decide) (by decide) (by decide) wi_aI (Nat.le_trans (Nat.le_of_ble_eq_true rfl) hR3) (Nat.le_trans (Nat.le_of_ble_eq_true rfl) hR4) rfl (fun H1 hH hS => ?_)
    have hH : bH D z (cx cs i 1 [.null, .ref (z + cs.length + 0), .ref (z + cs.length + 1), .ref (z + cs.length + 2), .null, .int 0, .int 0] [be_i cT 40, be_i cT 40, be_i cT 40, be_i cT 40]) _ := hH
    refine ck_put B hH hS hlt (C := RX1) (T := TX1) (N := 7) (k := 4) (ty0 := tyX1) rfl in_X1 tyX1_ok nmX1 (Nat.le_of_ble_eq_true rfl) fw_X1_21 hin rfl rfl rfl (Nat.le_of_ble_eq_true rfl) dX1_init_33 (fun H1 locs1 hH hS => ?_)
    have hH : bH D z (cx cs i 1 [.null, .ref (z + cs.length + 0), .ref (z + cs.length + 1), .ref (z + cs.length + 2), .ref (z + cs.length + 3), .int 0, .int 0] [be_i cT 40, be_i cT 40, be_i cT 40, be_i cT 40]) _ := hH
    refine lv_aload_n B.1 B.2.1 dX1_init_36 rfl (lv_at hl 0 rfl) ?_
    refine lv_aload_n B.1 B.2.1 dX1_init_37 rfl (lv_at hl 1 rfl) ?_
    refine ck_put B hH hS hlt (C := RX1) (T := TX1) (N := 7) (k := 0) (ty0 := tyX1) rfl in_X1 tyX1_ok nmX1 (Nat.le_of_ble_eq_true rfl) fw_X1_24 hin rfl rfl rfl (Nat.le_of_ble_eq_true rfl) dX1_init_38 (fun H1 locs1 hH hS => ?_)
    have hH : bH D z (cx cs i 1 [.ref a1, .ref (z + cs.length + 0), .ref (z + cs.length + 1), .ref (z + cs.length + 2), .ref (z + cs.length + 3), .int 0, .int 0] [be_i cT 40, be_i cT 40, be_i cT 40, be_i cT 40]) _ := hH
    exact bk_ret B hH hS rfl dX1_init_41
set_option maxHeartbeats 4000000 in
set_option maxRecDepth 100000 in
theorem ci_X6 (D : va_G) (cT : Nat → ClassId) (l : Launch) {z i o : Nat} {cs : List va_E} (h : cs[i]? = some (.inr (6, [.null, .int 0, .int 0, .null, .int 0]))) (ho : z + cs.length = o) : ct_I D cT l 1 me_X6_init [.ref (z + i)] z cs (cx cs i 6 [.ref (o + 0), .int 0, .int 0, .ref (o + 1), .int 0] [be_i cT 120, be_i cT 121]) 2 241 := by
  subst ho
  have hlt : i < cs.length := (List.getElem?_eq_some_iff.mp h).1
  refine ci_of (by decide +kernel) (Nat.le_of_ble_eq_true rfl) rfl rfl (fun p e R s m args below meth c ls hR1 hR2 hR3 hR4 B hin hH hl => ?_)
  · have hH : bH D z (cx cs i 6 [.null, .int 0, .int 0, .null, .int 0] []) s.heap := by rw [cx_0 h]; exact hH
    have hS : va_S (bA z) s.heap s.heap [] := va_S.rf
    refine lv_aload_n B.1 B.2.1 dX6_init_0 rfl (lv_at hl 0 rfl) ?_
    refine bk_obj B wo_X6 wi_oi wi_oc (Nat.le_trans (Nat.le_of_ble_eq_true rfl) hR1) (Nat.le_trans (Nat.le_of_ble_eq_true rfl) hR2) hl.1 dX6_init_1 ?_
    refine lv_aload_n B.1 B.2.1 dX6_init_4 rfl (lv_at hl 0 rfl) ?_
    refine lv_bipush B.1 B.2.1 (v := 120) dX6_init_5 (by decide) ?_
    refine ck_newi B hH hS (n := 120) (k := 120) (o := 0) dX6_init_7 (by decide) (by decide) (by decide) wi_aI (Nat.le_trans (Nat.le_of_ble_eq_true rfl) hR3) (Nat.le_trans (Nat.le_of_ble_eq_true rfl) hR4) rfl (fun H1 hH hS => ?_)
    have hH : bH D z (cx cs i 6 [.null, .int 0, .int 0, .null, .int 0] [be_i cT 120]) _ := hH
    refine ck_put B hH hS hlt (C := RX6) (T := TX6) (N := 5) (k := 0) (ty0 := tyX6) rfl in_X6 tyX6_ok nmX6 (Nat.le_of_ble_eq_true rfl) fw_X6_9 hin rfl rfl rfl (Nat.le_of_ble_eq_true rfl) dX6_init_9 (fun H1 locs1 hH hS => ?_)
    have hH : bH D z (cx cs i 6 [.ref (z + cs.length + 0), .int 0, .int 0, .null, .int 0] [be_i cT 120]) _ := hH
    refine lv_aload_n B.1 B.2.1 dX6_init_12 rfl (lv_at hl 0 rfl) ?_
    refine lv_bipush B.1 B.2.1 (v := 121) dX6_init_13 (by decide) ?_
    refine ck_newi B hH hS (n := 121) (k := 121) (o := 1) dX6_init_15 (by decide) (by decide) (by decide) wi_aI (Nat.le_trans (Nat.le_of_ble_eq_true rfl) hR3) (Nat.le_trans (Nat.le_of_ble_eq_true rfl) hR4) rfl (fun H1 hH hS => ?_)
    have hH : bH D z (cx cs i 6 [.ref (z + cs.length + 0), .int 0, .int 0, .null, .int 0] [be_i cT 120, be_i cT 121]) _ := hH
    refine ck_put B hH hS hlt (C := RX6) (T := TX6) (N := 5) (k := 3) (ty0 := tyX6) rfl in_X6 tyX6_ok nmX6 (Nat.le_of_ble_eq_true rfl) fw_X6_15 hin rfl rfl rfl (Nat.le_of_ble_eq_true rfl) dX6_init_17 (fun H1 locs1 hH hS => ?_)
    have hH : bH D z (cx cs i 6 [.ref (z + cs.length + 0), .int 0, .int 0, .ref (z + cs.length + 1), .int 0] [be_i cT 120, be_i cT 121]) _ := hH
    exact bk_ret B hH hS rfl dX6_init_20
set_option maxHeartbeats 4000000 in
set_option maxRecDepth 100000 in
theorem ci_X8 (D : va_G) (cT : Nat → ClassId) (l : Launch) {z i o : Nat} {cs : List va_E} (h : cs[i]? = some (.inr (8, [.null, .null, .int 0, .null, .null, .int 0]))) (ho : z + cs.length = o) : ct_I D cT l 1 me_X8_init [.ref (z + i)] z cs (cx cs i 8 [.ref (o + 0), .ref (o + 5), .int 0, .ref (o + 6), .ref (o + 7), .int 0] [be_q cT 3 4 (o + 1), be_i cT 121, be_i cT 121, be_i cT 121, be_i cT 121, be_i cT 4, be_i cT 128, be_i cT 121]) 8 741 := by
  subst ho
  have hlt : i < cs.length := (List.getElem?_eq_some_iff.mp h).1
  refine ci_of (by decide +kernel) (Nat.le_of_ble_eq_true rfl) rfl rfl (fun p e R s m args below meth c ls hR1 hR2 hR3 hR4 B hin hH hl => ?_)
  · have hH : bH D z (cx cs i 8 [.null, .null, .int 0, .null, .null, .int 0] []) s.heap := by rw [cx_0 h]; exact hH
    have hS : va_S (bA z) s.heap s.heap [] := va_S.rf
    refine lv_aload_n B.1 B.2.1 dX8_init_0 rfl (lv_at hl 0 rfl) ?_
    refine bk_obj B wo_X8 wi_oi wi_oc (Nat.le_trans (Nat.le_of_ble_eq_true rfl) hR1) (Nat.le_trans (Nat.le_of_ble_eq_true rfl) hR2) hl.1 dX8_init_1 ?_
    refine lv_aload_n B.1 B.2.1 dX8_init_4 rfl (lv_at hl 0 rfl) ?_
    refine lv_iconst B.1 B.2.1 (v := 4) dX8_init_5 (by decide) ?_
    refine lv_bipush B.1 B.2.1 (v := 121) dX8_init_6 (by decide) ?_
    refine ck_mi B hH hS (n := 4) (k := 121) (n' := 4) (k' := 121) (o := 0) cl_X8_9 wi_aI dX8_init_8 (by decide) (by decide) (by decide) (by decide) (by decide) (by decide) (Nat.le_trans (Nat.le_of_ble_eq_true rfl) hR3) (Nat.le_trans (Nat.le_of_ble_eq_true rfl) hR4) rfl (fun H1 locs1 hH hS => ?_)
    have hH : bH D z (cx cs i 8 [.null, .null, .int 0, .null, .null, .int 0] [be_q cT 3 4 (z + cs.length + 1), be_i cT 121, be_i cT 121, be_i cT 121, be_i cT 121]) _ := hH
    refine ck_put B hH hS hlt (C := RX8) (T := TX8) (N := 6) (k := 0) (ty0 := tyX8) rfl in_X8 tyX8_ok nmX8 (Nat.le_of_ble_eq_true rfl) fw_X8_11 hin rfl rfl rfl (Nat.le_of_ble_eq_true rfl) dX8_init_12 (fun H1 locs1 hH hS => ?_)
    have hH : bH D z (cx cs i 8 [.ref (z + cs.length + 0), .null, .int 0, .null, .null, .int 0] [be_q cT 3 4 (z + cs.length + 1), be_i cT 121, be_i cT 121, be_i cT 121, be_i cT 121]) _ := hH
    refine lv_aload_n B.1 B.2.1 dX8_init_15 rfl (lv_at hl 0 rfl) ?_
    refine lv_iconst B.1 B.2.1 (v := 4) dX8_init_16 (by decide) ?_
    refine ck_newi B hH hS (n := 4) (k := 4) (o := 5) dX8_init_17 (by decide) (by decide) (by decide) wi_aI (Nat.le_trans (Nat.le_of_ble_eq_true rfl) hR3) (Nat.le_trans (Nat.le_of_ble_eq_true rfl) hR4) rfl (fun H1 hH hS => ?_)
    have hH : bH D z (cx cs i 8 [.ref (z + cs.length + 0), .null, .int 0, .null, .null, .int 0] [be_q cT 3 4 (z + cs.length + 1), be_i cT 121, be_i cT 121, be_i cT 121, be_i cT 121, be_i cT 4]) _ := hH
    refine ck_put B hH hS hlt (C := RX8) (T := TX8) (N := 6) (k := 1) (ty0 := tyX8) rfl in_X8 tyX8_ok nmX8 (Nat.le_of_ble_eq_true rfl) fw_X8_16 hin rfl rfl rfl (Nat.le_of_ble_eq_true rfl) dX8_init_19 (fun H1 locs1 hH hS => ?_)
    have hH : bH D z (cx cs i 8 [.ref (z + cs.length + 0), .ref (z + cs.length + 5), .int 0, .null, .null, .int 0] [be_q cT 3 4 (z + cs.length + 1), be_i cT 121, be_i cT 121, be_i cT 121, be_i cT 121, be_i cT 4]) _ := hH
    refine lv_aload_n B.1 B.2.1 dX8_init_22 rfl (lv_at hl 0 rfl) ?_
    refine lv_sipush B.1 B.2.1 (v := 128) dX8_init_23 (by decide) ?_
    refine ck_newi B hH hS (n := 128) (k := 128) (o := 6) dX8_init_26 (by decide) (by decide) (by decide) wi_aI (Nat.le_trans (Nat.le_of_ble_eq_true rfl) hR3) (Nat.le_trans (Nat.le_of_ble_eq_true rfl) hR4) rfl (fun H1 hH hS => ?_)
    have hH : bH D z (cx cs i 8 [.ref (z + cs.length + 0), .ref (z + cs.length + 5), .int 0, .null, .null, .int 0] [be_q cT 3 4 (z + cs.length + 1), be_i cT 121, be_i cT 121, be_i cT 121, be_i cT 121, be_i cT 4, be_i cT 128]) _ := hH
    refine ck_put B hH hS hlt (C := RX8) (T := TX8) (N := 6) (k := 3) (ty0 := tyX8) rfl in_X8 tyX8_ok nmX8 (Nat.le_of_ble_eq_true rfl) fw_X8_20 hin rfl rfl rfl (Nat.le_of_ble_eq_true rfl) dX8_init_28 (fun H1 locs1 hH hS => ?_)
    have hH : bH D z (cx cs i 8 [.ref (z + cs.length + 0), .ref (z + cs.length + 5), .int 0, .ref (z + cs.length + 6), .null, .int 0] [be_q cT 3 4 (z + cs.length + 1), be_i cT 121, be_i cT 121, be_i cT 121, be_i cT 121, be_i cT 4, be_i cT 128]) _ := hH
    refine lv_aload_n B.1 B.2.1 dX8_init_31 rfl (lv_at hl 0 rfl) ?_
    refine lv_bipush B.1 B.2.1 (v := 121) dX8_init_32 (by decide) ?_
    refine ck_newi B hH hS (n := 121) (k := 121) (o := 7) dX8_init_34 (by decide) (by decide) (by decide) wi_aI (Nat.le_trans (Nat.le_of_ble_eq_true rfl) hR3) (Nat.le_trans (Nat.le_of_ble_eq_true rfl) hR4) rfl (fun H1 hH hS => ?_)
    have hH : bH D z (cx cs i 8 [.ref (z + cs.length + 0), .ref (z + cs.length + 5), .int 0, .ref (z + cs.length + 6), .null, .int 0] [be_q cT 3 4 (z + cs.length + 1), be_i cT 121, be_i cT 121, be_i cT 121, be_i cT 121, be_i cT 4, be_i cT 128, be_i cT 121]) _ := hH
    refine ck_put B hH hS hlt (C := RX8) (T := TX8) (N := 6) (k := 4) (ty0 := tyX8) rfl in_X8 tyX8_ok nmX8 (Nat.le_of_ble_eq_true rfl) fw_X8_23 hin rfl rfl rfl (Nat.le_of_ble_eq_true rfl) dX8_init_36 (fun H1 locs1 hH hS => ?_)
    have hH : bH D z (cx cs i 8 [.ref (z + cs.length + 0), .ref (z + cs.length + 5), .int 0, .ref (z + cs.length + 6), .ref (z + cs.length + 7), .int 0] [be_q cT 3 4 (z + cs.length + 1), be_i cT 121, be_i cT 121, be_i cT 121, be_i cT 121, be_i cT 4, be_i cT 128, be_i cT 121]) _ := hH
    exact bk_ret B hH hS rfl dX8_init_39
set_option maxHeartbeats 4000000 in
set_option maxRecDepth 100000 in
theorem ci_X7 (D : va_G) (cT : Nat → ClassId) (l : Launch) {z i o a1 a2 : Nat} {cs : List va_E} (h : cs[i]? = some (.inr (7, [.null, .null, .null, .null, .null, .null, .int 0, .int 0, .int 0, .int 0, .int 0, .int 0, .int 0]))) (ho : z + cs.length = o) : ct_I D cT l 1 me_X7_init [.ref (z + i), .ref a1, .ref a2] z cs (cx cs i 7 [.ref a1, .ref a2, .ref (o + 0), .ref (o + 1), .ref (o + 2), .ref (o + 9), .int 0, .int 0, .int 0, .int 0, .int 0, .int 0, .int 0] [be_i cT 6, be_i cT 6, be_q cT 3 6 (o + 3), be_i cT 4, be_i cT 4, be_i cT 4, be_i cT 4, be_i cT 4, be_i cT 4, be_i cT 7]) 10 49 := by
  subst ho
  have hlt : i < cs.length := (List.getElem?_eq_some_iff.mp h).1
  refine ci_of (by decide +kernel) (Nat.le_of_ble_eq_true rfl) rfl rfl (fun p e R s m args below meth c ls hR1 hR2 hR3 hR4 B hin hH hl => ?_)
  · have hH : bH D z (cx cs i 7 [.null, .null, .null, .null, .null, .null, .int 0, .int 0, .int 0, .int 0, .int 0, .int 0, .int 0] []) s.heap := by rw [cx_0 h]; exact hH
    have hS : va_S (bA z) s.heap s.heap [] := va_S.rf
    refine lv_aload_n B.1 B.2.1 dX7_init_0 rfl (lv_at hl 0 rfl) ?_
    refine bk_obj B wo_X7 wi_oi wi_oc (Nat.le_trans (Nat.le_of_ble_eq_true rfl) hR1) (Nat.le_trans (Nat.le_of_ble_eq_true rfl) hR2) hl.1 dX7_init_1 ?_
    refine lv_aload_n B.1 B.2.1 dX7_init_4 rfl (lv_at hl 0 rfl) ?_
    refine lv_bipush B.1 B.2.1 (v := 6) dX7_init_5 (by decide) ?_
    refine ck_newi B hH hS (n := 6) (k := 6) (o := 0) dX7_init_7 (by decide) (by decide) (by decide) wi_aI (Nat.le_trans (Nat.le_of_ble_eq_true rfl) hR3) (Nat.le_trans (Nat.le_of_ble_eq_true rfl) hR4) rfl (fun H1 hH hS => ?_)
    have hH : bH D z (cx cs i 7 [.null, .null, .null, .null, .null, .null, .int 0, .int 0, .int 0, .int 0, .int 0, .int 0, .int 0] [be_i cT 6]) _ := hH
    refine ck_put B hH hS hlt (C := RX7) (T := TX7) (N := 13) (k := 2) (ty0 := tyX7) rfl in_X7 tyX7_ok nmX7 (Nat.le_of_ble_eq_true rfl) fw_X7_9 hin rfl rfl rfl (Nat.le_of_ble_eq_true rfl) dX7_init_9 (fun H1 locs1 hH hS => ?_)
    have hH : bH D z (cx cs i 7 [.null, .null, .ref (z + cs.length + 0), .null, .null, .null, .int 0, .int 0, .int 0, .int 0, .int 0, .int 0, .int 0] [be_i cT 6]) _ := hH
    refine lv_aload_n B.1 B.2.1 dX7_init_12 rfl (lv_at hl 0 rfl) ?_
    refine lv_bipush B.1 B.2.1 (v := 6) dX7_init_13 (by decide) ?_
    refine ck_newi B hH hS (n := 6) (k := 6) (o := 1) dX7_init_15 (by decide) (by decide) (by decide) wi_aI (Nat.le_trans (Nat.le_of_ble_eq_true rfl) hR3) (Nat.le_trans (Nat.le_of_ble_eq_true rfl) hR4) rfl (fun H1 hH hS => ?_)
    have hH : bH D z (cx cs i 7 [.null, .null, .ref (z + cs.length + 0), .null, .null, .null, .int 0, .int 0, .int 0, .int 0, .int 0, .int 0, .int 0] [be_i cT 6, be_i cT 6]) _ := hH
    refine ck_put B hH hS hlt (C := RX7) (T := TX7) (N := 13) (k := 3) (ty0 := tyX7) rfl in_X7 tyX7_ok nmX7 (Nat.le_of_ble_eq_true rfl) fw_X7_15 hin rfl rfl rfl (Nat.le_of_ble_eq_true rfl) dX7_init_17 (fun H1 locs1 hH hS => ?_)
    have hH : bH D z (cx cs i 7 [.null, .null, .ref (z + cs.length + 0), .ref (z + cs.length + 1), .null, .null, .int 0, .int 0, .int 0, .int 0, .int 0, .int 0, .int 0] [be_i cT 6, be_i cT 6]) _ := hH
    refine lv_aload_n B.1 B.2.1 dX7_init_20 rfl (lv_at hl 0 rfl) ?_
    refine lv_bipush B.1 B.2.1 (v := 6) dX7_init_21 (by decide) ?_
    refine lv_iconst B.1 B.2.1 (v := 4) dX7_init_23 (by decide) ?_
    refine ck_mi B hH hS (n := 6) (k := 4) (n' := 6) (k' := 4) (o := 2) cl_X7_18 wi_aI dX7_init_24 (by decide) (by decide) (by decide) (by decide) (by decide) (by decide) (Nat.le_trans (Nat.le_of_ble_eq_true rfl) hR3) (Nat.le_trans (Nat.le_of_ble_eq_true rfl) hR4) rfl (fun H1 locs1 hH hS => ?_)
    have hH : bH D z (cx cs i 7 [.null, .null, .ref (z + cs.length + 0), .ref (z + cs.length + 1), .null, .null, .int 0, .int 0, .int 0, .int 0, .int 0, .int 0, .int 0] [be_i cT 6, be_i cT 6, be_q cT 3 6 (z + cs.length + 3), be_i cT 4, be_i cT 4, be_i cT 4, be_i cT 4, be_i cT 4, be_i cT 4]) _ := hH
    refine ck_put B hH hS hlt (C := RX7) (T := TX7) (N := 13) (k := 4) (ty0 := tyX7) rfl in_X7 tyX7_ok nmX7 (Nat.le_of_ble_eq_true rfl) fw_X7_20 hin rfl rfl rfl (Nat.le_of_ble_eq_true rfl) dX7_init_28 (fun H1 locs1 hH hS => ?_)
    have hH : bH D z (cx cs i 7 [.null, .null, .ref (z + cs.length + 0), .ref (z + cs.length + 1), .ref (z + cs.length + 2), .null, .int 0, .int 0, .int 0, .int 0, .int 0, .int 0, .int 0] [be_i cT 6, be_i cT 6, be_q cT 3 6 (z + cs.length + 3), be_i cT 4, be_i cT 4, be_i cT 4, be_i cT 4, be_i cT 4, be_i cT 4]) _ := hH
    refine lv_aload_n B.1 B.2.1 dX7_init_31 rfl (lv_at hl 0 rfl) ?_
    refine lv_bipush B.1 B.2.1 (v := 7) dX7_init_32 (by decide) ?_
    refine ck_newi B hH hS (n := 7) (k := 7) (o := 9) dX7_init_34 (by decide) (by decide) (by decide) wi_aI (Nat.le_trans (Nat.le_of_ble_eq_true rfl) hR3) (Nat.le_trans (Nat.le_of_ble_eq_true rfl) hR4) rfl (fun H1 hH hS => ?_)
    have hH : bH D z (cx cs i 7 [.null, .null, .ref (z + cs.length + 0), .ref (z + cs.length + 1), .ref (z + cs.length + 2), .null, .int 0, .int 0, .int 0, .int 0, .int 0, .int 0, .int 0] [be_i cT 6, be_i cT 6, be_q cT 3 6 (z + cs.length + 3), be_i cT 4, be_i cT 4, be_i cT 4, be_i cT 4, be_i cT 4, be_i cT 4, be_i cT 7]) _ := hH
    refine ck_put B hH hS hlt (C := RX7) (T := TX7) (N := 13) (k := 5) (ty0 := tyX7) rfl in_X7 tyX7_ok nmX7 (Nat.le_of_ble_eq_true rfl) fw_X7_23 hin rfl rfl rfl (Nat.le_of_ble_eq_true rfl) dX7_init_36 (fun H1 locs1 hH hS => ?_)
    have hH : bH D z (cx cs i 7 [.null, .null, .ref (z + cs.length + 0), .ref (z + cs.length + 1), .ref (z + cs.length + 2), .ref (z + cs.length + 9), .int 0, .int 0, .int 0, .int 0, .int 0, .int 0, .int 0] [be_i cT 6, be_i cT 6, be_q cT 3 6 (z + cs.length + 3), be_i cT 4, be_i cT 4, be_i cT 4, be_i cT 4, be_i cT 4, be_i cT 4, be_i cT 7]) _ := hH
    refine lv_aload_n B.1 B.2.1 dX7_init_39 rfl (lv_at hl 0 rfl) ?_
    refine lv_aload_n B.1 B.2.1 dX7_init_40 rfl (lv_at hl 1 rfl) ?_
    refine ck_put B hH hS hlt (C := RX7) (T := TX7) (N := 13) (k := 0) (ty0 := tyX7) rfl in_X7 tyX7_ok nmX7 (Nat.le_of_ble_eq_true rfl) fw_X7_26 hin rfl rfl rfl (Nat.le_of_ble_eq_true rfl) dX7_init_41 (fun H1 locs1 hH hS => ?_)
    have hH : bH D z (cx cs i 7 [.ref a1, .null, .ref (z + cs.length + 0), .ref (z + cs.length + 1), .ref (z + cs.length + 2), .ref (z + cs.length + 9), .int 0, .int 0, .int 0, .int 0, .int 0, .int 0, .int 0] [be_i cT 6, be_i cT 6, be_q cT 3 6 (z + cs.length + 3), be_i cT 4, be_i cT 4, be_i cT 4, be_i cT 4, be_i cT 4, be_i cT 4, be_i cT 7]) _ := hH
    refine lv_aload_n B.1 B.2.1 dX7_init_44 rfl (lv_at hl 0 rfl) ?_
    refine lv_aload_n B.1 B.2.1 dX7_init_45 rfl (lv_at hl 2 rfl) ?_
    refine ck_put B hH hS hlt (C := RX7) (T := TX7) (N := 13) (k := 1) (ty0 := tyX7) rfl in_X7 tyX7_ok nmX7 (Nat.le_of_ble_eq_true rfl) fw_X7_30 hin rfl rfl rfl (Nat.le_of_ble_eq_true rfl) dX7_init_46 (fun H1 locs1 hH hS => ?_)
    have hH : bH D z (cx cs i 7 [.ref a1, .ref a2, .ref (z + cs.length + 0), .ref (z + cs.length + 1), .ref (z + cs.length + 2), .ref (z + cs.length + 9), .int 0, .int 0, .int 0, .int 0, .int 0, .int 0, .int 0] [be_i cT 6, be_i cT 6, be_q cT 3 6 (z + cs.length + 3), be_i cT 4, be_i cT 4, be_i cT 4, be_i cT 4, be_i cT 4, be_i cT 4, be_i cT 7]) _ := hH
    exact bk_ret B hH hS rfl dX7_init_49
set_option maxHeartbeats 4000000 in
set_option maxRecDepth 100000 in
theorem ci_X2 (D : va_G) (cT : Nat → ClassId) (l : Launch) {z i o a1 a2 : Nat} {cs : List va_E} (h : cs[i]? = some (.inr (2, [.null, .null, .null, .null, .null, .int 0, .int 0, .int 0]))) (ho : z + cs.length = o) : ct_I D cT l 1 me_X2_init [.ref (z + i), .ref a1, .ref a2] z cs (cx cs i 2 [.ref a1, .ref a2, .ref (o + 0), .ref (o + 1), .ref (o + 2), .int 0, .int 0, .int 0] [be_i cT 6, be_i cT 5, be_i cT 6]) 3 17 := by
  subst ho
  have hlt : i < cs.length := (List.getElem?_eq_some_iff.mp h).1
  refine ci_of (by decide +kernel) (Nat.le_of_ble_eq_true rfl) rfl rfl (fun p e R s m args below meth c ls hR1 hR2 hR3 hR4 B hin hH hl => ?_)
  · have hH : bH D z (cx cs i 2 [.null, .null, .null, .null, .null, .int 0, .int 0, .int 0] []) s.heap := by rw [cx_0 h]; exact hH
    have hS : va_S (bA z) s.heap s.heap [] := va_S.rf
    refine lv_aload_n B.1 B.2.1 dX2_init_0 rfl (lv_at hl 0 rfl) ?_
    refine bk_obj B wo_X2 wi_oi wi_oc (Nat.le_trans (Nat.le_of_ble_eq_true rfl) hR1) (Nat.le_trans (Nat.le_of_ble_eq_true rfl) hR2) hl.1 dX2_init_1 ?_
    refine lv_aload_n B.1 B.2.1 dX2_init_4 rfl (lv_at hl 0 rfl) ?_
    refine lv_bipush B.1 B.2.1 (v := 6) dX2_init_5 (by decide) ?_
    refine ck_newi B hH hS (n := 6) (k := 6) (o := 0) dX2_init_7 (by decide) (by decide) (by decide) wi_aI (Nat.le_trans (Nat.le_of_ble_eq_true rfl) hR3) (Nat.le_trans (Nat.le_of_ble_eq_true rfl) hR4) rfl (fun H1 hH hS => ?_)
    have hH : bH D z (cx cs i 2 [.null, .null, .null, .null, .null, .int 0, .int 0, .int 0] [be_i cT 6]) _ := hH
    refine ck_put B hH hS hlt (C := RX2) (T := TX2) (N := 8) (k := 2) (ty0 := tyX2) rfl in_X2 tyX2_ok nmX2 (Nat.le_of_ble_eq_true rfl) fw_X2_9 hin rfl rfl rfl (Nat.le_of_ble_eq_true rfl) dX2_init_9 (fun H1 locs1 hH hS => ?_)
    have hH : bH D z (cx cs i 2 [.null, .null, .ref (z + cs.length + 0), .null, .null, .int 0, .int 0, .int 0] [be_i cT 6]) _ := hH
    refine lv_aload_n B.1 B.2.1 dX2_init_12 rfl (lv_at hl 0 rfl) ?_
    refine lv_iconst B.1 B.2.1 (v := 5) dX2_init_13 (by decide) ?_
    refine ck_newi B hH hS (n := 5) (k := 5) (o := 1) dX2_init_14 (by decide) (by decide) (by decide) wi_aI (Nat.le_trans (Nat.le_of_ble_eq_true rfl) hR3) (Nat.le_trans (Nat.le_of_ble_eq_true rfl) hR4) rfl (fun H1 hH hS => ?_)
    have hH : bH D z (cx cs i 2 [.null, .null, .ref (z + cs.length + 0), .null, .null, .int 0, .int 0, .int 0] [be_i cT 6, be_i cT 5]) _ := hH
    refine ck_put B hH hS hlt (C := RX2) (T := TX2) (N := 8) (k := 3) (ty0 := tyX2) rfl in_X2 tyX2_ok nmX2 (Nat.le_of_ble_eq_true rfl) fw_X2_15 hin rfl rfl rfl (Nat.le_of_ble_eq_true rfl) dX2_init_16 (fun H1 locs1 hH hS => ?_)
    have hH : bH D z (cx cs i 2 [.null, .null, .ref (z + cs.length + 0), .ref (z + cs.length + 1), .null, .int 0, .int 0, .int 0] [be_i cT 6, be_i cT 5]) _ := hH
    refine lv_aload_n B.1 B.2.1 dX2_init_19 rfl (lv_at hl 0 rfl) ?_
    refine lv_bipush B.1 B.2.1 (v := 6) dX2_init_20 (by decide) ?_
    refine ck_newi B hH hS (n := 6) (k := 6) (o := 2) dX2_init_22 (by decide) (by decide) (by decide) wi_aI (Nat.le_trans (Nat.le_of_ble_eq_true rfl) hR3) (Nat.le_trans (Nat.le_of_ble_eq_true rfl) hR4) rfl (fun H1 hH hS => ?_)
    have hH : bH D z (cx cs i 2 [.null, .null, .ref (z + cs.length + 0), .ref (z + cs.length + 1), .null, .int 0, .int 0, .int 0] [be_i cT 6, be_i cT 5, be_i cT 6]) _ := hH
    refine ck_put B hH hS hlt (C := RX2) (T := TX2) (N := 8) (k := 4) (ty0 := tyX2) rfl in_X2 tyX2_ok nmX2 (Nat.le_of_ble_eq_true rfl) fw_X2_18 hin rfl rfl rfl (Nat.le_of_ble_eq_true rfl) dX2_init_24 (fun H1 locs1 hH hS => ?_)
    have hH : bH D z (cx cs i 2 [.null, .null, .ref (z + cs.length + 0), .ref (z + cs.length + 1), .ref (z + cs.length + 2), .int 0, .int 0, .int 0] [be_i cT 6, be_i cT 5, be_i cT 6]) _ := hH
    refine lv_aload_n B.1 B.2.1 dX2_init_27 rfl (lv_at hl 0 rfl) ?_
    refine lv_aload_n B.1 B.2.1 dX2_init_28 rfl (lv_at hl 1 rfl) ?_
    refine ck_put B hH hS hlt (C := RX2) (T := TX2) (N := 8) (k := 0) (ty0 := tyX2) rfl in_X2 tyX2_ok nmX2 (Nat.le_of_ble_eq_true rfl) fw_X2_21 hin rfl rfl rfl (Nat.le_of_ble_eq_true rfl) dX2_init_29 (fun H1 locs1 hH hS => ?_)
    have hH : bH D z (cx cs i 2 [.ref a1, .null, .ref (z + cs.length + 0), .ref (z + cs.length + 1), .ref (z + cs.length + 2), .int 0, .int 0, .int 0] [be_i cT 6, be_i cT 5, be_i cT 6]) _ := hH
    refine lv_aload_n B.1 B.2.1 dX2_init_32 rfl (lv_at hl 0 rfl) ?_
    refine lv_aload_n B.1 B.2.1 dX2_init_33 rfl (lv_at hl 2 rfl) ?_
    refine ck_put B hH hS hlt (C := RX2) (T := TX2) (N := 8) (k := 1) (ty0 := tyX2) rfl in_X2 tyX2_ok nmX2 (Nat.le_of_ble_eq_true rfl) fw_X2_25 hin rfl rfl rfl (Nat.le_of_ble_eq_true rfl) dX2_init_34 (fun H1 locs1 hH hS => ?_)
    have hH : bH D z (cx cs i 2 [.ref a1, .ref a2, .ref (z + cs.length + 0), .ref (z + cs.length + 1), .ref (z + cs.length + 2), .int 0, .int 0, .int 0] [be_i cT 6, be_i cT 5, be_i cT 6]) _ := hH
    exact bk_ret B hH hS rfl dX2_init_37
set_option maxHeartbeats 4000000 in
set_option maxRecDepth 100000 in
theorem ci_X0 (D : va_G) (cT : Nat → ClassId) (l : Launch) {z i o a1 a2 : Nat} {cs : List va_E} (h : cs[i]? = some (.inr (0, [.null, .null, .null, .int 0, .int 0]))) (ho : z + cs.length = o) : ct_I D cT l 1 me_X0_init [.ref (z + i), .ref a1, .ref a2] z cs (cx cs i 0 [.ref a1, .ref a2, .ref (o + 0), .int 0, .int 0] [be_i cT 259]) 1 259 := by
  subst ho
  have hlt : i < cs.length := (List.getElem?_eq_some_iff.mp h).1
  refine ci_of (by decide +kernel) (Nat.le_of_ble_eq_true rfl) rfl rfl (fun p e R s m args below meth c ls hR1 hR2 hR3 hR4 B hin hH hl => ?_)
  · have hH : bH D z (cx cs i 0 [.null, .null, .null, .int 0, .int 0] []) s.heap := by rw [cx_0 h]; exact hH
    have hS : va_S (bA z) s.heap s.heap [] := va_S.rf
    refine lv_aload_n B.1 B.2.1 dX0_init_0 rfl (lv_at hl 0 rfl) ?_
    refine bk_obj B wo_X0 wi_oi wi_oc (Nat.le_trans (Nat.le_of_ble_eq_true rfl) hR1) (Nat.le_trans (Nat.le_of_ble_eq_true rfl) hR2) hl.1 dX0_init_1 ?_
    refine lv_aload_n B.1 B.2.1 dX0_init_4 rfl (lv_at hl 0 rfl) ?_
    refine lv_sipush B.1 B.2.1 (v := 259) dX0_init_5 (by decide) ?_
    refine ck_newi B hH hS (n := 259) (k := 259) (o := 0) dX0_init_8 (by decide) (by decide) (by decide) wi_aI (Nat.le_trans (Nat.le_of_ble_eq_true rfl) hR3) (Nat.le_trans (Nat.le_of_ble_eq_true rfl) hR4) rfl (fun H1 hH hS => ?_)
    have hH : bH D z (cx cs i 0 [.null, .null, .null, .int 0, .int 0] [be_i cT 259]) _ := hH
    refine ck_put B hH hS hlt (C := RX0) (T := TX0) (N := 5) (k := 2) (ty0 := tyX0) rfl in_X0 tyX0_ok nmX0 (Nat.le_of_ble_eq_true rfl) fw_X0_9 hin rfl rfl rfl (Nat.le_of_ble_eq_true rfl) dX0_init_10 (fun H1 locs1 hH hS => ?_)
    have hH : bH D z (cx cs i 0 [.null, .null, .ref (z + cs.length + 0), .int 0, .int 0] [be_i cT 259]) _ := hH
    refine lv_aload_n B.1 B.2.1 dX0_init_13 rfl (lv_at hl 0 rfl) ?_
    refine lv_aload_n B.1 B.2.1 dX0_init_14 rfl (lv_at hl 1 rfl) ?_
    refine ck_put B hH hS hlt (C := RX0) (T := TX0) (N := 5) (k := 0) (ty0 := tyX0) rfl in_X0 tyX0_ok nmX0 (Nat.le_of_ble_eq_true rfl) fw_X0_15 hin rfl rfl rfl (Nat.le_of_ble_eq_true rfl) dX0_init_15 (fun H1 locs1 hH hS => ?_)
    have hH : bH D z (cx cs i 0 [.ref a1, .null, .ref (z + cs.length + 0), .int 0, .int 0] [be_i cT 259]) _ := hH
    refine lv_aload_n B.1 B.2.1 dX0_init_18 rfl (lv_at hl 0 rfl) ?_
    refine lv_aload_n B.1 B.2.1 dX0_init_19 rfl (lv_at hl 2 rfl) ?_
    refine ck_put B hH hS hlt (C := RX0) (T := TX0) (N := 5) (k := 1) (ty0 := tyX0) rfl in_X0 tyX0_ok nmX0 (Nat.le_of_ble_eq_true rfl) fw_X0_19 hin rfl rfl rfl (Nat.le_of_ble_eq_true rfl) dX0_init_20 (fun H1 locs1 hH hS => ?_)
    have hH : bH D z (cx cs i 0 [.ref a1, .ref a2, .ref (z + cs.length + 0), .int 0, .int 0] [be_i cT 259]) _ := hH
    exact bk_ret B hH hS rfl dX0_init_23
set_option maxHeartbeats 4000000 in
set_option maxRecDepth 100000 in
theorem ci_X3 (D : va_G) (cT : Nat → ClassId) (l : Launch) {z i o : Nat} {cs : List va_E} (h : cs[i]? = some (.inr (3, [.null, .int 0, .null, .int 0, .int 0, .int 0]))) (ho : z + cs.length = o) : ct_I D cT l 1 me_X3_init [.ref (z + i)] z cs (cx cs i 3 [.ref (o + 0), .int 0, .ref (o + 1), .int 0, .int 0, .int 0] [be_i cT 50, be_i cT 24]) 2 74 := by
  subst ho
  have hlt : i < cs.length := (List.getElem?_eq_some_iff.mp h).1
  refine ci_of (by decide +kernel) (Nat.le_of_ble_eq_true rfl) rfl rfl (fun p e R s m args below meth c ls hR1 hR2 hR3 hR4 B hin hH hl => ?_)
  · have hH : bH D z (cx cs i 3 [.null, .int 0, .null, .int 0, .int 0, .int 0] []) s.heap := by rw [cx_0 h]; exact hH
    have hS : va_S (bA z) s.heap s.heap [] := va_S.rf
    refine lv_aload_n B.1 B.2.1 dX3_init_0 rfl (lv_at hl 0 rfl) ?_
    refine bk_obj B wo_X3 wi_oi wi_oc (Nat.le_trans (Nat.le_of_ble_eq_true rfl) hR1) (Nat.le_trans (Nat.le_of_ble_eq_true rfl) hR2) hl.1 dX3_init_1 ?_
    refine lv_aload_n B.1 B.2.1 dX3_init_4 rfl (lv_at hl 0 rfl) ?_
    refine lv_bipush B.1 B.2.1 (v := 50) dX3_init_5 (by decide) ?_
    refine ck_newi B hH hS (n := 50) (k := 50) (o := 0) dX3_init_7 (by decide) (by decide) (by decide) wi_aI (Nat.le_trans (Nat.le_of_ble_eq_true rfl) hR3) (Nat.le_trans (Nat.le_of_ble_eq_true rfl) hR4) rfl (fun H1 hH hS => ?_)
    have hH : bH D z (cx cs i 3 [.null, .int 0, .null, .int 0, .int 0, .int 0] [be_i cT 50]) _ := hH
    refine ck_put B hH hS hlt (C := RX3) (T := TX3) (N := 6) (k := 0) (ty0 := tyX3) rfl in_X3 tyX3_ok nmX3 (Nat.le_of_ble_eq_true rfl) fw_X3_9 hin rfl rfl rfl (Nat.le_of_ble_eq_true rfl) dX3_init_9 (fun H1 locs1 hH hS => ?_)
    have hH : bH D z (cx cs i 3 [.ref (z + cs.length + 0), .int 0, .null, .int 0, .int 0, .int 0] [be_i cT 50]) _ := hH
    refine lv_aload_n B.1 B.2.1 dX3_init_12 rfl (lv_at hl 0 rfl) ?_
    refine lv_bipush B.1 B.2.1 (v := 24) dX3_init_13 (by decide) ?_
    refine ck_newi B hH hS (n := 24) (k := 24) (o := 1) dX3_init_15 (by decide) (by decide) (by decide) wi_aI (Nat.le_trans (Nat.le_of_ble_eq_true rfl) hR3) (Nat.le_trans (Nat.le_of_ble_eq_true rfl) hR4) rfl (fun H1 hH hS => ?_)
    have hH : bH D z (cx cs i 3 [.ref (z + cs.length + 0), .int 0, .null, .int 0, .int 0, .int 0] [be_i cT 50, be_i cT 24]) _ := hH
    refine ck_put B hH hS hlt (C := RX3) (T := TX3) (N := 6) (k := 2) (ty0 := tyX3) rfl in_X3 tyX3_ok nmX3 (Nat.le_of_ble_eq_true rfl) fw_X3_15 hin rfl rfl rfl (Nat.le_of_ble_eq_true rfl) dX3_init_17 (fun H1 locs1 hH hS => ?_)
    have hH : bH D z (cx cs i 3 [.ref (z + cs.length + 0), .int 0, .ref (z + cs.length + 1), .int 0, .int 0, .int 0] [be_i cT 50, be_i cT 24]) _ := hH
    exact bk_ret B hH hS rfl dX3_init_20
set_option maxHeartbeats 4000000 in
set_option maxRecDepth 100000 in
theorem ci_X4 (D : va_G) (cT : Nat → ClassId) (l : Launch) {z i o : Nat} {cs : List va_E} (h : cs[i]? = some (.inr (4, [.null, .null, .null]))) (ho : z + cs.length = o) : ct_I D cT l 1 me_X4_init [.ref (z + i)] z cs (cx cs i 4 [.ref (o + 0), .ref (o + 1), .ref (o + 2)] [.inl (cT 1, (6, .inl (upd (upd (upd (upd (upd (upd (fun _ => 0) 0 (-1)) 1 (-1)) 2 (-1)) 3 (-1)) 4 (-1)) 5 (-1)))), be_i cT 6, be_q cT 4 6 (o + 3), be_l cT 60, be_l cT 60, be_l cT 60, be_l cT 60, be_l cT 60, be_l cT 60]) 9 378 := by
  subst ho
  have hlt : i < cs.length := (List.getElem?_eq_some_iff.mp h).1
  refine ci_of (by decide +kernel) (Nat.le_of_ble_eq_true rfl) rfl rfl (fun p e R s m args below meth c ls hR1 hR2 hR3 hR4 B hin hH hl => ?_)
  · have hH : bH D z (cx cs i 4 [.null, .null, .null] []) s.heap := by rw [cx_0 h]; exact hH
    have hS : va_S (bA z) s.heap s.heap [] := va_S.rf
    refine lv_aload_n B.1 B.2.1 dX4_init_0 rfl (lv_at hl 0 rfl) ?_
    refine bk_obj B wo_X4 wi_oi wi_oc (Nat.le_trans (Nat.le_of_ble_eq_true rfl) hR1) (Nat.le_trans (Nat.le_of_ble_eq_true rfl) hR2) hl.1 dX4_init_1 ?_
    refine lv_aload_n B.1 B.2.1 dX4_init_4 rfl (lv_at hl 0 rfl) ?_
    refine lv_bipush B.1 B.2.1 (v := 6) dX4_init_5 (by decide) ?_
    refine ck_newi B hH hS (n := 6) (k := 6) (o := 0) dX4_init_7 (by decide) (by decide) (by decide) wi_aI (Nat.le_trans (Nat.le_of_ble_eq_true rfl) hR3) (Nat.le_trans (Nat.le_of_ble_eq_true rfl) hR4) rfl (fun H1 hH hS => ?_)
    have hH : bH D z (cx cs i 4 [.null, .null, .null] [be_i cT 6]) _ := hH
    refine ck_put B hH hS hlt (C := RX4) (T := TX4) (N := 3) (k := 0) (ty0 := tyX4) rfl in_X4 tyX4_ok nmX4 (Nat.le_of_ble_eq_true rfl) fw_X4_9 hin rfl rfl rfl (Nat.le_of_ble_eq_true rfl) dX4_init_9 (fun H1 locs1 hH hS => ?_)
    have hH : bH D z (cx cs i 4 [.ref (z + cs.length + 0), .null, .null] [be_i cT 6]) _ := hH
    refine lv_aload_n B.1 B.2.1 dX4_init_12 rfl (lv_at hl 0 rfl) ?_
    refine lv_bipush B.1 B.2.1 (v := 6) dX4_init_13 (by decide) ?_
    refine ck_newi B hH hS (n := 6) (k := 6) (o := 1) dX4_init_15 (by decide) (by decide) (by decide) wi_aI (Nat.le_trans (Nat.le_of_ble_eq_true rfl) hR3) (Nat.le_trans (Nat.le_of_ble_eq_true rfl) hR4) rfl (fun H1 hH hS => ?_)
    have hH : bH D z (cx cs i 4 [.ref (z + cs.length + 0), .null, .null] [be_i cT 6, be_i cT 6]) _ := hH
    refine ck_put B hH hS hlt (C := RX4) (T := TX4) (N := 3) (k := 1) (ty0 := tyX4) rfl in_X4 tyX4_ok nmX4 (Nat.le_of_ble_eq_true rfl) fw_X4_15 hin rfl rfl rfl (Nat.le_of_ble_eq_true rfl) dX4_init_17 (fun H1 locs1 hH hS => ?_)
    have hH : bH D z (cx cs i 4 [.ref (z + cs.length + 0), .ref (z + cs.length + 1), .null] [be_i cT 6, be_i cT 6]) _ := hH
    refine lv_aload_n B.1 B.2.1 dX4_init_20 rfl (lv_at hl 0 rfl) ?_
    refine lv_bipush B.1 B.2.1 (v := 6) dX4_init_21 (by decide) ?_
    refine lv_bipush B.1 B.2.1 (v := 60) dX4_init_23 (by decide) ?_
    refine ck_ml B hH hS (n := 6) (k := 60) (n' := 6) (k' := 60) (o := 2) cl_X4_18 wi_aL dX4_init_25 (by decide) (by decide) (by decide) (by decide) (by decide) (by decide) (Nat.le_trans (Nat.le_of_ble_eq_true rfl) hR3) (Nat.le_trans (Nat.le_of_ble_eq_true rfl) hR4) rfl (fun H1 locs1 hH hS => ?_)
    have hH : bH D z (cx cs i 4 [.ref (z + cs.length + 0), .ref (z + cs.length + 1), .null] [be_i cT 6, be_i cT 6, be_q cT 4 6 (z + cs.length + 3), be_l cT 60, be_l cT 60, be_l cT 60, be_l cT 60, be_l cT 60, be_l cT 60]) _ := hH
    refine ck_put B hH hS hlt (C := RX4) (T := TX4) (N := 3) (k := 2) (ty0 := tyX4) rfl in_X4 tyX4_ok nmX4 (Nat.le_of_ble_eq_true rfl) fw_X4_20 hin rfl rfl rfl (Nat.le_of_ble_eq_true rfl) dX4_init_29 (fun H1 locs1 hH hS => ?_)
    have hH : bH D z (cx cs i 4 [.ref (z + cs.length + 0), .ref (z + cs.length + 1), .ref (z + cs.length + 2)] [be_i cT 6, be_i cT 6, be_q cT 4 6 (z + cs.length + 3), be_l cT 60, be_l cT 60, be_l cT 60, be_l cT 60, be_l cT 60, be_l cT 60]) _ := hH
    refine lv_iconst B.1 B.2.1 (v := 0) dX4_init_32 (by decide) ?_
    refine lv_istore_n B.1 B.2.1 (x := nI 0) (lv' := [(1, .int (nI 0)), (0, .ref (z + i))]) dX4_init_33 rfl hl (by decide) rfl (fun ls hl => ?_)
    refine lv_iload_n B.1 B.2.1 dX4_init_34 rfl (lv_at hl 0 rfl) ?_
    refine lv_bipush B.1 B.2.1 (v := 6) dX4_init_35 (by decide) ?_
    refine lv_icmp_ge B.1 B.2.1 (tgt := 53) dX4_init_37 (by decide) (fun h => absurd h (by decide)) (fun _ => ?_)
    refine lv_aload_n B.1 B.2.1 dX4_init_40 rfl (lv_at hl 1 rfl) ?_
    refine ck_get B hH hlt (C := RX4) (T := TX4) (N := 3) (k := 0) (v := .ref (z + cs.length + 0)) rfl in_X4 (Nat.le_of_ble_eq_true rfl) fw_X4_9 rfl dX4_init_41 ?_
    refine lv_iload_n B.1 B.2.1 dX4_init_44 rfl (lv_at hl 0 rfl) ?_
    refine lv_iconst B.1 B.2.1 (v := (-1)) dX4_init_45 (by decide) ?_
    refine ck_iast B hH hS (q := 0) (n := 6) (j := 0) (x := (-1)) rfl (by decide) (by decide) dX4_init_46 (fun H1 locs1 hH hS => ?_)
    have hH : bH D z (cx cs i 4 [.ref (z + cs.length + 0), .ref (z + cs.length + 1), .ref (z + cs.length + 2)] [.inl (cT 1, (6, .inl (upd (fun _ => 0) 0 (-1)))), be_i cT 6, be_q cT 4 6 (z + cs.length + 3), be_l cT 60, be_l cT 60, be_l cT 60, be_l cT 60, be_l cT 60, be_l cT 60]) _ := hH
    refine lv_iinc B.1 B.2.1 (v := nI 1) (k := 0) (lv' := [(1, .int (nI 1)), (0, .ref (z + i))]) dX4_init_47 hl rfl (by decide) (by decide) rfl (fun ls hl => ?_)
    refine lv_goto B.1 B.2.1 (tgt := 34) dX4_init_50 (by decide) ?_
    refine lv_iload_n B.1 B.2.1 dX4_init_34 rfl (lv_at hl 0 rfl) ?_
    refine lv_bipush B.1 B.2.1 (v := 6) dX4_init_35 (by decide) ?_
    refine lv_icmp_ge B.1 B.2.1 (tgt := 53) dX4_init_37 (by decide) (fun h => absurd h (by decide)) (fun _ => ?_)
    refine lv_aload_n B.1 B.2.1 dX4_init_40 rfl (lv_at hl 1 rfl) ?_
    refine ck_get B hH hlt (C := RX4) (T := TX4) (N := 3) (k := 0) (v := .ref (z + cs.length + 0)) rfl in_X4 (Nat.le_of_ble_eq_true rfl) fw_X4_9 rfl dX4_init_41 ?_
    refine lv_iload_n B.1 B.2.1 dX4_init_44 rfl (lv_at hl 0 rfl) ?_
    refine lv_iconst B.1 B.2.1 (v := (-1)) dX4_init_45 (by decide) ?_
    refine ck_iast B hH hS (q := 0) (n := 6) (j := 1) (x := (-1)) rfl (by decide) (by decide) dX4_init_46 (fun H1 locs1 hH hS => ?_)
    have hH : bH D z (cx cs i 4 [.ref (z + cs.length + 0), .ref (z + cs.length + 1), .ref (z + cs.length + 2)] [.inl (cT 1, (6, .inl (upd (upd (fun _ => 0) 0 (-1)) 1 (-1)))), be_i cT 6, be_q cT 4 6 (z + cs.length + 3), be_l cT 60, be_l cT 60, be_l cT 60, be_l cT 60, be_l cT 60, be_l cT 60]) _ := hH
    refine lv_iinc B.1 B.2.1 (v := nI 2) (k := 0) (lv' := [(1, .int (nI 2)), (0, .ref (z + i))]) dX4_init_47 hl rfl (by decide) (by decide) rfl (fun ls hl => ?_)
    refine lv_goto B.1 B.2.1 (tgt := 34) dX4_init_50 (by decide) ?_
    refine lv_iload_n B.1 B.2.1 dX4_init_34 rfl (lv_at hl 0 rfl) ?_
    refine lv_bipush B.1 B.2.1 (v := 6) dX4_init_35 (by decide) ?_
    refine lv_icmp_ge B.1 B.2.1 (tgt := 53) dX4_init_37 (by decide) (fun h => absurd h (by decide)) (fun _ => ?_)
    refine lv_aload_n B.1 B.2.1 dX4_init_40 rfl (lv_at hl 1 rfl) ?_
    refine ck_get B hH hlt (C := RX4) (T := TX4) (N := 3) (k := 0) (v := .ref (z + cs.length + 0)) rfl in_X4 (Nat.le_of_ble_eq_true rfl) fw_X4_9 rfl dX4_init_41 ?_
    refine lv_iload_n B.1 B.2.1 dX4_init_44 rfl (lv_at hl 0 rfl) ?_
    refine lv_iconst B.1 B.2.1 (v := (-1)) dX4_init_45 (by decide) ?_
    refine ck_iast B hH hS (q := 0) (n := 6) (j := 2) (x := (-1)) rfl (by decide) (by decide) dX4_init_46 (fun H1 locs1 hH hS => ?_)
    have hH : bH D z (cx cs i 4 [.ref (z + cs.length + 0), .ref (z + cs.length + 1), .ref (z + cs.length + 2)] [.inl (cT 1, (6, .inl (upd (upd (upd (fun _ => 0) 0 (-1)) 1 (-1)) 2 (-1)))), be_i cT 6, be_q cT 4 6 (z + cs.length + 3), be_l cT 60, be_l cT 60, be_l cT 60, be_l cT 60, be_l cT 60, be_l cT 60]) _ := hH
    refine lv_iinc B.1 B.2.1 (v := nI 3) (k := 0) (lv' := [(1, .int (nI 3)), (0, .ref (z + i))]) dX4_init_47 hl rfl (by decide) (by decide) rfl (fun ls hl => ?_)
    refine lv_goto B.1 B.2.1 (tgt := 34) dX4_init_50 (by decide) ?_
    refine lv_iload_n B.1 B.2.1 dX4_init_34 rfl (lv_at hl 0 rfl) ?_
    refine lv_bipush B.1 B.2.1 (v := 6) dX4_init_35 (by decide) ?_
    refine lv_icmp_ge B.1 B.2.1 (tgt := 53) dX4_init_37 (by decide) (fun h => absurd h (by decide)) (fun _ => ?_)
    refine lv_aload_n B.1 B.2.1 dX4_init_40 rfl (lv_at hl 1 rfl) ?_
    refine ck_get B hH hlt (C := RX4) (T := TX4) (N := 3) (k := 0) (v := .ref (z + cs.length + 0)) rfl in_X4 (Nat.le_of_ble_eq_true rfl) fw_X4_9 rfl dX4_init_41 ?_
    refine lv_iload_n B.1 B.2.1 dX4_init_44 rfl (lv_at hl 0 rfl) ?_
    refine lv_iconst B.1 B.2.1 (v := (-1)) dX4_init_45 (by decide) ?_
    refine ck_iast B hH hS (q := 0) (n := 6) (j := 3) (x := (-1)) rfl (by decide) (by decide) dX4_init_46 (fun H1 locs1 hH hS => ?_)
    have hH : bH D z (cx cs i 4 [.ref (z + cs.length + 0), .ref (z + cs.length + 1), .ref (z + cs.length + 2)] [.inl (cT 1, (6, .inl (upd (upd (upd (upd (fun _ => 0) 0 (-1)) 1 (-1)) 2 (-1)) 3 (-1)))), be_i cT 6, be_q cT 4 6 (z + cs.length + 3), be_l cT 60, be_l cT 60, be_l cT 60, be_l cT 60, be_l cT 60, be_l cT 60]) _ := hH
    refine lv_iinc B.1 B.2.1 (v := nI 4) (k := 0) (lv' := [(1, .int (nI 4)), (0, .ref (z + i))]) dX4_init_47 hl rfl (by decide) (by decide) rfl (fun ls hl => ?_)
    refine lv_goto B.1 B.2.1 (tgt := 34) dX4_init_50 (by decide) ?_
    refine lv_iload_n B.1 B.2.1 dX4_init_34 rfl (lv_at hl 0 rfl) ?_
    refine lv_bipush B.1 B.2.1 (v := 6) dX4_init_35 (by decide) ?_
    refine lv_icmp_ge B.1 B.2.1 (tgt := 53) dX4_init_37 (by decide) (fun h => absurd h (by decide)) (fun _ => ?_)
    refine lv_aload_n B.1 B.2.1 dX4_init_40 rfl (lv_at hl 1 rfl) ?_
    refine ck_get B hH hlt (C := RX4) (T := TX4) (N := 3) (k := 0) (v := .ref (z + cs.length + 0)) rfl in_X4 (Nat.le_of_ble_eq_true rfl) fw_X4_9 rfl dX4_init_41 ?_
    refine lv_iload_n B.1 B.2.1 dX4_init_44 rfl (lv_at hl 0 rfl) ?_
    refine lv_iconst B.1 B.2.1 (v := (-1)) dX4_init_45 (by decide) ?_
    refine ck_iast B hH hS (q := 0) (n := 6) (j := 4) (x := (-1)) rfl (by decide) (by decide) dX4_init_46 (fun H1 locs1 hH hS => ?_)
    have hH : bH D z (cx cs i 4 [.ref (z + cs.length + 0), .ref (z + cs.length + 1), .ref (z + cs.length + 2)] [.inl (cT 1, (6, .inl (upd (upd (upd (upd (upd (fun _ => 0) 0 (-1)) 1 (-1)) 2 (-1)) 3 (-1)) 4 (-1)))), be_i cT 6, be_q cT 4 6 (z + cs.length + 3), be_l cT 60, be_l cT 60, be_l cT 60, be_l cT 60, be_l cT 60, be_l cT 60]) _ := hH
    refine lv_iinc B.1 B.2.1 (v := nI 5) (k := 0) (lv' := [(1, .int (nI 5)), (0, .ref (z + i))]) dX4_init_47 hl rfl (by decide) (by decide) rfl (fun ls hl => ?_)
    refine lv_goto B.1 B.2.1 (tgt := 34) dX4_init_50 (by decide) ?_
    refine lv_iload_n B.1 B.2.1 dX4_init_34 rfl (lv_at hl 0 rfl) ?_
    refine lv_bipush B.1 B.2.1 (v := 6) dX4_init_35 (by decide) ?_
    refine lv_icmp_ge B.1 B.2.1 (tgt := 53) dX4_init_37 (by decide) (fun h => absurd h (by decide)) (fun _ => ?_)
    refine lv_aload_n B.1 B.2.1 dX4_init_40 rfl (lv_at hl 1 rfl) ?_
    refine ck_get B hH hlt (C := RX4) (T := TX4) (N := 3) (k := 0) (v := .ref (z + cs.length + 0)) rfl in_X4 (Nat.le_of_ble_eq_true rfl) fw_X4_9 rfl dX4_init_41 ?_
    refine lv_iload_n B.1 B.2.1 dX4_init_44 rfl (lv_at hl 0 rfl) ?_
    refine lv_iconst B.1 B.2.1 (v := (-1)) dX4_init_45 (by decide) ?_
    refine ck_iast B hH hS (q := 0) (n := 6) (j := 5) (x := (-1)) rfl (by decide) (by decide) dX4_init_46 (fun H1 locs1 hH hS => ?_)
    have hH : bH D z (cx cs i 4 [.ref (z + cs.length + 0), .ref (z + cs.length + 1), .ref (z + cs.length + 2)] [.inl (cT 1, (6, .inl (upd (upd (upd (upd (upd (upd (fun _ => 0) 0 (-1)) 1 (-1)) 2 (-1)) 3 (-1)) 4 (-1)) 5 (-1)))), be_i cT 6, be_q cT 4 6 (z + cs.length + 3), be_l cT 60, be_l cT 60, be_l cT 60, be_l cT 60, be_l cT 60, be_l cT 60]) _ := hH
    refine lv_iinc B.1 B.2.1 (v := nI 6) (k := 0) (lv' := [(1, .int (nI 6)), (0, .ref (z + i))]) dX4_init_47 hl rfl (by decide) (by decide) rfl (fun ls hl => ?_)
    refine lv_goto B.1 B.2.1 (tgt := 34) dX4_init_50 (by decide) ?_
    refine lv_iload_n B.1 B.2.1 dX4_init_34 rfl (lv_at hl 0 rfl) ?_
    refine lv_bipush B.1 B.2.1 (v := 6) dX4_init_35 (by decide) ?_
    refine lv_icmp_ge B.1 B.2.1 (tgt := 53) dX4_init_37 (by decide) (fun _ => ?_) (fun h => absurd (by decide) h)
    exact bk_ret B hH hS rfl dX4_init_53
