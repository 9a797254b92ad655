def f_X8_name_0 (N : Nat) (a1 : Int32) (a2 : Int32) (μ : am_M) : Option (Unit × am_M) :=
if (128 : Int32) ≤ a1 then (some ((), μ)) else (am_gd a1 128 (fun j1 => am_nm (am_ui μ 67 0 j1 a2) (fun μ2 => some ((), μ2))))
def f_X8_name (N : Nat) (a1 : Int32) (a2 : Int32) (μ : am_M) : Option (Unit × am_M) := f_X8_name_0 N a1 a2 μ
set_option maxHeartbeats 4000000 in
set_option maxRecDepth 100000 in
theorem p_X8_name_0 (G : am_G) (l : Launch) (d : Nat) (hd0 : 0 ≤ d) (N : Nat) (a1 : Int32) (a2 : Int32) (μ : am_M) : sm_P G l am_cu d me_X8_name 0 [(0, .ref (am_ad G 4 0)), (1, .int a1), (2, .int a2)] [] μ (f_X8_name_0 N a1 a2 μ) := by
  unfold f_X8_name_0
  refine sm_iload_n (pc := 0) dX8_name_0 rfl 1 rfl ?_
  refine sm_sipush (pc := 1) dX8_name_1 (v := 128) (by decide) ?_
  refine sm_icmp_ge (pc := 4) (tgt := 14) dX8_name_4 (by decide) ?_ ?_
  · exact sm_vret (pc := 14) dX8_name_14 rfl
  · refine sm_aload_n (pc := 7) dX8_name_7 rfl 0 rfl ?_
    refine sm_getr (pc := 8) dX8_name_8 fi_X8_20 ?_
    refine sm_iload_n (pc := 11) dX8_name_11 rfl 1 rfl ?_
    refine sm_iload_n (pc := 12) dX8_name_12 rfl 2 rfl ?_
    refine sm_iast (pc := 13) dX8_name_13 ly_67 (by decide) (fun j1 hj1 => ?_)
    refine sm_nmM (fun μ2 => ?_)
    exact sm_vret (pc := 14) dX8_name_14 rfl
theorem c_X8_name (G : am_G) (l : Launch) (N : Nat) (a1 : Int32) (a2 : Int32) (μ : am_M) : ct_P G l am_cu 0 me_X8_name [.ref (am_ad G 4 0), .int a1, .int a2] μ (f_X8_name N a1 a2 μ) := ct_of (by decide +kernel) (Nat.le_of_ble_eq_true rfl) rfl (p_X8_name_0 G l 0 (Nat.le_refl _) N a1 a2 μ)

def f_X8_pop_0 (N : Nat) (μ : am_M) : Option (Int32 × am_M) :=
if 0 < (μ.1 4 0 5) then (am_nm (am_ui μ 4 0 5 ((μ.1 4 0 5) - (1 : Int32))) (fun μ1 => am_gd (μ1.1 4 0 5) 121 (fun j2 => some ((μ1.1 68 0 j2), μ1)))) else (some ((0 : Int32), μ))
def f_X8_pop (N : Nat) (μ : am_M) : Option (Int32 × am_M) := f_X8_pop_0 N μ
set_option maxHeartbeats 4000000 in
set_option maxRecDepth 100000 in
theorem p_X8_pop_0 (G : am_G) (l : Launch) (d : Nat) (hd0 : 0 ≤ d) (N : Nat) (μ : am_M) : sm_P G l am_ci d me_X8_pop 0 [(0, .ref (am_ad G 4 0))] [] μ (f_X8_pop_0 N μ) := by
  unfold f_X8_pop_0
  refine sm_aload_n (pc := 0) dX8_pop_0 rfl 0 rfl ?_
  refine sm_geti (pc := 1) dX8_pop_1 fi_X8_50 ?_
  refine sm_if_gt (pc := 4) (tgt := 9) dX8_pop_4 (by decide) ?_ ?_
  · refine sm_aload_n (pc := 9) dX8_pop_9 rfl 0 rfl ?_
    refine sm_dup (pc := 10) dX8_pop_10 rfl ?_
    refine sm_geti (pc := 11) dX8_pop_11 fi_X8_50 ?_
    refine sm_iconst (pc := 14) dX8_pop_14 (v := 1) (by decide) ?_
    refine sm_isub (pc := 15) dX8_pop_15 ?_
    refine sm_puti (pc := 16) dX8_pop_16 fi_X8_50 ?_
    refine sm_nmM (fun μ1 => ?_)
    refine sm_aload_n (pc := 19) dX8_pop_19 rfl 0 rfl ?_
    refine sm_getr (pc := 20) dX8_pop_20 fi_X8_23 ?_
    refine sm_aload_n (pc := 23) dX8_pop_23 rfl 0 rfl ?_
    refine sm_geti (pc := 24) dX8_pop_24 fi_X8_50 ?_
    refine sm_iald (pc := 27) dX8_pop_27 ly_68 (by decide) (fun j2 hj2 => ?_)
    exact sm_iret (pc := 28) dX8_pop_28 rfl
  · refine sm_iconst (pc := 7) dX8_pop_7 (v := 0) (by decide) ?_
    exact sm_iret (pc := 8) dX8_pop_8 rfl
theorem c_X8_pop (G : am_G) (l : Launch) (N : Nat) (μ : am_M) : ct_P G l am_ci 0 me_X8_pop [.ref (am_ad G 4 0)] μ (f_X8_pop N μ) := ct_of (by decide +kernel) (Nat.le_of_ble_eq_true rfl) rfl (p_X8_pop_0 G l 0 (Nat.le_refl _) N μ)

def f_X8_push_0 (N : Nat) (a1 : Int32) (μ : am_M) : Option (Unit × am_M) :=
if (121 : Int32) ≤ (μ.1 4 0 5) then (some ((), μ)) else (am_gd (μ.1 4 0 5) 121 (fun j1 => am_nm (am_ui μ 68 0 j1 a1) (fun μ2 => am_nm (am_ui μ2 4 0 5 ((μ2.1 4 0 5) + (1 : Int32))) (fun μ3 => some ((), μ3)))))
def f_X8_push (N : Nat) (a1 : Int32) (μ : am_M) : Option (Unit × am_M) := f_X8_push_0 N a1 μ
set_option maxHeartbeats 4000000 in
set_option maxRecDepth 100000 in
theorem p_X8_push_0 (G : am_G) (l : Launch) (d : Nat) (hd0 : 0 ≤ d) (N : Nat) (a1 : Int32) (μ : am_M) : sm_P G l am_cu d me_X8_push 0 [(0, .ref (am_ad G 4 0)), (1, .int a1)] [] μ (f_X8_push_0 N a1 μ) := by
  unfold f_X8_push_0
  refine sm_aload_n (pc := 0) dX8_push_0 rfl 0 rfl ?_
  refine sm_geti (pc := 1) dX8_push_1 fi_X8_50 ?_
  refine sm_bipush (pc := 4) dX8_push_4 (v := 121) (by decide) ?_
  refine sm_icmp_ge (pc := 6) (tgt := 29) dX8_push_6 (by decide) ?_ ?_
  · exact sm_vret (pc := 29) dX8_push_29 rfl
  · refine sm_aload_n (pc := 9) dX8_push_9 rfl 0 rfl ?_
    refine sm_getr (pc := 10) dX8_push_10 fi_X8_23 ?_
    refine sm_aload_n (pc := 13) dX8_push_13 rfl 0 rfl ?_
    refine sm_geti (pc := 14) dX8_push_14 fi_X8_50 ?_
    refine sm_iload_n (pc := 17) dX8_push_17 rfl 1 rfl ?_
    refine sm_iast (pc := 18) dX8_push_18 ly_68 (by decide) (fun j1 hj1 => ?_)
    refine sm_nmM (fun μ2 => ?_)
    refine sm_aload_n (pc := 19) dX8_push_19 rfl 0 rfl ?_
    refine sm_dup (pc := 20) dX8_push_20 rfl ?_
    refine sm_geti (pc := 21) dX8_push_21 fi_X8_50 ?_
    refine sm_iconst (pc := 24) dX8_push_24 (v := 1) (by decide) ?_
    refine sm_iadd (pc := 25) dX8_push_25 ?_
    refine sm_puti (pc := 26) dX8_push_26 fi_X8_50 ?_
    refine sm_nmM (fun μ3 => ?_)
    exact sm_vret (pc := 29) dX8_push_29 rfl
theorem c_X8_push (G : am_G) (l : Launch) (N : Nat) (a1 : Int32) (μ : am_M) : ct_P G l am_cu 0 me_X8_push [.ref (am_ad G 4 0), .int a1] μ (f_X8_push N a1 μ) := ct_of (by decide +kernel) (Nat.le_of_ble_eq_true rfl) rfl (p_X8_push_0 G l 0 (Nat.le_refl _) N a1 μ)

def f_X8_joined_100 (N : Nat) (μ : am_M) : Option (Int32 × am_M) :=
some ((1 : Int32), μ)
def f_X8_joined_0 (N : Nat) (a0 : Int32) (a1 : Int32) (a2 : Int32) (μ : am_M) : Option (Int32 × am_M) :=
if a0 = (37 : Int32) then (if a2 = 0 then (some ((0 : Int32), μ)) else (am_dv a2 (some ((am_rem a1 a2), μ)))) else (if a0 = (38 : Int32) then (if a1 = 0 then (some ((0 : Int32), μ)) else (if a2 = 0 then (some ((0 : Int32), μ)) else (some ((1 : Int32), μ)))) else (if a0 = (42 : Int32) then (some ((a1 * a2), μ)) else (if a0 = (43 : Int32) then (some ((a1 + a2), μ)) else (if a0 = (45 : Int32) then (some ((a1 - a2), μ)) else (if a0 = (47 : Int32) then (if a2 = 0 then (some ((0 : Int32), μ)) else (am_dv a2 (some ((a1 / a2), μ)))) else (if a0 = (60 : Int32) then (if a2 ≤ a1 then (some ((0 : Int32), μ)) else (some ((1 : Int32), μ))) else (if a0 = (61 : Int32) then (if a1 = a2 then (some ((1 : Int32), μ)) else (some ((0 : Int32), μ))) else (if a0 = (62 : Int32) then (if a1 ≤ a2 then (some ((0 : Int32), μ)) else (some ((1 : Int32), μ))) else (if a0 = (124 : Int32) then (if a1 = 0 then (if a2 = 0 then (some ((0 : Int32), μ)) else (f_X8_joined_100 N μ)) else (f_X8_joined_100 N μ)) else (some ((0 : Int32), μ)))))))))))
def f_X8_joined (N : Nat) (a0 : Int32) (a1 : Int32) (a2 : Int32) (μ : am_M) : Option (Int32 × am_M) := f_X8_joined_0 N a0 a1 a2 μ
set_option maxHeartbeats 4000000 in
set_option maxRecDepth 100000 in
theorem p_X8_joined_100 (G : am_G) (l : Launch) (d : Nat) (hd0 : 0 ≤ d) (N : Nat) (μ : am_M) : sm_P G l am_ci d me_X8_joined 100 [] [] μ (f_X8_joined_100 N μ) := by
  unfold f_X8_joined_100
  refine sm_iconst (pc := 100) dX8_joined_100 (v := 1) (by decide) ?_
  refine sm_goto (pc := 101) (tgt := 105) dX8_joined_101 (by decide) ?_
  exact sm_iret (pc := 105) dX8_joined_105 rfl
set_option maxHeartbeats 4000000 in
set_option maxRecDepth 100000 in
theorem p_X8_joined_0 (G : am_G) (l : Launch) (d : Nat) (hd0 : 0 ≤ d) (N : Nat) (a0 : Int32) (a1 : Int32) (a2 : Int32) (μ : am_M) : sm_P G l am_ci d me_X8_joined 0 [(0, .int a0), (1, .int a1), (2, .int a2)] [] μ (f_X8_joined_0 N a0 a1 a2 μ) := by
  unfold f_X8_joined_0
  refine sm_iload_n (pc := 0) dX8_joined_0 rfl 0 rfl ?_
  refine sm_ite (fun e1 => ?_) (fun e1 => ?_)
  · refine sm_lku (pc := 1) (off := 176) (tgt := 177) dX8_joined_1 (by decide) (by rw [e1]; decide) (by decide) ?_
    refine sm_iload_n (pc := 177) dX8_joined_177 rfl 2 rfl ?_
    refine sm_if_ne (pc := 178) (tgt := 185) dX8_joined_178 (by decide) ?_ ?_
    · refine sm_iload_n (pc := 185) dX8_joined_185 rfl 1 rfl ?_
      refine sm_iload_n (pc := 186) dX8_joined_186 rfl 2 rfl ?_
      refine sm_irem (pc := 187) dX8_joined_187 (fun _ => ?_)
      exact sm_iret (pc := 188) dX8_joined_188 rfl
    · refine sm_iconst (pc := 181) dX8_joined_181 (v := 0) (by decide) ?_
      refine sm_goto (pc := 182) (tgt := 188) dX8_joined_182 (by decide) ?_
      exact sm_iret (pc := 188) dX8_joined_188 rfl
  refine sm_ite (fun e2 => ?_) (fun e2 => ?_)
  · refine sm_lku (pc := 1) (off := 105) (tgt := 106) dX8_joined_1 (by decide) (by rw [e2]; decide) (by decide) ?_
    refine sm_iload_n (pc := 106) dX8_joined_106 rfl 1 rfl ?_
    refine sm_if_eq (pc := 107) (tgt := 118) dX8_joined_107 (by decide) ?_ ?_
    · refine sm_iconst (pc := 118) dX8_joined_118 (v := 0) (by decide) ?_
      exact sm_iret (pc := 119) dX8_joined_119 rfl
    · refine sm_iload_n (pc := 110) dX8_joined_110 rfl 2 rfl ?_
      refine sm_if_eq (pc := 111) (tgt := 118) dX8_joined_111 (by decide) ?_ ?_
      · refine sm_iconst (pc := 118) dX8_joined_118 (v := 0) (by decide) ?_
        exact sm_iret (pc := 119) dX8_joined_119 rfl
      · refine sm_iconst (pc := 114) dX8_joined_114 (v := 1) (by decide) ?_
        refine sm_goto (pc := 115) (tgt := 119) dX8_joined_115 (by decide) ?_
        exact sm_iret (pc := 119) dX8_joined_119 rfl
  refine sm_ite (fun e3 => ?_) (fun e3 => ?_)
  · refine sm_lku (pc := 1) (off := 160) (tgt := 161) dX8_joined_1 (by decide) (by rw [e3]; decide) (by decide) ?_
    refine sm_iload_n (pc := 161) dX8_joined_161 rfl 1 rfl ?_
    refine sm_iload_n (pc := 162) dX8_joined_162 rfl 2 rfl ?_
    refine sm_imul (pc := 163) dX8_joined_163 ?_
    exact sm_iret (pc := 164) dX8_joined_164 rfl
  refine sm_ite (fun e4 => ?_) (fun e4 => ?_)
  · refine sm_lku (pc := 1) (off := 152) (tgt := 153) dX8_joined_1 (by decide) (by rw [e4]; decide) (by decide) ?_
    refine sm_iload_n (pc := 153) dX8_joined_153 rfl 1 rfl ?_
    refine sm_iload_n (pc := 154) dX8_joined_154 rfl 2 rfl ?_
    refine sm_iadd (pc := 155) dX8_joined_155 ?_
    exact sm_iret (pc := 156) dX8_joined_156 rfl
  refine sm_ite (fun e5 => ?_) (fun e5 => ?_)
  · refine sm_lku (pc := 1) (off := 156) (tgt := 157) dX8_joined_1 (by decide) (by rw [e5]; decide) (by decide) ?_
    refine sm_iload_n (pc := 157) dX8_joined_157 rfl 1 rfl ?_
    refine sm_iload_n (pc := 158) dX8_joined_158 rfl 2 rfl ?_
    refine sm_isub (pc := 159) dX8_joined_159 ?_
    exact sm_iret (pc := 160) dX8_joined_160 rfl
  refine sm_ite (fun e6 => ?_) (fun e6 => ?_)
  · refine sm_lku (pc := 1) (off := 164) (tgt := 165) dX8_joined_1 (by decide) (by rw [e6]; decide) (by decide) ?_
    refine sm_iload_n (pc := 165) dX8_joined_165 rfl 2 rfl ?_
    refine sm_if_ne (pc := 166) (tgt := 173) dX8_joined_166 (by decide) ?_ ?_
    · refine sm_iload_n (pc := 173) dX8_joined_173 rfl 1 rfl ?_
      refine sm_iload_n (pc := 174) dX8_joined_174 rfl 2 rfl ?_
      refine sm_idiv (pc := 175) dX8_joined_175 (fun _ => ?_)
      exact sm_iret (pc := 176) dX8_joined_176 rfl
    · refine sm_iconst (pc := 169) dX8_joined_169 (v := 0) (by decide) ?_
      refine sm_goto (pc := 170) (tgt := 176) dX8_joined_170 (by decide) ?_
      exact sm_iret (pc := 176) dX8_joined_176 rfl
  refine sm_ite (fun e7 => ?_) (fun e7 => ?_)
  · refine sm_lku (pc := 1) (off := 119) (tgt := 120) dX8_joined_1 (by decide) (by rw [e7]; decide) (by decide) ?_
    refine sm_iload_n (pc := 120) dX8_joined_120 rfl 1 rfl ?_
    refine sm_iload_n (pc := 121) dX8_joined_121 rfl 2 rfl ?_
    refine sm_icmp_ge (pc := 122) (tgt := 129) dX8_joined_122 (by decide) ?_ ?_
    · refine sm_iconst (pc := 129) dX8_joined_129 (v := 0) (by decide) ?_
      exact sm_iret (pc := 130) dX8_joined_130 rfl
    · refine sm_iconst (pc := 125) dX8_joined_125 (v := 1) (by decide) ?_
      refine sm_goto (pc := 126) (tgt := 130) dX8_joined_126 (by decide) ?_
      exact sm_iret (pc := 130) dX8_joined_130 rfl
  refine sm_ite (fun e8 => ?_) (fun e8 => ?_)
  · refine sm_lku (pc := 1) (off := 130) (tgt := 131) dX8_joined_1 (by decide) (by rw [e8]; decide) (by decide) ?_
    refine sm_iload_n (pc := 131) dX8_joined_131 rfl 1 rfl ?_
    refine sm_iload_n (pc := 132) dX8_joined_132 rfl 2 rfl ?_
    refine sm_icmp_ne (pc := 133) (tgt := 140) dX8_joined_133 (by decide) ?_ ?_
    · refine sm_iconst (pc := 140) dX8_joined_140 (v := 0) (by decide) ?_
      exact sm_iret (pc := 141) dX8_joined_141 rfl
    · refine sm_iconst (pc := 136) dX8_joined_136 (v := 1) (by decide) ?_
      refine sm_goto (pc := 137) (tgt := 141) dX8_joined_137 (by decide) ?_
      exact sm_iret (pc := 141) dX8_joined_141 rfl
  refine sm_ite (fun e9 => ?_) (fun e9 => ?_)
  · refine sm_lku (pc := 1) (off := 141) (tgt := 142) dX8_joined_1 (by decide) (by rw [e9]; decide) (by decide) ?_
    refine sm_iload_n (pc := 142) dX8_joined_142 rfl 1 rfl ?_
    refine sm_iload_n (pc := 143) dX8_joined_143 rfl 2 rfl ?_
    refine sm_icmp_le (pc := 144) (tgt := 151) dX8_joined_144 (by decide) ?_ ?_
    · refine sm_iconst (pc := 151) dX8_joined_151 (v := 0) (by decide) ?_
      exact sm_iret (pc := 152) dX8_joined_152 rfl
    · refine sm_iconst (pc := 147) dX8_joined_147 (v := 1) (by decide) ?_
      refine sm_goto (pc := 148) (tgt := 152) dX8_joined_148 (by decide) ?_
      exact sm_iret (pc := 152) dX8_joined_152 rfl
  refine sm_ite (fun e10 => ?_) (fun e10 => ?_)
  · refine sm_lku (pc := 1) (off := 91) (tgt := 92) dX8_joined_1 (by decide) (by rw [e10]; decide) (by decide) ?_
    refine sm_iload_n (pc := 92) dX8_joined_92 rfl 1 rfl ?_
    refine sm_if_ne (pc := 93) (tgt := 100) dX8_joined_93 (by decide) ?_ ?_
    · refine sm_sub [] rfl ?_
      exact p_X8_joined_100 G l d hd0 N μ
    · refine sm_iload_n (pc := 96) dX8_joined_96 rfl 2 rfl ?_
      refine sm_if_eq (pc := 97) (tgt := 104) dX8_joined_97 (by decide) ?_ ?_
      · refine sm_iconst (pc := 104) dX8_joined_104 (v := 0) (by decide) ?_
        exact sm_iret (pc := 105) dX8_joined_105 rfl
      · refine sm_sub [] rfl ?_
        exact p_X8_joined_100 G l d hd0 N μ
  replace e1 := am_ne (n := 37) (by decide) e1
  replace e2 := am_ne (n := 38) (by decide) e2
  replace e3 := am_ne (n := 42) (by decide) e3
  replace e4 := am_ne (n := 43) (by decide) e4
  replace e5 := am_ne (n := 45) (by decide) e5
  replace e6 := am_ne (n := 47) (by decide) e6
  replace e7 := am_ne (n := 60) (by decide) e7
  replace e8 := am_ne (n := 61) (by decide) e8
  replace e9 := am_ne (n := 62) (by decide) e9
  replace e10 := am_ne (n := 124) (by decide) e10
  refine sm_lku (pc := 1) (off := 188) (tgt := 189) dX8_joined_1 (by decide) (am_lkd _ _ _ (by simp only [List.all_cons, List.all_nil, Bool.and_true, Bool.and_eq_true, bne_iff_ne, ne_eq]; omega)) (by decide) ?_
  refine sm_iconst (pc := 189) dX8_joined_189 (v := 0) (by decide) ?_
  exact sm_iret (pc := 190) dX8_joined_190 rfl
theorem c_X8_joined (G : am_G) (l : Launch) (N : Nat) (a0 : Int32) (a1 : Int32) (a2 : Int32) (μ : am_M) : ct_P G l am_ci 0 me_X8_joined [.int a0, .int a1, .int a2] μ (f_X8_joined N a0 a1 a2 μ) := ct_of (by decide +kernel) (Nat.le_of_ble_eq_true rfl) rfl (p_X8_joined_0 G l 0 (Nat.le_refl _) N a0 a1 a2 μ)

def f_X8_doStep_53 (N : Nat) (s0 : Int32) (μ : am_M) : Option (Unit × am_M) :=
am_bd (f_X8_push N s0 μ) (fun _ μ15 => some ((), μ15))
def f_X8_doStep_0 (N : Nat) (a1 : Int32) (μ : am_M) : Option (Unit × am_M) :=
if a1 < 0 then (am_bd (f_X6_isName N (-a1) μ) (fun y2 μ1 => if y2 = 0 then (if a1 = (-33 : Int32) then (am_bd (f_X8_pop N μ1) (fun y14 μ13 => if y14 = 0 then (f_X8_doStep_53 N (1 : Int32) μ13) else (f_X8_doStep_53 N (0 : Int32) μ13))) else (if a1 = (-126 : Int32) then (am_bd (f_X8_pop N μ1) (fun y11 μ10 => am_bd (f_X8_push N (-y11) μ10) (fun _ μ12 => some ((), μ12)))) else (am_bd (f_X8_pop N μ1) (fun y4 μ3 => am_bd (f_X8_pop N μ3) (fun y6 μ5 => am_bd (f_X8_joined N (-a1) y6 y4 μ5) (fun y8 μ7 => am_bd (f_X8_push N y8 μ7) (fun _ μ9 => some ((), μ9)))))))) else (am_gd (-a1) 128 (fun j16 => am_bd (f_X8_push N (μ1.1 67 0 j16) μ1) (fun _ μ17 => some ((), μ17)))))) else (am_bd (f_X8_push N a1 μ) (fun _ μ18 => some ((), μ18)))
def f_X8_doStep (N : Nat) (a1 : Int32) (μ : am_M) : Option (Unit × am_M) := f_X8_doStep_0 N a1 μ
set_option maxHeartbeats 4000000 in
set_option maxRecDepth 100000 in
theorem p_X8_doStep_53 (G : am_G) (l : Launch) (d : Nat) (hd0 : 1 ≤ d) (N : Nat) (s0 : Int32) (μ : am_M) : sm_P G l am_cu d me_X8_doStep 53 [(0, .ref (am_ad G 4 0))] [.int s0, .ref (am_ad G 4 0)] μ (f_X8_doStep_53 N s0 μ) := by
  unfold f_X8_doStep_53
  refine sm_callVv (pc := 53) (As := [.int s0]) (rest := []) dX8_doStep_53 (c_X8_push G l N s0 μ) (by omega) wl_X8_60 vm_X8_push rfl rfl (Nat.le_of_ble_eq_true rfl) (fun _ μ15 => ?_)
  refine sm_goto (pc := 56) (tgt := 96) dX8_doStep_56 (by decide) ?_
  exact sm_vret (pc := 96) dX8_doStep_96 rfl
set_option maxHeartbeats 4000000 in
set_option maxRecDepth 100000 in
theorem p_X8_doStep_0 (G : am_G) (l : Launch) (d : Nat) (hd0 : 1 ≤ d) (N : Nat) (a1 : Int32) (μ : am_M) : sm_P G l am_cu d me_X8_doStep 0 [(0, .ref (am_ad G 4 0)), (1, .int a1)] [] μ (f_X8_doStep_0 N a1 μ) := by
  unfold f_X8_doStep_0
  refine sm_iload_n (pc := 0) dX8_doStep_0 rfl 1 rfl ?_
  refine sm_if_lt (pc := 1) (tgt := 12) dX8_doStep_1 (by decide) ?_ ?_
  · refine sm_iload_n (pc := 12) dX8_doStep_12 rfl 1 rfl ?_
    refine sm_ineg (pc := 13) dX8_doStep_13 ?_
    refine sm_callNi (pc := 14) (As := [.int (-a1)]) (rest := []) dX8_doStep_14 (c_X6_isName G l N (-a1) μ) (by omega) wl_X8_63 st_X6_isName rfl rfl (Nat.le_of_ble_eq_true rfl) (fun y2 μ1 => ?_)
    refine sm_if_eq (pc := 17) (tgt := 34) dX8_doStep_17 (by decide) ?_ ?_
    · refine sm_iload_n (pc := 34) dX8_doStep_34 rfl 1 rfl ?_
      refine sm_bipush (pc := 35) dX8_doStep_35 (v := -33) (by decide) ?_
      refine sm_icmp_ne (pc := 37) (tgt := 59) dX8_doStep_37 (by decide) ?_ ?_
      · refine sm_iload_n (pc := 59) dX8_doStep_59 rfl 1 rfl ?_
        refine sm_bipush (pc := 60) dX8_doStep_60 (v := -126) (by decide) ?_
        refine sm_icmp_ne (pc := 62) (tgt := 77) dX8_doStep_62 (by decide) ?_ ?_
        · refine sm_aload_n (pc := 77) dX8_doStep_77 rfl 0 rfl ?_
          refine sm_callVi (pc := 78) (As := []) (rest := []) dX8_doStep_78 (c_X8_pop G l N μ1) (by omega) wl_X8_53 vm_X8_pop rfl rfl (Nat.le_of_ble_eq_true rfl) (fun y4 μ3 => ?_)
          refine sm_istore_n (pc := 81) (lv' := [(2, .int y4), (0, .ref (am_ad G 4 0)), (1, .int a1)]) dX8_doStep_81 rfl (by decide) rfl ?_
          refine sm_aload_n (pc := 82) dX8_doStep_82 rfl 1 rfl ?_
          refine sm_iload_n (pc := 83) dX8_doStep_83 rfl 2 rfl ?_
          refine sm_ineg (pc := 84) dX8_doStep_84 ?_
          refine sm_aload_n (pc := 85) dX8_doStep_85 rfl 1 rfl ?_
          refine sm_callVi (pc := 86) (As := []) (rest := [.int (-a1), .ref (am_ad G 4 0)]) dX8_doStep_86 (c_X8_pop G l N μ3) (by omega) wl_X8_53 vm_X8_pop rfl rfl (Nat.le_of_ble_eq_true rfl) (fun y6 μ5 => ?_)
          refine sm_iload_n (pc := 89) dX8_doStep_89 rfl 0 rfl ?_
          refine sm_callSi (pc := 90) (As := [.int (-a1), .int y6, .int y4]) (rest := [.ref (am_ad G 4 0)]) dX8_doStep_90 (c_X8_joined G l N (-a1) y6 y4 μ5) (by omega) wl_X8_67 st_X8_joined rfl rfl (Nat.le_of_ble_eq_true rfl) (fun y8 μ7 => ?_)
          refine sm_callVv (pc := 93) (As := [.int y8]) (rest := []) dX8_doStep_93 (c_X8_push G l N y8 μ7) (by omega) wl_X8_60 vm_X8_push rfl rfl (Nat.le_of_ble_eq_true rfl) (fun _ μ9 => ?_)
          exact sm_vret (pc := 96) dX8_doStep_96 rfl
        · refine sm_aload_n (pc := 65) dX8_doStep_65 rfl 0 rfl ?_
          refine sm_aload_n (pc := 66) dX8_doStep_66 rfl 0 rfl ?_
          refine sm_callVi (pc := 67) (As := []) (rest := [.ref (am_ad G 4 0)]) dX8_doStep_67 (c_X8_pop G l N μ1) (by omega) wl_X8_53 vm_X8_pop rfl rfl (Nat.le_of_ble_eq_true rfl) (fun y11 μ10 => ?_)
          refine sm_ineg (pc := 70) dX8_doStep_70 ?_
          refine sm_callVv (pc := 71) (As := [.int (-y11)]) (rest := []) dX8_doStep_71 (c_X8_push G l N (-y11) μ10) (by omega) wl_X8_60 vm_X8_push rfl rfl (Nat.le_of_ble_eq_true rfl) (fun _ μ12 => ?_)
          refine sm_goto (pc := 74) (tgt := 96) dX8_doStep_74 (by decide) ?_
          exact sm_vret (pc := 96) dX8_doStep_96 rfl
      · refine sm_aload_n (pc := 40) dX8_doStep_40 rfl 0 rfl ?_
        refine sm_aload_n (pc := 41) dX8_doStep_41 rfl 0 rfl ?_
        refine sm_callVi (pc := 42) (As := []) (rest := [.ref (am_ad G 4 0)]) dX8_doStep_42 (c_X8_pop G l N μ1) (by omega) wl_X8_53 vm_X8_pop rfl rfl (Nat.le_of_ble_eq_true rfl) (fun y14 μ13 => ?_)
        refine sm_if_ne (pc := 45) (tgt := 52) dX8_doStep_45 (by decide) ?_ ?_
        · refine sm_iconst (pc := 52) dX8_doStep_52 (v := 0) (by decide) ?_
          refine sm_sub [0] rfl ?_
          exact p_X8_doStep_53 G l d hd0 N (0 : Int32) μ13
        · refine sm_iconst (pc := 48) dX8_doStep_48 (v := 1) (by decide) ?_
          refine sm_goto (pc := 49) (tgt := 53) dX8_doStep_49 (by decide) ?_
          refine sm_sub [0] rfl ?_
          exact p_X8_doStep_53 G l d hd0 N (1 : Int32) μ13
    · refine sm_aload_n (pc := 20) dX8_doStep_20 rfl 0 rfl ?_
      refine sm_aload_n (pc := 21) dX8_doStep_21 rfl 0 rfl ?_
      refine sm_getr (pc := 22) dX8_doStep_22 fi_X8_20 ?_
      refine sm_iload_n (pc := 25) dX8_doStep_25 rfl 1 rfl ?_
      refine sm_ineg (pc := 26) dX8_doStep_26 ?_
      refine sm_iald (pc := 27) dX8_doStep_27 ly_67 (by decide) (fun j16 hj16 => ?_)
      refine sm_callVv (pc := 28) (As := [.int (μ1.1 67 0 j16)]) (rest := []) dX8_doStep_28 (c_X8_push G l N (μ1.1 67 0 j16) μ1) (by omega) wl_X8_60 vm_X8_push rfl rfl (Nat.le_of_ble_eq_true rfl) (fun _ μ17 => ?_)
      refine sm_goto (pc := 31) (tgt := 96) dX8_doStep_31 (by decide) ?_
      exact sm_vret (pc := 96) dX8_doStep_96 rfl
  · refine sm_aload_n (pc := 4) dX8_doStep_4 rfl 0 rfl ?_
    refine sm_iload_n (pc := 5) dX8_doStep_5 rfl 1 rfl ?_
    refine sm_callVv (pc := 6) (As := [.int a1]) (rest := []) dX8_doStep_6 (c_X8_push G l N a1 μ) (by omega) wl_X8_60 vm_X8_push rfl rfl (Nat.le_of_ble_eq_true rfl) (fun _ μ18 => ?_)
    refine sm_goto (pc := 9) (tgt := 96) dX8_doStep_9 (by decide) ?_
    exact sm_vret (pc := 96) dX8_doStep_96 rfl
theorem c_X8_doStep (G : am_G) (l : Launch) (N : Nat) (a1 : Int32) (μ : am_M) : ct_P G l am_cu 1 me_X8_doStep [.ref (am_ad G 4 0), .int a1] μ (f_X8_doStep N a1 μ) := ct_of (by decide +kernel) (Nat.le_of_ble_eq_true rfl) rfl (p_X8_doStep_0 G l 1 (Nat.le_refl _) N a1 μ)

def f_X8_workOut_99 (N : Nat) (r_25 : Int32 → Int32 → Int32 → am_M → Option (Int32 × am_M)) (x1 : Int32) (x2 : Int32) (x3 : Int32) (μ : am_M) : Option (Int32 × am_M) :=
r_25 x1 x2 (x3 + (1 : Int32)) μ
def f_X8_workOut_85 (N : Nat) (r_25 : Int32 → Int32 → Int32 → am_M → Option (Int32 × am_M)) (x1 : Int32) (x3 : Int32) (s0 : Int32) (μ : am_M) : Option (Int32 × am_M) :=
f_X8_workOut_99 N r_25 x1 s0 x3 μ
def f_X8_workOut_25 (N : Nat) (r_25 : Int32 → Int32 → Int32 → am_M → Option (Int32 × am_M)) (x1 : Int32) (x2 : Int32) (x3 : Int32) (μ : am_M) : Option (Int32 × am_M) :=
am_gd x1 4 (fun j4 => if (μ.1 65 0 j4) ≤ x3 then (some ((0 : Int32), μ)) else (am_gd x1 4 (fun j5 => am_gd x3 121 (fun j6 => am_nm (μ.1 364 j5 j6) (fun y7 => if y7 = (-59 : Int32) then (if x2 = 0 then (am_bd (f_X8_pop N μ) (fun y12 μ11 => some (y12, μ11))) else (f_X8_workOut_99 N r_25 x1 (0 : Int32) x3 μ)) else (if y7 = (-63 : Int32) then (am_bd (f_X8_pop N μ) (fun y10 μ9 => if y10 = 0 then (f_X8_workOut_85 N r_25 x1 x3 (1 : Int32) μ9) else (f_X8_workOut_85 N r_25 x1 x3 (0 : Int32) μ9))) else (if x2 = 0 then (am_bd (f_X8_doStep N y7 μ) (fun _ μ8 => f_X8_workOut_99 N r_25 x1 x2 x3 μ8)) else (f_X8_workOut_99 N r_25 x1 x2 x3 μ))))))))
def f_X8_workOut_25_lp (N : Nat) : Nat → Int32 → Int32 → Int32 → am_M → Option (Int32 × am_M)
  | 0, _, _, _, _ => none
  | n + 1, x1, x2, x3, μ => f_X8_workOut_25 N (f_X8_workOut_25_lp N n) x1 x2 x3 μ
def f_X8_workOut_0 (N : Nat) (a1 : Int32) (μ : am_M) : Option (Int32 × am_M) :=
am_bd (f_X9_isWithin N a1 (0 : Int32) ((μ.1 4 0 2) - (1 : Int32)) μ) (fun y2 μ1 => if y2 = 0 then (some ((0 : Int32), μ1)) else (am_nm (am_ui μ1 4 0 5 (0 : Int32)) (fun μ3 => f_X8_workOut_25_lp N N a1 (0 : Int32) (0 : Int32) μ3)))
def f_X8_workOut (N : Nat) (a1 : Int32) (μ : am_M) : Option (Int32 × am_M) := f_X8_workOut_0 N a1 μ
set_option maxHeartbeats 4000000 in
set_option maxRecDepth 100000 in
theorem p_X8_workOut_99 (G : am_G) (l : Launch) (d : Nat) (hd0 : 2 ≤ d) (N : Nat) (r_25 : Int32 → Int32 → Int32 → am_M → Option (Int32 × am_M)) (H_25 : ∀ (x1 : Int32) (x2 : Int32) (x3 : Int32) (μ : am_M), sm_P G l am_ci d me_X8_workOut 25 [(0, .ref (am_ad G 4 0)), (1, .int x1), (2, .int x2), (3, .int x3)] [] μ (r_25 x1 x2 x3 μ)) (x1 : Int32) (x2 : Int32) (x3 : Int32) (μ : am_M) : sm_P G l am_ci d me_X8_workOut 99 [(0, .ref (am_ad G 4 0)), (1, .int x1), (2, .int x2), (3, .int x3)] [] μ (f_X8_workOut_99 N r_25 x1 x2 x3 μ) := by
  unfold f_X8_workOut_99
  refine sm_iinc (pc := 99) (v := (x3 + (1 : Int32))) (lv' := [(3, .int (x3 + (1 : Int32))), (0, .ref (am_ad G 4 0)), (1, .int x1), (2, .int x2)]) dX8_workOut_99 3 rfl rfl (by decide) rfl ?_
  refine sm_goto (pc := 102) (tgt := 25) dX8_workOut_102 (by decide) ?_
  refine sm_sub [1, 2, 3, 0] rfl ?_
  exact H_25 x1 x2 (x3 + (1 : Int32)) μ
set_option maxHeartbeats 4000000 in
set_option maxRecDepth 100000 in
theorem p_X8_workOut_85 (G : am_G) (l : Launch) (d : Nat) (hd0 : 2 ≤ d) (N : Nat) (r_25 : Int32 → Int32 → Int32 → am_M → Option (Int32 × am_M)) (H_25 : ∀ (x1 : Int32) (x2 : Int32) (x3 : Int32) (μ : am_M), sm_P G l am_ci d me_X8_workOut 25 [(0, .ref (am_ad G 4 0)), (1, .int x1), (2, .int x2), (3, .int x3)] [] μ (r_25 x1 x2 x3 μ)) (x1 : Int32) (x3 : Int32) (s0 : Int32) (μ : am_M) : sm_P G l am_ci d me_X8_workOut 85 [(0, .ref (am_ad G 4 0)), (1, .int x1), (3, .int x3)] [.int s0] μ (f_X8_workOut_85 N r_25 x1 x3 s0 μ) := by
  unfold f_X8_workOut_85
  refine sm_istore_n (pc := 85) (lv' := [(2, .int s0), (0, .ref (am_ad G 4 0)), (1, .int x1), (3, .int x3)]) dX8_workOut_85 rfl (by decide) rfl ?_
  refine sm_goto (pc := 86) (tgt := 99) dX8_workOut_86 (by decide) ?_
  refine sm_sub [1, 2, 0, 3] rfl ?_
  exact p_X8_workOut_99 G l d hd0 N r_25 H_25 x1 s0 x3 μ
set_option maxHeartbeats 4000000 in
set_option maxRecDepth 100000 in
theorem p_X8_workOut_25 (G : am_G) (l : Launch) (d : Nat) (hd0 : 2 ≤ d) (N : Nat) (r_25 : Int32 → Int32 → Int32 → am_M → Option (Int32 × am_M)) (H_25 : ∀ (x1 : Int32) (x2 : Int32) (x3 : Int32) (μ : am_M), sm_P G l am_ci d me_X8_workOut 25 [(0, .ref (am_ad G 4 0)), (1, .int x1), (2, .int x2), (3, .int x3)] [] μ (r_25 x1 x2 x3 μ)) (x1 : Int32) (x2 : Int32) (x3 : Int32) (μ : am_M) : sm_P G l am_ci d me_X8_workOut 25 [(0, .ref (am_ad G 4 0)), (1, .int x1), (2, .int x2), (3, .int x3)] [] μ (f_X8_workOut_25 N r_25 x1 x2 x3 μ) := by
  unfold f_X8_workOut_25
  refine sm_iload_n (pc := 25) dX8_workOut_25 rfl 3 rfl ?_
  refine sm_aload_n (pc := 26) dX8_workOut_26 rfl 0 rfl ?_
  refine sm_getr (pc := 27) dX8_workOut_27 fi_X8_16 ?_
  refine sm_iload_n (pc := 30) dX8_workOut_30 rfl 1 rfl ?_
  refine sm_iald (pc := 31) dX8_workOut_31 ly_65 (by decide) (fun j4 hj4 => ?_)
  refine sm_icmp_ge (pc := 32) (tgt := 105) dX8_workOut_32 (by decide) ?_ ?_
  · refine sm_iconst (pc := 105) dX8_workOut_105 (v := 0) (by decide) ?_
    exact sm_iret (pc := 106) dX8_workOut_106 rfl
  · refine sm_aload_n (pc := 35) dX8_workOut_35 rfl 0 rfl ?_
    refine sm_getr (pc := 36) dX8_workOut_36 fi_X8_11 ?_
    refine sm_iload_n (pc := 39) dX8_workOut_39 rfl 1 rfl ?_
    refine sm_aald (pc := 40) (t := 0) (ty := .int) dX8_workOut_40 ly_64 (fun _ => rfl) (fun j5 hj5 => ?_)
    refine sm_iload_n (pc := 41) dX8_workOut_41 rfl 3 rfl ?_
    refine sm_iald (pc := 42) dX8_workOut_42 ly_364 hj5 (fun j6 hj6 => ?_)
    refine sm_nmI (fun y7 => ?_)
    refine sm_istore (pc := 43) (lv' := [(4, .int y7), (0, .ref (am_ad G 4 0)), (1, .int x1), (2, .int x2), (3, .int x3)]) dX8_workOut_43 (by decide) rfl ?_
    refine sm_iload (pc := 45) dX8_workOut_45 0 rfl ?_
    refine sm_bipush (pc := 47) dX8_workOut_47 (v := -59) (by decide) ?_
    refine sm_icmp_ne (pc := 49) (tgt := 66) dX8_workOut_49 (by decide) ?_ ?_
    · refine sm_iload (pc := 66) dX8_workOut_66 0 rfl ?_
      refine sm_bipush (pc := 68) dX8_workOut_68 (v := -63) (by decide) ?_
      refine sm_icmp_ne (pc := 70) (tgt := 89) dX8_workOut_70 (by decide) ?_ ?_
      · refine sm_iload_n (pc := 89) dX8_workOut_89 rfl 3 rfl ?_
        refine sm_if_ne (pc := 90) (tgt := 99) dX8_workOut_90 (by decide) ?_ ?_
        · refine sm_sub [1, 2, 3, 4] rfl ?_
          exact p_X8_workOut_99 G l d hd0 N r_25 H_25 x1 x2 x3 μ
        · refine sm_aload_n (pc := 93) dX8_workOut_93 rfl 1 rfl ?_
          refine sm_iload (pc := 94) dX8_workOut_94 0 rfl ?_
          refine sm_callVv (pc := 96) (As := [.int y7]) (rest := []) dX8_workOut_96 (c_X8_doStep G l N y7 μ) (by omega) wl_X8_56 vm_X8_doStep rfl rfl (Nat.le_of_ble_eq_true rfl) (fun _ μ8 => ?_)
          refine sm_sub [1, 2, 3, 4] rfl ?_
          exact p_X8_workOut_99 G l d hd0 N r_25 H_25 x1 x2 x3 μ8
      · refine sm_aload_n (pc := 73) dX8_workOut_73 rfl 1 rfl ?_
        refine sm_callVi (pc := 74) (As := []) (rest := []) dX8_workOut_74 (c_X8_pop G l N μ) (by omega) wl_X8_53 vm_X8_pop rfl rfl (Nat.le_of_ble_eq_true rfl) (fun y10 μ9 => ?_)
        refine sm_if_ne (pc := 77) (tgt := 84) dX8_workOut_77 (by decide) ?_ ?_
        · refine sm_iconst (pc := 84) dX8_workOut_84 (v := 0) (by decide) ?_
          refine sm_sub [1, 2, 4] rfl ?_
          exact p_X8_workOut_85 G l d hd0 N r_25 H_25 x1 x3 (0 : Int32) μ9
        · refine sm_iconst (pc := 80) dX8_workOut_80 (v := 1) (by decide) ?_
          refine sm_goto (pc := 81) (tgt := 85) dX8_workOut_81 (by decide) ?_
          refine sm_sub [1, 2, 4] rfl ?_
          exact p_X8_workOut_85 G l d hd0 N r_25 H_25 x1 x3 (1 : Int32) μ9
    · refine sm_iload_n (pc := 52) dX8_workOut_52 rfl 3 rfl ?_
      refine sm_if_ne (pc := 53) (tgt := 61) dX8_workOut_53 (by decide) ?_ ?_
      · refine sm_iconst (pc := 61) dX8_workOut_61 (v := 0) (by decide) ?_
        refine sm_istore_n (pc := 62) (lv' := [(2, .int (0 : Int32)), (4, .int y7), (0, .ref (am_ad G 4 0)), (1, .int x1), (3, .int x3)]) dX8_workOut_62 rfl (by decide) rfl ?_
        refine sm_goto (pc := 63) (tgt := 99) dX8_workOut_63 (by decide) ?_
        refine sm_sub [2, 3, 0, 4] rfl ?_
        exact p_X8_workOut_99 G l d hd0 N r_25 H_25 x1 (0 : Int32) x3 μ
      · refine sm_aload_n (pc := 56) dX8_workOut_56 rfl 1 rfl ?_
        refine sm_callVi (pc := 57) (As := []) (rest := []) dX8_workOut_57 (c_X8_pop G l N μ) (by omega) wl_X8_53 vm_X8_pop rfl rfl (Nat.le_of_ble_eq_true rfl) (fun y12 μ11 => ?_)
        exact sm_iret (pc := 60) dX8_workOut_60 rfl
theorem p_X8_workOut_25_lp (G : am_G) (l : Launch) (d : Nat) (hd0 : 2 ≤ d) (N : Nat) : ∀ (n : Nat) (x1 : Int32) (x2 : Int32) (x3 : Int32) (μ : am_M), sm_P G l am_ci d me_X8_workOut 25 [(0, .ref (am_ad G 4 0)), (1, .int x1), (2, .int x2), (3, .int x3)] [] μ (f_X8_workOut_25_lp N n x1 x2 x3 μ) := by
  intro n
  induction n with
  | zero => intros; exact sm_none
  | succ n ih => exact fun x1 x2 x3 μ => p_X8_workOut_25 G l d hd0 N (f_X8_workOut_25_lp N n) ih x1 x2 x3 μ
set_option maxHeartbeats 4000000 in
set_option maxRecDepth 100000 in
theorem p_X8_workOut_0 (G : am_G) (l : Launch) (d : Nat) (hd0 : 2 ≤ d) (N : Nat) (a1 : Int32) (μ : am_M) : sm_P G l am_ci d me_X8_workOut 0 [(0, .ref (am_ad G 4 0)), (1, .int a1)] [] μ (f_X8_workOut_0 N a1 μ) := by
  unfold f_X8_workOut_0
  refine sm_iload_n (pc := 0) dX8_workOut_0 rfl 1 rfl ?_
  refine sm_iconst (pc := 1) dX8_workOut_1 (v := 0) (by decide) ?_
  refine sm_aload_n (pc := 2) dX8_workOut_2 rfl 0 rfl ?_
  refine sm_geti (pc := 3) dX8_workOut_3 fi_X8_26 ?_
  refine sm_iconst (pc := 6) dX8_workOut_6 (v := 1) (by decide) ?_
  refine sm_isub (pc := 7) dX8_workOut_7 ?_
  refine sm_callNi (pc := 8) (As := [.int a1, .int (0 : Int32), .int ((μ.1 4 0 2) - (1 : Int32))]) (rest := []) dX8_workOut_8 (c_X9_isWithin G l N a1 (0 : Int32) ((μ.1 4 0 2) - (1 : Int32)) μ) (by omega) wl_X8_46 st_X9_isWithin rfl rfl (Nat.le_of_ble_eq_true rfl) (fun y2 μ1 => ?_)
  refine sm_if_ne (pc := 11) (tgt := 16) dX8_workOut_11 (by decide) ?_ ?_
  · refine sm_aload_n (pc := 16) dX8_workOut_16 rfl 0 rfl ?_
    refine sm_iconst (pc := 17) dX8_workOut_17 (v := 0) (by decide) ?_
    refine sm_puti (pc := 18) dX8_workOut_18 fi_X8_50 ?_
    refine sm_nmM (fun μ3 => ?_)
    refine sm_iconst (pc := 21) dX8_workOut_21 (v := 0) (by decide) ?_
    refine sm_istore_n (pc := 22) (lv' := [(2, .int (0 : Int32)), (0, .ref (am_ad G 4 0)), (1, .int a1)]) dX8_workOut_22 rfl (by decide) rfl ?_
    refine sm_iconst (pc := 23) dX8_workOut_23 (v := 0) (by decide) ?_
    refine sm_istore_n (pc := 24) (lv' := [(3, .int (0 : Int32)), (2, .int (0 : Int32)), (0, .ref (am_ad G 4 0)), (1, .int a1)]) dX8_workOut_24 rfl (by decide) rfl ?_
    refine sm_sub [2, 3, 1, 0] rfl ?_
    exact p_X8_workOut_25_lp G l d hd0 N N a1 (0 : Int32) (0 : Int32) μ3
  · refine sm_iconst (pc := 14) dX8_workOut_14 (v := 0) (by decide) ?_
    exact sm_iret (pc := 15) dX8_workOut_15 rfl
theorem c_X8_workOut (G : am_G) (l : Launch) (N : Nat) (a1 : Int32) (μ : am_M) : ct_P G l am_ci 2 me_X8_workOut [.ref (am_ad G 4 0), .int a1] μ (f_X8_workOut N a1 μ) := ct_of (by decide +kernel) (Nat.le_of_ble_eq_true rfl) rfl (p_X8_workOut_0 G l 2 (Nat.le_refl _) N a1 μ)

def f_X8_known_0 (N : Nat) (μ : am_M) : Option (Int32 × am_M) :=
some ((μ.1 4 0 2), μ)
def f_X8_known (N : Nat) (μ : am_M) : Option (Int32 × am_M) := f_X8_known_0 N μ
set_option maxHeartbeats 4000000 in
set_option maxRecDepth 100000 in
theorem p_X8_known_0 (G : am_G) (l : Launch) (d : Nat) (hd0 : 0 ≤ d) (N : Nat) (μ : am_M) : sm_P G l am_ci d me_X8_known 0 [(0, .ref (am_ad G 4 0))] [] μ (f_X8_known_0 N μ) := by
  unfold f_X8_known_0
  refine sm_aload_n (pc := 0) dX8_known_0 rfl 0 rfl ?_
  refine sm_geti (pc := 1) dX8_known_1 fi_X8_26 ?_
  exact sm_iret (pc := 4) dX8_known_4 rfl
theorem c_X8_known (G : am_G) (l : Launch) (N : Nat) (μ : am_M) : ct_P G l am_ci 0 me_X8_known [.ref (am_ad G 4 0)] μ (f_X8_known N μ) := ct_of (by decide +kernel) (Nat.le_of_ble_eq_true rfl) rfl (p_X8_known_0 G l 0 (Nat.le_refl _) N μ)

def f_X8_learn_23 (N : Nat) (r_23 : Int32 → Int32 → am_M → Option (Int32 × am_M)) (x2 : Int32) (x3 : Int32) (μ : am_M) : Option (Int32 × am_M) :=
if x2 ≤ x3 then (am_gd (μ.1 4 0 2) 4 (fun j4 => am_nm (am_ui μ 65 0 j4 x2) (fun μ5 => am_nm (am_ui μ5 4 0 2 ((μ5.1 4 0 2) + (1 : Int32))) (fun μ6 => some ((μ5.1 4 0 2), μ6))))) else (am_gd (μ.1 4 0 2) 4 (fun j7 => am_bd (f_X6_stepAt N x3 μ) (fun y9 μ8 => am_gd x3 121 (fun j10 => am_nm (am_ui μ8 364 j7 j10 y9) (fun μ11 => r_23 x2 (x3 + (1 : Int32)) μ11)))))
def f_X8_learn_23_lp (N : Nat) : Nat → Int32 → Int32 → am_M → Option (Int32 × am_M)
  | 0, _, _, _ => none
  | n + 1, x2, x3, μ => f_X8_learn_23 N (f_X8_learn_23_lp N n) x2 x3 μ
def f_X8_learn_0 (N : Nat) (μ : am_M) : Option (Int32 × am_M) :=
if (μ.1 4 0 2) < (4 : Int32) then (am_bd (f_X6_size N μ) (fun y2 μ1 => am_nm (if (121 : Int32) < y2 then (121 : Int32) else y2) (fun y3 => f_X8_learn_23_lp N N y3 (0 : Int32) μ1))) else (some ((-3 : Int32), μ))
def f_X8_learn (N : Nat) (μ : am_M) : Option (Int32 × am_M) := f_X8_learn_0 N μ
set_option maxHeartbeats 4000000 in
set_option maxRecDepth 100000 in
theorem p_X8_learn_23 (G : am_G) (l : Launch) (d : Nat) (hd0 : 2 ≤ d) (N : Nat) (r_23 : Int32 → Int32 → am_M → Option (Int32 × am_M)) (H_23 : ∀ (x2 : Int32) (x3 : Int32) (μ : am_M), sm_P G l am_ci d me_X8_learn 23 [(0, .ref (am_ad G 4 0)), (1, .ref (am_ad G 3 0)), (2, .int x2), (3, .int x3)] [] μ (r_23 x2 x3 μ)) (x2 : Int32) (x3 : Int32) (μ : am_M) : sm_P G l am_ci d me_X8_learn 23 [(0, .ref (am_ad G 4 0)), (1, .ref (am_ad G 3 0)), (2, .int x2), (3, .int x3)] [] μ (f_X8_learn_23 N r_23 x2 x3 μ) := by
  unfold f_X8_learn_23
  refine sm_iload_n (pc := 23) dX8_learn_23 rfl 3 rfl ?_
  refine sm_iload_n (pc := 24) dX8_learn_24 rfl 2 rfl ?_
  refine sm_icmp_ge (pc := 25) (tgt := 50) dX8_learn_25 (by decide) ?_ ?_
  · refine sm_aload_n (pc := 50) dX8_learn_50 rfl 0 rfl ?_
    refine sm_getr (pc := 51) dX8_learn_51 fi_X8_16 ?_
    refine sm_aload_n (pc := 54) dX8_learn_54 rfl 0 rfl ?_
    refine sm_geti (pc := 55) dX8_learn_55 fi_X8_26 ?_
    refine sm_iload_n (pc := 58) dX8_learn_58 rfl 2 rfl ?_
    refine sm_iast (pc := 59) dX8_learn_59 ly_65 (by decide) (fun j4 hj4 => ?_)
    refine sm_nmM (fun μ5 => ?_)
    refine sm_aload_n (pc := 60) dX8_learn_60 rfl 0 rfl ?_
    refine sm_dup (pc := 61) dX8_learn_61 rfl ?_
    refine sm_geti (pc := 62) dX8_learn_62 fi_X8_26 ?_
    refine sm_dup_x1 (pc := 65) dX8_learn_65 rfl rfl ?_
    refine sm_iconst (pc := 66) dX8_learn_66 (v := 1) (by decide) ?_
    refine sm_iadd (pc := 67) dX8_learn_67 ?_
    refine sm_puti (pc := 68) dX8_learn_68 fi_X8_26 ?_
    refine sm_nmM (fun μ6 => ?_)
    exact sm_iret (pc := 71) dX8_learn_71 rfl
  · refine sm_aload_n (pc := 28) dX8_learn_28 rfl 0 rfl ?_
    refine sm_getr (pc := 29) dX8_learn_29 fi_X8_11 ?_
    refine sm_aload_n (pc := 32) dX8_learn_32 rfl 0 rfl ?_
    refine sm_geti (pc := 33) dX8_learn_33 fi_X8_26 ?_
    refine sm_aald (pc := 36) (t := 0) (ty := .int) dX8_learn_36 ly_64 (fun _ => rfl) (fun j7 hj7 => ?_)
    refine sm_iload_n (pc := 37) dX8_learn_37 rfl 3 rfl ?_
    refine sm_aload_n (pc := 38) dX8_learn_38 rfl 1 rfl ?_
    refine sm_iload_n (pc := 39) dX8_learn_39 rfl 3 rfl ?_
    refine sm_callVi (pc := 40) (As := [.int x3]) (rest := [.int x3, .ref (am_ad G 364 j7)]) dX8_learn_40 (c_X6_stepAt G l N x3 μ) (by omega) wl_X8_42 vm_X6_stepAt rfl rfl (Nat.le_of_ble_eq_true rfl) (fun y9 μ8 => ?_)
    refine sm_iast (pc := 43) dX8_learn_43 ly_364 hj7 (fun j10 hj10 => ?_)
    refine sm_nmM (fun μ11 => ?_)
    refine sm_iinc (pc := 44) (v := (x3 + (1 : Int32))) (lv' := [(3, .int (x3 + (1 : Int32))), (0, .ref (am_ad G 4 0)), (1, .ref (am_ad G 3 0)), (2, .int x2)]) dX8_learn_44 3 rfl rfl (by decide) rfl ?_
    refine sm_goto (pc := 47) (tgt := 23) dX8_learn_47 (by decide) ?_
    refine sm_sub [1, 2, 3, 0] rfl ?_
    exact H_23 x2 (x3 + (1 : Int32)) μ11
theorem p_X8_learn_23_lp (G : am_G) (l : Launch) (d : Nat) (hd0 : 2 ≤ d) (N : Nat) : ∀ (n : Nat) (x2 : Int32) (x3 : Int32) (μ : am_M), sm_P G l am_ci d me_X8_learn 23 [(0, .ref (am_ad G 4 0)), (1, .ref (am_ad G 3 0)), (2, .int x2), (3, .int x3)] [] μ (f_X8_learn_23_lp N n x2 x3 μ) := by
  intro n
  induction n with
  | zero => intros; exact sm_none
  | succ n ih => exact fun x2 x3 μ => p_X8_learn_23 G l d hd0 N (f_X8_learn_23_lp N n) ih x2 x3 μ
set_option maxHeartbeats 4000000 in
set_option maxRecDepth 100000 in
theorem p_X8_learn_0 (G : am_G) (l : Launch) (d : Nat) (hd0 : 2 ≤ d) (N : Nat) (μ : am_M) : sm_P G l am_ci d me_X8_learn 0 [(0, .ref (am_ad G 4 0)), (1, .ref (am_ad G 3 0))] [] μ (f_X8_learn_0 N μ) := by
  unfold f_X8_learn_0
  refine sm_aload_n (pc := 0) dX8_learn_0 rfl 0 rfl ?_
  refine sm_geti (pc := 1) dX8_learn_1 fi_X8_26 ?_
  refine sm_iconst (pc := 4) dX8_learn_4 (v := 4) (by decide) ?_
  refine sm_icmp_lt (pc := 5) (tgt := 11) dX8_learn_5 (by decide) ?_ ?_
  · refine sm_aload_n (pc := 11) dX8_learn_11 rfl 1 rfl ?_
    refine sm_callVi (pc := 12) (As := []) (rest := []) dX8_learn_12 (c_X6_size G l N μ) (by omega) wl_X8_30 vm_X6_size rfl rfl (Nat.le_of_ble_eq_true rfl) (fun y2 μ1 => ?_)
    refine sm_bipush (pc := 15) dX8_learn_15 (v := 121) (by decide) ?_
    refine sm_min (pc := 17) dX8_learn_17 (by omega) (Nat.le_of_ble_eq_true rfl) wl_X8_36 wd_min wd_minit wd_minc ?_
    refine sm_nmI (fun y3 => ?_)
    refine sm_istore_n (pc := 20) (lv' := [(2, .int y3), (0, .ref (am_ad G 4 0)), (1, .ref (am_ad G 3 0))]) dX8_learn_20 rfl (by decide) rfl ?_
    refine sm_iconst (pc := 21) dX8_learn_21 (v := 0) (by decide) ?_
    refine sm_istore_n (pc := 22) (lv' := [(3, .int (0 : Int32)), (2, .int y3), (0, .ref (am_ad G 4 0)), (1, .ref (am_ad G 3 0))]) dX8_learn_22 rfl (by decide) rfl ?_
    refine sm_sub [2, 3, 1, 0] rfl ?_
    exact p_X8_learn_23_lp G l d hd0 N N y3 (0 : Int32) μ1
  · refine sm_bipush (pc := 8) dX8_learn_8 (v := -3) (by decide) ?_
    exact sm_iret (pc := 10) dX8_learn_10 rfl
theorem c_X8_learn (G : am_G) (l : Launch) (N : Nat) (μ : am_M) : ct_P G l am_ci 2 me_X8_learn [.ref (am_ad G 4 0), .ref (am_ad G 3 0)] μ (f_X8_learn N μ) := ct_of (by decide +kernel) (Nat.le_of_ble_eq_true rfl) rfl (p_X8_learn_0 G l 2 (Nat.le_refl _) N μ)
