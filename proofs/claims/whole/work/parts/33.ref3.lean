def f_X10_foresight_277 (N : Nat) (x3 : Int32) (x4 : Int32) (μ : am_M) : Option (Int32 × am_M) :=
some ((x4 - x3), μ)
def f_X10_foresight_269 (N : Nat) (r_192 : Int32 → Int32 → Int32 → Int32 → am_M → Option (Int32 × am_M)) (x3 : Int32) (x5 : Int32) (x6 : Int32) (s0 : Int32) (μ : am_M) : Option (Int32 × am_M) :=
r_192 x3 s0 x5 (x6 + (1 : Int32)) μ
def f_X10_foresight_251 (N : Nat) (r_192 : Int32 → Int32 → Int32 → Int32 → am_M → Option (Int32 × am_M)) (x3 : Int32) (x4 : Int32) (x5 : Int32) (x6 : Int32) (s0 : Int32) (s2 : Int32) (μ : am_M) : Option (Int32 × am_M) :=
am_gd s0 1783 (fun j12 => am_nm (s2 + (μ.1 204 0 j12)) (fun y13 => if y13 ≤ x4 then (f_X10_foresight_269 N r_192 x3 x5 x6 x4 μ) else (f_X10_foresight_269 N r_192 x3 x5 x6 y13 μ)))
def f_X10_foresight_192 (N : Nat) (r_192 : Int32 → Int32 → Int32 → Int32 → am_M → Option (Int32 × am_M)) (x3 : Int32) (x4 : Int32) (x5 : Int32) (x6 : Int32) (μ : am_M) : Option (Int32 × am_M) :=
if x5 < x6 then (f_X10_foresight_277 N x3 x4 μ) else (if (1783 : Int32) ≤ x6 then (f_X10_foresight_277 N x3 x4 μ) else (am_nm (((2 : Int32) * x5) - x6) (fun y10 => am_gd x6 1783 (fun j11 => if (1783 : Int32) ≤ y10 then (f_X10_foresight_251 N r_192 x3 x4 x5 x6 ((1783 : Int32) - (1 : Int32)) (μ.1 204 0 j11) μ) else (f_X10_foresight_251 N r_192 x3 x4 x5 x6 y10 (μ.1 204 0 j11) μ)))))
def f_X10_foresight_192_lp (N : Nat) : Nat → Int32 → Int32 → Int32 → Int32 → am_M → Option (Int32 × am_M)
  | 0, _, _, _, _, _ => none
  | n + 1, x3, x4, x5, x6, μ => f_X10_foresight_192 N (f_X10_foresight_192_lp N n) x3 x4 x5 x6 μ
def f_X10_foresight_172 (N : Nat) (r_118 : Int32 → Int32 → Int32 → am_M → Option (Int32 × am_M)) (x1 : Int32) (x3 : Int32) (x4 : Int32) (s0 : Int32) (s1 : Int32) (μ : am_M) : Option (Int32 × am_M) :=
am_gd s1 1783 (fun j17 => am_nm (am_ui μ 204 0 j17 s0) (fun μ18 => r_118 x1 x3 (x4 + (1 : Int32)) μ18))
def f_X10_foresight_118 (N : Nat) (r_118 : Int32 → Int32 → Int32 → am_M → Option (Int32 × am_M)) (x1 : Int32) (x3 : Int32) (x4 : Int32) (μ : am_M) : Option (Int32 × am_M) :=
if (1783 : Int32) ≤ x4 then (am_bd (f_X10_pointsInAll N x1 μ) (fun y9 μ8 => f_X10_foresight_192_lp N N x3 (0 : Int32) y9 (0 : Int32) μ8)) else (am_gd (x4 - (1 : Int32)) 1783 (fun j14 => am_gd x4 1783 (fun j15 => if (μ.1 204 0 j14) ≤ (μ.1 204 0 j15) then (am_gd x4 1783 (fun j16 => f_X10_foresight_172 N r_118 x1 x3 x4 (μ.1 204 0 j16) x4 μ)) else (am_gd (x4 - (1 : Int32)) 1783 (fun j19 => f_X10_foresight_172 N r_118 x1 x3 x4 (μ.1 204 0 j19) x4 μ)))))
def f_X10_foresight_118_lp (N : Nat) : Nat → Int32 → Int32 → Int32 → am_M → Option (Int32 × am_M)
  | 0, _, _, _, _ => none
  | n + 1, x1, x3, x4, μ => f_X10_foresight_118 N (f_X10_foresight_118_lp N n) x1 x3 x4 μ
def f_X10_foresight_109 (N : Nat) (r_53 : Int32 → Int32 → Int32 → am_M → Option (Int32 × am_M)) (x1 : Int32) (x3 : Int32) (x4 : Int32) (μ : am_M) : Option (Int32 × am_M) :=
r_53 x1 x3 (x4 + (1 : Int32)) μ
def f_X10_foresight_53 (N : Nat) (r_53 : Int32 → Int32 → Int32 → am_M → Option (Int32 × am_M)) (x1 : Int32) (x3 : Int32) (x4 : Int32) (μ : am_M) : Option (Int32 × am_M) :=
am_bd (f_X10_baskets N μ) (fun y7 μ6 => if y7 ≤ x4 then (f_X10_foresight_118_lp N N x1 x3 (1 : Int32) μ6) else (am_bd (f_X10_unpack N x4 μ6) (fun _ μ20 => am_bd (f_X10_purseOf N x1 μ20) (fun y22 μ21 => if y22 < (μ20.1 10 0 27) then (f_X10_foresight_109 N r_53 x1 x3 x4 μ21) else (am_gd (μ21.1 10 0 28) 1783 (fun j23 => if (μ21.1 10 0 26) ≤ (μ21.1 204 0 j23) then (f_X10_foresight_109 N r_53 x1 x3 x4 μ21) else (am_gd (μ21.1 10 0 28) 1783 (fun j24 => am_nm (am_ui μ21 204 0 j24 (μ21.1 10 0 26)) (fun μ25 => f_X10_foresight_109 N r_53 x1 x3 x4 μ25)))))))))
def f_X10_foresight_53_lp (N : Nat) : Nat → Int32 → Int32 → Int32 → am_M → Option (Int32 × am_M)
  | 0, _, _, _, _ => none
  | n + 1, x1, x3, x4, μ => f_X10_foresight_53 N (f_X10_foresight_53_lp N n) x1 x3 x4 μ
def f_X10_foresight_26 (N : Nat) (r_26 : Int32 → Int32 → Int32 → am_M → Option (Int32 × am_M)) (x1 : Int32) (x3 : Int32) (x4 : Int32) (μ : am_M) : Option (Int32 × am_M) :=
if (1783 : Int32) ≤ x4 then (f_X10_foresight_53_lp N N x1 x3 (0 : Int32) μ) else (am_gd x4 1783 (fun j26 => am_nm (am_ui μ 204 0 j26 (0 : Int32)) (fun μ27 => r_26 x1 x3 (x4 + (1 : Int32)) μ27)))
def f_X10_foresight_26_lp (N : Nat) : Nat → Int32 → Int32 → Int32 → am_M → Option (Int32 × am_M)
  | 0, _, _, _, _ => none
  | n + 1, x1, x3, x4, μ => f_X10_foresight_26 N (f_X10_foresight_26_lp N n) x1 x3 x4 μ
def f_X10_foresight_0 (N : Nat) (a1 : Int32) (μ : am_M) : Option (Int32 × am_M) :=
am_bd (f_X10_isSort N a1 μ) (fun y2 μ1 => if y2 = 0 then (some ((-1 : Int32), μ1)) else (am_bd (f_X10_bestOf N a1 μ1) (fun y4 μ3 => am_nm ((2 : Int32) * (μ3.1 10 0 30)) (fun y5 => f_X10_foresight_26_lp N N a1 y5 (0 : Int32) μ3))))
def f_X10_foresight (N : Nat) (a1 : Int32) (μ : am_M) : Option (Int32 × am_M) := f_X10_foresight_0 N a1 μ
set_option maxHeartbeats 4000000 in
set_option maxRecDepth 100000 in
theorem p_X10_foresight_277 (G : am_G) (l : Launch) (d : Nat) (hd0 : 108 ≤ d) (N : Nat) (x3 : Int32) (x4 : Int32) (μ : am_M) : sm_P G l am_ci d me_X10_foresight 277 [(0, .ref (am_ad G 10 0)), (3, .int x3), (4, .int x4)] [] μ (f_X10_foresight_277 N x3 x4 μ) := by
  unfold f_X10_foresight_277
  refine sm_iload (pc := 277) dX10_foresight_277 2 rfl ?_
  refine sm_iload_n (pc := 279) dX10_foresight_279 rfl 1 rfl ?_
  refine sm_isub (pc := 280) dX10_foresight_280 ?_
  exact sm_iret (pc := 281) dX10_foresight_281 rfl
set_option maxHeartbeats 4000000 in
set_option maxRecDepth 100000 in
theorem p_X10_foresight_269 (G : am_G) (l : Launch) (d : Nat) (hd0 : 108 ≤ d) (N : Nat) (r_192 : Int32 → Int32 → Int32 → Int32 → am_M → Option (Int32 × am_M)) (H_192 : ∀ (x3 : Int32) (x4 : Int32) (x5 : Int32) (x6 : Int32) (μ : am_M), sm_P G l am_ci d me_X10_foresight 192 [(0, .ref (am_ad G 10 0)), (3, .int x3), (4, .int x4), (5, .int x5), (6, .int x6)] [] μ (r_192 x3 x4 x5 x6 μ)) (x3 : Int32) (x5 : Int32) (x6 : Int32) (s0 : Int32) (μ : am_M) : sm_P G l am_ci d me_X10_foresight 269 [(0, .ref (am_ad G 10 0)), (3, .int x3), (5, .int x5), (6, .int x6)] [.int s0] μ (f_X10_foresight_269 N r_192 x3 x5 x6 s0 μ) := by
  unfold f_X10_foresight_269
  refine sm_istore (pc := 269) (lv' := [(4, .int s0), (0, .ref (am_ad G 10 0)), (3, .int x3), (5, .int x5), (6, .int x6)]) dX10_foresight_269 (by decide) rfl ?_
  refine sm_iinc (pc := 271) (v := (x6 + (1 : Int32))) (lv' := [(6, .int (x6 + (1 : Int32))), (4, .int s0), (0, .ref (am_ad G 10 0)), (3, .int x3), (5, .int x5)]) dX10_foresight_271 4 rfl rfl (by decide) rfl ?_
  refine sm_goto (pc := 274) (tgt := 192) dX10_foresight_274 (by decide) ?_
  refine sm_sub [2, 3, 1, 4, 0] rfl ?_
  exact H_192 x3 s0 x5 (x6 + (1 : Int32)) μ
set_option maxHeartbeats 4000000 in
set_option maxRecDepth 100000 in
theorem p_X10_foresight_251 (G : am_G) (l : Launch) (d : Nat) (hd0 : 108 ≤ d) (N : Nat) (r_192 : Int32 → Int32 → Int32 → Int32 → am_M → Option (Int32 × am_M)) (H_192 : ∀ (x3 : Int32) (x4 : Int32) (x5 : Int32) (x6 : Int32) (μ : am_M), sm_P G l am_ci d me_X10_foresight 192 [(0, .ref (am_ad G 10 0)), (3, .int x3), (4, .int x4), (5, .int x5), (6, .int x6)] [] μ (r_192 x3 x4 x5 x6 μ)) (x3 : Int32) (x4 : Int32) (x5 : Int32) (x6 : Int32) (s0 : Int32) (s2 : Int32) (μ : am_M) : sm_P G l am_ci d me_X10_foresight 251 [(0, .ref (am_ad G 10 0)), (3, .int x3), (4, .int x4), (5, .int x5), (6, .int x6)] [.int s0, .ref (am_ad G 204 0), .int s2] μ (f_X10_foresight_251 N r_192 x3 x4 x5 x6 s0 s2 μ) := by
  unfold f_X10_foresight_251
  refine sm_iald (pc := 251) dX10_foresight_251 ly_204 (by decide) (fun j12 hj12 => ?_)
  refine sm_iadd (pc := 252) dX10_foresight_252 ?_
  refine sm_nmI (fun y13 => ?_)
  refine sm_istore (pc := 253) (lv' := [(8, .int y13), (0, .ref (am_ad G 10 0)), (3, .int x3), (4, .int x4), (5, .int x5), (6, .int x6)]) dX10_foresight_253 (by decide) rfl ?_
  refine sm_iload (pc := 255) dX10_foresight_255 0 rfl ?_
  refine sm_iload (pc := 257) dX10_foresight_257 3 rfl ?_
  refine sm_icmp_le (pc := 259) (tgt := 267) dX10_foresight_259 (by decide) ?_ ?_
  · refine sm_iload (pc := 267) dX10_foresight_267 3 rfl ?_
    refine sm_sub [1, 2, 4, 5] rfl ?_
    exact p_X10_foresight_269 G l d hd0 N r_192 H_192 x3 x5 x6 x4 μ
  · refine sm_iload (pc := 262) dX10_foresight_262 0 rfl ?_
    refine sm_goto (pc := 264) (tgt := 269) dX10_foresight_264 (by decide) ?_
    refine sm_sub [1, 2, 4, 5] rfl ?_
    exact p_X10_foresight_269 G l d hd0 N r_192 H_192 x3 x5 x6 y13 μ
set_option maxHeartbeats 4000000 in
set_option maxRecDepth 100000 in
theorem p_X10_foresight_192 (G : am_G) (l : Launch) (d : Nat) (hd0 : 108 ≤ d) (N : Nat) (r_192 : Int32 → Int32 → Int32 → Int32 → am_M → Option (Int32 × am_M)) (H_192 : ∀ (x3 : Int32) (x4 : Int32) (x5 : Int32) (x6 : Int32) (μ : am_M), sm_P G l am_ci d me_X10_foresight 192 [(0, .ref (am_ad G 10 0)), (3, .int x3), (4, .int x4), (5, .int x5), (6, .int x6)] [] μ (r_192 x3 x4 x5 x6 μ)) (x3 : Int32) (x4 : Int32) (x5 : Int32) (x6 : Int32) (μ : am_M) : sm_P G l am_ci d me_X10_foresight 192 [(0, .ref (am_ad G 10 0)), (3, .int x3), (4, .int x4), (5, .int x5), (6, .int x6)] [] μ (f_X10_foresight_192 N r_192 x3 x4 x5 x6 μ) := by
  unfold f_X10_foresight_192
  refine sm_iload (pc := 192) dX10_foresight_192 4 rfl ?_
  refine sm_iload (pc := 194) dX10_foresight_194 3 rfl ?_
  refine sm_icmp_gt (pc := 196) (tgt := 277) dX10_foresight_196 (by decide) ?_ ?_
  · refine sm_sub [0, 1, 2] rfl ?_
    exact p_X10_foresight_277 G l d hd0 N x3 x4 μ
  · refine sm_iload (pc := 199) dX10_foresight_199 4 rfl ?_
    refine sm_aload_n (pc := 201) dX10_foresight_201 rfl 0 rfl ?_
    refine sm_getr (pc := 202) dX10_foresight_202 fi_X10_74 ?_
    refine sm_alen (rows := 0) (pc := 205) (v := 1783) dX10_foresight_205 ly_204 (by decide) ?_
    refine sm_icmp_ge (pc := 206) (tgt := 277) dX10_foresight_206 (by decide) ?_ ?_
    · refine sm_sub [0, 1, 2] rfl ?_
      exact p_X10_foresight_277 G l d hd0 N x3 x4 μ
    · refine sm_iconst (pc := 209) dX10_foresight_209 (v := 2) (by decide) ?_
      refine sm_iload (pc := 210) dX10_foresight_210 3 rfl ?_
      refine sm_imul (pc := 212) dX10_foresight_212 ?_
      refine sm_iload (pc := 213) dX10_foresight_213 4 rfl ?_
      refine sm_isub (pc := 215) dX10_foresight_215 ?_
      refine sm_nmI (fun y10 => ?_)
      refine sm_istore (pc := 216) (lv' := [(7, .int y10), (0, .ref (am_ad G 10 0)), (3, .int x3), (4, .int x4), (5, .int x5), (6, .int x6)]) dX10_foresight_216 (by decide) rfl ?_
      refine sm_aload_n (pc := 218) dX10_foresight_218 rfl 1 rfl ?_
      refine sm_getr (pc := 219) dX10_foresight_219 fi_X10_74 ?_
      refine sm_iload (pc := 222) dX10_foresight_222 5 rfl ?_
      refine sm_iald (pc := 224) dX10_foresight_224 ly_204 (by decide) (fun j11 hj11 => ?_)
      refine sm_aload_n (pc := 225) dX10_foresight_225 rfl 1 rfl ?_
      refine sm_getr (pc := 226) dX10_foresight_226 fi_X10_74 ?_
      refine sm_iload (pc := 229) dX10_foresight_229 0 rfl ?_
      refine sm_aload_n (pc := 231) dX10_foresight_231 rfl 1 rfl ?_
      refine sm_getr (pc := 232) dX10_foresight_232 fi_X10_74 ?_
      refine sm_alen (rows := 0) (pc := 235) (v := 1783) dX10_foresight_235 ly_204 (by decide) ?_
      refine sm_icmp_ge (pc := 236) (tgt := 244) dX10_foresight_236 (by decide) ?_ ?_
      · refine sm_aload_n (pc := 244) dX10_foresight_244 rfl 1 rfl ?_
        refine sm_getr (pc := 245) dX10_foresight_245 fi_X10_74 ?_
        refine sm_alen (rows := 0) (pc := 248) (v := 1783) dX10_foresight_248 ly_204 (by decide) ?_
        refine sm_iconst (pc := 249) dX10_foresight_249 (v := 1) (by decide) ?_
        refine sm_isub (pc := 250) dX10_foresight_250 ?_
        refine sm_sub [1, 2, 3, 4, 5] rfl ?_
        exact p_X10_foresight_251 G l d hd0 N r_192 H_192 x3 x4 x5 x6 ((1783 : Int32) - (1 : Int32)) (μ.1 204 0 j11) μ
      · refine sm_iload (pc := 239) dX10_foresight_239 0 rfl ?_
        refine sm_goto (pc := 241) (tgt := 251) dX10_foresight_241 (by decide) ?_
        refine sm_sub [1, 2, 3, 4, 5] rfl ?_
        exact p_X10_foresight_251 G l d hd0 N r_192 H_192 x3 x4 x5 x6 y10 (μ.1 204 0 j11) μ
theorem p_X10_foresight_192_lp (G : am_G) (l : Launch) (d : Nat) (hd0 : 108 ≤ d) (N : Nat) : ∀ (n : Nat) (x3 : Int32) (x4 : Int32) (x5 : Int32) (x6 : Int32) (μ : am_M), sm_P G l am_ci d me_X10_foresight 192 [(0, .ref (am_ad G 10 0)), (3, .int x3), (4, .int x4), (5, .int x5), (6, .int x6)] [] μ (f_X10_foresight_192_lp N n x3 x4 x5 x6 μ) := by
  intro n
  induction n with
  | zero => intros; exact sm_none
  | succ n ih => exact fun x3 x4 x5 x6 μ => p_X10_foresight_192 G l d hd0 N (f_X10_foresight_192_lp N n) ih x3 x4 x5 x6 μ
set_option maxHeartbeats 4000000 in
set_option maxRecDepth 100000 in
theorem p_X10_foresight_172 (G : am_G) (l : Launch) (d : Nat) (hd0 : 108 ≤ d) (N : Nat) (r_118 : Int32 → Int32 → Int32 → am_M → Option (Int32 × am_M)) (H_118 : ∀ (x1 : Int32) (x3 : Int32) (x4 : Int32) (μ : am_M), sm_P G l am_ci d me_X10_foresight 118 [(0, .ref (am_ad G 10 0)), (1, .int x1), (3, .int x3), (4, .int x4)] [] μ (r_118 x1 x3 x4 μ)) (x1 : Int32) (x3 : Int32) (x4 : Int32) (s0 : Int32) (s1 : Int32) (μ : am_M) : sm_P G l am_ci d me_X10_foresight 172 [(0, .ref (am_ad G 10 0)), (1, .int x1), (3, .int x3), (4, .int x4)] [.int s0, .int s1, .ref (am_ad G 204 0)] μ (f_X10_foresight_172 N r_118 x1 x3 x4 s0 s1 μ) := by
  unfold f_X10_foresight_172
  refine sm_iast (pc := 172) dX10_foresight_172 ly_204 (by decide) (fun j17 hj17 => ?_)
  refine sm_nmM (fun μ18 => ?_)
  refine sm_iinc (pc := 173) (v := (x4 + (1 : Int32))) (lv' := [(4, .int (x4 + (1 : Int32))), (0, .ref (am_ad G 10 0)), (1, .int x1), (3, .int x3)]) dX10_foresight_173 3 rfl rfl (by decide) rfl ?_
  refine sm_goto (pc := 176) (tgt := 118) dX10_foresight_176 (by decide) ?_
  refine sm_sub [1, 2, 3, 0] rfl ?_
  exact H_118 x1 x3 (x4 + (1 : Int32)) μ18
set_option maxHeartbeats 4000000 in
set_option maxRecDepth 100000 in
theorem p_X10_foresight_118 (G : am_G) (l : Launch) (d : Nat) (hd0 : 108 ≤ d) (N : Nat) (r_118 : Int32 → Int32 → Int32 → am_M → Option (Int32 × am_M)) (H_118 : ∀ (x1 : Int32) (x3 : Int32) (x4 : Int32) (μ : am_M), sm_P G l am_ci d me_X10_foresight 118 [(0, .ref (am_ad G 10 0)), (1, .int x1), (3, .int x3), (4, .int x4)] [] μ (r_118 x1 x3 x4 μ)) (x1 : Int32) (x3 : Int32) (x4 : Int32) (μ : am_M) : sm_P G l am_ci d me_X10_foresight 118 [(0, .ref (am_ad G 10 0)), (1, .int x1), (3, .int x3), (4, .int x4)] [] μ (f_X10_foresight_118 N r_118 x1 x3 x4 μ) := by
  unfold f_X10_foresight_118
  refine sm_iload (pc := 118) dX10_foresight_118 3 rfl ?_
  refine sm_aload_n (pc := 120) dX10_foresight_120 rfl 0 rfl ?_
  refine sm_getr (pc := 121) dX10_foresight_121 fi_X10_74 ?_
  refine sm_alen (rows := 0) (pc := 124) (v := 1783) dX10_foresight_124 ly_204 (by decide) ?_
  refine sm_icmp_ge (pc := 125) (tgt := 179) dX10_foresight_125 (by decide) ?_ ?_
  · refine sm_iconst (pc := 179) dX10_foresight_179 (v := 0) (by decide) ?_
    refine sm_istore (pc := 180) (lv' := [(4, .int (0 : Int32)), (0, .ref (am_ad G 10 0)), (1, .int x1), (3, .int x3)]) dX10_foresight_180 (by decide) rfl ?_
    refine sm_aload_n (pc := 182) dX10_foresight_182 rfl 1 rfl ?_
    refine sm_iload_n (pc := 183) dX10_foresight_183 rfl 2 rfl ?_
    refine sm_callVi (pc := 184) (As := [.int x1]) (rest := []) dX10_foresight_184 (c_X10_pointsInAll G l N x1 μ) (by omega) wl_X10_153 vm_X10_pointsInAll rfl rfl (Nat.le_of_ble_eq_true rfl) (fun y9 μ8 => ?_)
    refine sm_istore (pc := 187) (lv' := [(5, .int y9), (4, .int (0 : Int32)), (0, .ref (am_ad G 10 0)), (1, .int x1), (3, .int x3)]) dX10_foresight_187 (by decide) rfl ?_
    refine sm_iconst (pc := 189) dX10_foresight_189 (v := 0) (by decide) ?_
    refine sm_istore (pc := 190) (lv' := [(6, .int (0 : Int32)), (5, .int y9), (4, .int (0 : Int32)), (0, .ref (am_ad G 10 0)), (1, .int x1), (3, .int x3)]) dX10_foresight_190 (by decide) rfl ?_
    refine sm_sub [3, 5, 2, 1, 0] rfl ?_
    exact p_X10_foresight_192_lp G l d hd0 N N x3 (0 : Int32) y9 (0 : Int32) μ8
  · refine sm_aload_n (pc := 128) dX10_foresight_128 rfl 0 rfl ?_
    refine sm_getr (pc := 129) dX10_foresight_129 fi_X10_74 ?_
    refine sm_iload (pc := 132) dX10_foresight_132 3 rfl ?_
    refine sm_aload_n (pc := 134) dX10_foresight_134 rfl 0 rfl ?_
    refine sm_getr (pc := 135) dX10_foresight_135 fi_X10_74 ?_
    refine sm_iload (pc := 138) dX10_foresight_138 3 rfl ?_
    refine sm_iconst (pc := 140) dX10_foresight_140 (v := 1) (by decide) ?_
    refine sm_isub (pc := 141) dX10_foresight_141 ?_
    refine sm_iald (pc := 142) dX10_foresight_142 ly_204 (by decide) (fun j14 hj14 => ?_)
    refine sm_aload_n (pc := 143) dX10_foresight_143 rfl 0 rfl ?_
    refine sm_getr (pc := 144) dX10_foresight_144 fi_X10_74 ?_
    refine sm_iload (pc := 147) dX10_foresight_147 3 rfl ?_
    refine sm_iald (pc := 149) dX10_foresight_149 ly_204 (by decide) (fun j15 hj15 => ?_)
    refine sm_icmp_le (pc := 150) (tgt := 165) dX10_foresight_150 (by decide) ?_ ?_
    · refine sm_aload_n (pc := 165) dX10_foresight_165 rfl 0 rfl ?_
      refine sm_getr (pc := 166) dX10_foresight_166 fi_X10_74 ?_
      refine sm_iload (pc := 169) dX10_foresight_169 3 rfl ?_
      refine sm_iald (pc := 171) dX10_foresight_171 ly_204 (by decide) (fun j16 hj16 => ?_)
      exact p_X10_foresight_172 G l d hd0 N r_118 H_118 x1 x3 x4 (μ.1 204 0 j16) x4 μ
    · refine sm_aload_n (pc := 153) dX10_foresight_153 rfl 0 rfl ?_
      refine sm_getr (pc := 154) dX10_foresight_154 fi_X10_74 ?_
      refine sm_iload (pc := 157) dX10_foresight_157 3 rfl ?_
      refine sm_iconst (pc := 159) dX10_foresight_159 (v := 1) (by decide) ?_
      refine sm_isub (pc := 160) dX10_foresight_160 ?_
      refine sm_iald (pc := 161) dX10_foresight_161 ly_204 (by decide) (fun j19 hj19 => ?_)
      refine sm_goto (pc := 162) (tgt := 172) dX10_foresight_162 (by decide) ?_
      exact p_X10_foresight_172 G l d hd0 N r_118 H_118 x1 x3 x4 (μ.1 204 0 j19) x4 μ
theorem p_X10_foresight_118_lp (G : am_G) (l : Launch) (d : Nat) (hd0 : 108 ≤ d) (N : Nat) : ∀ (n : Nat) (x1 : Int32) (x3 : Int32) (x4 : Int32) (μ : am_M), sm_P G l am_ci d me_X10_foresight 118 [(0, .ref (am_ad G 10 0)), (1, .int x1), (3, .int x3), (4, .int x4)] [] μ (f_X10_foresight_118_lp N n x1 x3 x4 μ) := by
  intro n
  induction n with
  | zero => intros; exact sm_none
  | succ n ih => exact fun x1 x3 x4 μ => p_X10_foresight_118 G l d hd0 N (f_X10_foresight_118_lp N n) ih x1 x3 x4 μ
set_option maxHeartbeats 4000000 in
set_option maxRecDepth 100000 in
theorem p_X10_foresight_109 (G : am_G) (l : Launch) (d : Nat) (hd0 : 108 ≤ d) (N : Nat) (r_53 : Int32 → Int32 → Int32 → am_M → Option (Int32 × am_M)) (H_53 : ∀ (x1 : Int32) (x3 : Int32) (x4 : Int32) (μ : am_M), sm_P G l am_ci d me_X10_foresight 53 [(0, .ref (am_ad G 10 0)), (1, .int x1), (3, .int x3), (4, .int x4)] [] μ (r_53 x1 x3 x4 μ)) (x1 : Int32) (x3 : Int32) (x4 : Int32) (μ : am_M) : sm_P G l am_ci d me_X10_foresight 109 [(0, .ref (am_ad G 10 0)), (1, .int x1), (3, .int x3), (4, .int x4)] [] μ (f_X10_foresight_109 N r_53 x1 x3 x4 μ) := by
  unfold f_X10_foresight_109
  refine sm_iinc (pc := 109) (v := (x4 + (1 : Int32))) (lv' := [(4, .int (x4 + (1 : Int32))), (0, .ref (am_ad G 10 0)), (1, .int x1), (3, .int x3)]) dX10_foresight_109 3 rfl rfl (by decide) rfl ?_
  refine sm_goto (pc := 112) (tgt := 53) dX10_foresight_112 (by decide) ?_
  refine sm_sub [1, 2, 3, 0] rfl ?_
  exact H_53 x1 x3 (x4 + (1 : Int32)) μ
set_option maxHeartbeats 4000000 in
set_option maxRecDepth 100000 in
theorem p_X10_foresight_53 (G : am_G) (l : Launch) (d : Nat) (hd0 : 108 ≤ d) (N : Nat) (r_53 : Int32 → Int32 → Int32 → am_M → Option (Int32 × am_M)) (H_53 : ∀ (x1 : Int32) (x3 : Int32) (x4 : Int32) (μ : am_M), sm_P G l am_ci d me_X10_foresight 53 [(0, .ref (am_ad G 10 0)), (1, .int x1), (3, .int x3), (4, .int x4)] [] μ (r_53 x1 x3 x4 μ)) (x1 : Int32) (x3 : Int32) (x4 : Int32) (μ : am_M) : sm_P G l am_ci d me_X10_foresight 53 [(0, .ref (am_ad G 10 0)), (1, .int x1), (3, .int x3), (4, .int x4)] [] μ (f_X10_foresight_53 N r_53 x1 x3 x4 μ) := by
  unfold f_X10_foresight_53
  refine sm_iload (pc := 53) dX10_foresight_53 3 rfl ?_
  refine sm_aload_n (pc := 55) dX10_foresight_55 rfl 0 rfl ?_
  refine sm_callVi (pc := 56) (As := []) (rest := [.int x4]) dX10_foresight_56 (c_X10_baskets G l N μ) (by omega) wl_X10_226 vm_X10_baskets rfl rfl (Nat.le_of_ble_eq_true rfl) (fun y7 μ6 => ?_)
  refine sm_icmp_ge (pc := 59) (tgt := 115) dX10_foresight_59 (by decide) ?_ ?_
  · refine sm_iconst (pc := 115) dX10_foresight_115 (v := 1) (by decide) ?_
    refine sm_istore (pc := 116) (lv' := [(4, .int (1 : Int32)), (0, .ref (am_ad G 10 0)), (1, .int x1), (3, .int x3)]) dX10_foresight_116 (by decide) rfl ?_
    refine sm_sub [1, 2, 3, 0] rfl ?_
    exact p_X10_foresight_118_lp G l d hd0 N N x1 x3 (1 : Int32) μ6
  · refine sm_aload_n (pc := 62) dX10_foresight_62 rfl 0 rfl ?_
    refine sm_iload (pc := 63) dX10_foresight_63 3 rfl ?_
    refine sm_callVv (pc := 65) (As := [.int x4]) (rest := []) dX10_foresight_65 (c_X10_unpack G l N x4 μ6) (by omega) wl_X10_229 vm_X10_unpack rfl rfl (Nat.le_of_ble_eq_true rfl) (fun _ μ20 => ?_)
    refine sm_aload_n (pc := 68) dX10_foresight_68 rfl 0 rfl ?_
    refine sm_geti (pc := 69) dX10_foresight_69 fi_X10_216 ?_
    refine sm_aload_n (pc := 72) dX10_foresight_72 rfl 0 rfl ?_
    refine sm_iload_n (pc := 73) dX10_foresight_73 rfl 1 rfl ?_
    refine sm_callVi (pc := 74) (As := [.int x1]) (rest := [.int (μ20.1 10 0 27)]) dX10_foresight_74 (c_X10_purseOf G l N x1 μ20) (by omega) wl_X10_149 vm_X10_purseOf rfl rfl (Nat.le_of_ble_eq_true rfl) (fun y22 μ21 => ?_)
    refine sm_icmp_gt (pc := 77) (tgt := 109) dX10_foresight_77 (by decide) ?_ ?_
    · exact p_X10_foresight_109 G l d hd0 N r_53 H_53 x1 x3 x4 μ21
    · refine sm_aload_n (pc := 80) dX10_foresight_80 rfl 0 rfl ?_
      refine sm_geti (pc := 81) dX10_foresight_81 fi_X10_213 ?_
      refine sm_aload_n (pc := 84) dX10_foresight_84 rfl 0 rfl ?_
      refine sm_getr (pc := 85) dX10_foresight_85 fi_X10_74 ?_
      refine sm_aload_n (pc := 88) dX10_foresight_88 rfl 0 rfl ?_
      refine sm_geti (pc := 89) dX10_foresight_89 fi_X10_219 ?_
      refine sm_iald (pc := 92) dX10_foresight_92 ly_204 (by decide) (fun j23 hj23 => ?_)
      refine sm_icmp_le (pc := 93) (tgt := 109) dX10_foresight_93 (by decide) ?_ ?_
      · exact p_X10_foresight_109 G l d hd0 N r_53 H_53 x1 x3 x4 μ21
      · refine sm_aload_n (pc := 96) dX10_foresight_96 rfl 0 rfl ?_
        refine sm_getr (pc := 97) dX10_foresight_97 fi_X10_74 ?_
        refine sm_aload_n (pc := 100) dX10_foresight_100 rfl 0 rfl ?_
        refine sm_geti (pc := 101) dX10_foresight_101 fi_X10_219 ?_
        refine sm_aload_n (pc := 104) dX10_foresight_104 rfl 0 rfl ?_
        refine sm_geti (pc := 105) dX10_foresight_105 fi_X10_213 ?_
        refine sm_iast (pc := 108) dX10_foresight_108 ly_204 (by decide) (fun j24 hj24 => ?_)
        refine sm_nmM (fun μ25 => ?_)
        exact p_X10_foresight_109 G l d hd0 N r_53 H_53 x1 x3 x4 μ25
theorem p_X10_foresight_53_lp (G : am_G) (l : Launch) (d : Nat) (hd0 : 108 ≤ d) (N : Nat) : ∀ (n : Nat) (x1 : Int32) (x3 : Int32) (x4 : Int32) (μ : am_M), sm_P G l am_ci d me_X10_foresight 53 [(0, .ref (am_ad G 10 0)), (1, .int x1), (3, .int x3), (4, .int x4)] [] μ (f_X10_foresight_53_lp N n x1 x3 x4 μ) := by
  intro n
  induction n with
  | zero => intros; exact sm_none
  | succ n ih => exact fun x1 x3 x4 μ => p_X10_foresight_53 G l d hd0 N (f_X10_foresight_53_lp N n) ih x1 x3 x4 μ
set_option maxHeartbeats 4000000 in
set_option maxRecDepth 100000 in
theorem p_X10_foresight_26 (G : am_G) (l : Launch) (d : Nat) (hd0 : 108 ≤ d) (N : Nat) (r_26 : Int32 → Int32 → Int32 → am_M → Option (Int32 × am_M)) (H_26 : ∀ (x1 : Int32) (x3 : Int32) (x4 : Int32) (μ : am_M), sm_P G l am_ci d me_X10_foresight 26 [(0, .ref (am_ad G 10 0)), (1, .int x1), (3, .int x3), (4, .int x4)] [] μ (r_26 x1 x3 x4 μ)) (x1 : Int32) (x3 : Int32) (x4 : Int32) (μ : am_M) : sm_P G l am_ci d me_X10_foresight 26 [(0, .ref (am_ad G 10 0)), (1, .int x1), (3, .int x3), (4, .int x4)] [] μ (f_X10_foresight_26 N r_26 x1 x3 x4 μ) := by
  unfold f_X10_foresight_26
  refine sm_iload (pc := 26) dX10_foresight_26 3 rfl ?_
  refine sm_aload_n (pc := 28) dX10_foresight_28 rfl 0 rfl ?_
  refine sm_getr (pc := 29) dX10_foresight_29 fi_X10_74 ?_
  refine sm_alen (rows := 0) (pc := 32) (v := 1783) dX10_foresight_32 ly_204 (by decide) ?_
  refine sm_icmp_ge (pc := 33) (tgt := 50) dX10_foresight_33 (by decide) ?_ ?_
  · refine sm_iconst (pc := 50) dX10_foresight_50 (v := 0) (by decide) ?_
    refine sm_istore (pc := 51) (lv' := [(4, .int (0 : Int32)), (0, .ref (am_ad G 10 0)), (1, .int x1), (3, .int x3)]) dX10_foresight_51 (by decide) rfl ?_
    refine sm_sub [1, 2, 3, 0] rfl ?_
    exact p_X10_foresight_53_lp G l d hd0 N N x1 x3 (0 : Int32) μ
  · refine sm_aload_n (pc := 36) dX10_foresight_36 rfl 0 rfl ?_
    refine sm_getr (pc := 37) dX10_foresight_37 fi_X10_74 ?_
    refine sm_iload (pc := 40) dX10_foresight_40 3 rfl ?_
    refine sm_iconst (pc := 42) dX10_foresight_42 (v := 0) (by decide) ?_
    refine sm_iast (pc := 43) dX10_foresight_43 ly_204 (by decide) (fun j26 hj26 => ?_)
    refine sm_nmM (fun μ27 => ?_)
    refine sm_iinc (pc := 44) (v := (x4 + (1 : Int32))) (lv' := [(4, .int (x4 + (1 : Int32))), (0, .ref (am_ad G 10 0)), (1, .int x1), (3, .int x3)]) dX10_foresight_44 3 rfl rfl (by decide) rfl ?_
    refine sm_goto (pc := 47) (tgt := 26) dX10_foresight_47 (by decide) ?_
    refine sm_sub [1, 2, 3, 0] rfl ?_
    exact H_26 x1 x3 (x4 + (1 : Int32)) μ27
theorem p_X10_foresight_26_lp (G : am_G) (l : Launch) (d : Nat) (hd0 : 108 ≤ d) (N : Nat) : ∀ (n : Nat) (x1 : Int32) (x3 : Int32) (x4 : Int32) (μ : am_M), sm_P G l am_ci d me_X10_foresight 26 [(0, .ref (am_ad G 10 0)), (1, .int x1), (3, .int x3), (4, .int x4)] [] μ (f_X10_foresight_26_lp N n x1 x3 x4 μ) := by
  intro n
  induction n with
  | zero => intros; exact sm_none
  | succ n ih => exact fun x1 x3 x4 μ => p_X10_foresight_26 G l d hd0 N (f_X10_foresight_26_lp N n) ih x1 x3 x4 μ
set_option maxHeartbeats 4000000 in
set_option maxRecDepth 100000 in
theorem p_X10_foresight_0 (G : am_G) (l : Launch) (d : Nat) (hd0 : 108 ≤ d) (N : Nat) (a1 : Int32) (μ : am_M) : sm_P G l am_ci d me_X10_foresight 0 [(0, .ref (am_ad G 10 0)), (1, .int a1)] [] μ (f_X10_foresight_0 N a1 μ) := by
  unfold f_X10_foresight_0
  refine sm_aload_n (pc := 0) dX10_foresight_0 rfl 0 rfl ?_
  refine sm_iload_n (pc := 1) dX10_foresight_1 rfl 1 rfl ?_
  refine sm_callVi (pc := 2) (As := [.int a1]) (rest := []) dX10_foresight_2 (c_X10_isSort G l N a1 μ) (by omega) wl_X10_144 vm_X10_isSort rfl rfl (Nat.le_of_ble_eq_true rfl) (fun y2 μ1 => ?_)
  refine sm_if_ne (pc := 5) (tgt := 10) dX10_foresight_5 (by decide) ?_ ?_
  · refine sm_aload_n (pc := 10) dX10_foresight_10 rfl 0 rfl ?_
    refine sm_iload_n (pc := 11) dX10_foresight_11 rfl 1 rfl ?_
    refine sm_callVi (pc := 12) (As := [.int a1]) (rest := []) dX10_foresight_12 (c_X10_bestOf G l N a1 μ1) (by omega) wl_X10_244 vm_X10_bestOf rfl rfl (Nat.le_of_ble_eq_true rfl) (fun y4 μ3 => ?_)
    refine sm_istore_n (pc := 15) (lv' := [(2, .int y4), (0, .ref (am_ad G 10 0)), (1, .int a1)]) dX10_foresight_15 rfl (by decide) rfl ?_
    refine sm_iconst (pc := 16) dX10_foresight_16 (v := 2) (by decide) ?_
    refine sm_aload_n (pc := 17) dX10_foresight_17 rfl 1 rfl ?_
    refine sm_geti (pc := 18) dX10_foresight_18 fi_X10_232 ?_
    refine sm_imul (pc := 21) dX10_foresight_21 ?_
    refine sm_nmI (fun y5 => ?_)
    refine sm_istore_n (pc := 22) (lv' := [(3, .int y5), (2, .int y4), (0, .ref (am_ad G 10 0)), (1, .int a1)]) dX10_foresight_22 rfl (by decide) rfl ?_
    refine sm_iconst (pc := 23) dX10_foresight_23 (v := 0) (by decide) ?_
    refine sm_istore (pc := 24) (lv' := [(4, .int (0 : Int32)), (3, .int y5), (2, .int y4), (0, .ref (am_ad G 10 0)), (1, .int a1)]) dX10_foresight_24 (by decide) rfl ?_
    refine sm_sub [3, 4, 1, 0] rfl ?_
    exact p_X10_foresight_26_lp G l d hd0 N N a1 y5 (0 : Int32) μ3
  · refine sm_iconst (pc := 8) dX10_foresight_8 (v := -1) (by decide) ?_
    exact sm_iret (pc := 9) dX10_foresight_9 rfl
theorem c_X10_foresight (G : am_G) (l : Launch) (N : Nat) (a1 : Int32) (μ : am_M) : ct_P G l am_ci 108 me_X10_foresight [.ref (am_ad G 10 0), .int a1] μ (f_X10_foresight N a1 μ) := ct_of (by decide +kernel) (Nat.le_of_ble_eq_true rfl) rfl (p_X10_foresight_0 G l 108 (Nat.le_refl _) N a1 μ)

def f_X10_cheap_70 (N : Nat) (r_15 : Int32 → Int32 → Int32 → am_M → Option (Int32 × am_M)) (x1 : Int32) (x2 : Int32) (x3 : Int32) (μ : am_M) : Option (Int32 × am_M) :=
r_15 x1 x2 (x3 + (1 : Int32)) μ
def f_X10_cheap_68 (N : Nat) (r_15 : Int32 → Int32 → Int32 → am_M → Option (Int32 × am_M)) (x1 : Int32) (x3 : Int32) (μ : am_M) : Option (Int32 × am_M) :=
f_X10_cheap_70 N r_15 x1 x3 x3 μ
def f_X10_cheap_15 (N : Nat) (r_15 : Int32 → Int32 → Int32 → am_M → Option (Int32 × am_M)) (x1 : Int32) (x2 : Int32) (x3 : Int32) (μ : am_M) : Option (Int32 × am_M) :=
if (μ.1 10 0 6) ≤ x3 then (some (x2, μ)) else (am_gd x3 6 (fun j3 => am_gd ((6 : Int32) + x3) 28 (fun j4 => if ((μ.1 160 0 j4) - x1) < (μ.1 167 0 j3) then (f_X10_cheap_70 N r_15 x1 x2 x3 μ) else (if x2 < 0 then (f_X10_cheap_68 N r_15 x1 x3 μ) else (am_gd ((12 : Int32) + x3) 28 (fun j5 => am_gd ((12 : Int32) + x2) 28 (fun j6 => if (μ.1 160 0 j6) ≤ (μ.1 160 0 j5) then (f_X10_cheap_70 N r_15 x1 x2 x3 μ) else (f_X10_cheap_68 N r_15 x1 x3 μ))))))))
def f_X10_cheap_15_lp (N : Nat) : Nat → Int32 → Int32 → Int32 → am_M → Option (Int32 × am_M)
  | 0, _, _, _, _ => none
  | n + 1, x1, x2, x3, μ => f_X10_cheap_15 N (f_X10_cheap_15_lp N n) x1 x2 x3 μ
def f_X10_cheap_0 (N : Nat) (a1 : Int32) (μ : am_M) : Option (Int32 × am_M) :=
am_bd (f_X10_isTwo N a1.toInt64 μ) (fun y2 μ1 => if y2 = 0 then (some ((-1 : Int32), μ1)) else (f_X10_cheap_15_lp N N a1 (-2 : Int32) (0 : Int32) μ1))
def f_X10_cheap (N : Nat) (a1 : Int32) (μ : am_M) : Option (Int32 × am_M) := f_X10_cheap_0 N a1 μ
set_option maxHeartbeats 4000000 in
set_option maxRecDepth 100000 in
theorem p_X10_cheap_70 (G : am_G) (l : Launch) (d : Nat) (hd0 : 2 ≤ d) (N : Nat) (r_15 : Int32 → Int32 → Int32 → am_M → Option (Int32 × am_M)) (H_15 : ∀ (x1 : Int32) (x2 : Int32) (x3 : Int32) (μ : am_M), sm_P G l am_ci d me_X10_cheap 15 [(0, .ref (am_ad G 10 0)), (1, .int x1), (2, .int x2), (3, .int x3)] [] μ (r_15 x1 x2 x3 μ)) (x1 : Int32) (x2 : Int32) (x3 : Int32) (μ : am_M) : sm_P G l am_ci d me_X10_cheap 70 [(0, .ref (am_ad G 10 0)), (1, .int x1), (2, .int x2), (3, .int x3)] [] μ (f_X10_cheap_70 N r_15 x1 x2 x3 μ) := by
  unfold f_X10_cheap_70
  refine sm_iinc (pc := 70) (v := (x3 + (1 : Int32))) (lv' := [(3, .int (x3 + (1 : Int32))), (0, .ref (am_ad G 10 0)), (1, .int x1), (2, .int x2)]) dX10_cheap_70 3 rfl rfl (by decide) rfl ?_
  refine sm_goto (pc := 73) (tgt := 15) dX10_cheap_73 (by decide) ?_
  refine sm_sub [1, 2, 3, 0] rfl ?_
  exact H_15 x1 x2 (x3 + (1 : Int32)) μ
set_option maxHeartbeats 4000000 in
set_option maxRecDepth 100000 in
theorem p_X10_cheap_68 (G : am_G) (l : Launch) (d : Nat) (hd0 : 2 ≤ d) (N : Nat) (r_15 : Int32 → Int32 → Int32 → am_M → Option (Int32 × am_M)) (H_15 : ∀ (x1 : Int32) (x2 : Int32) (x3 : Int32) (μ : am_M), sm_P G l am_ci d me_X10_cheap 15 [(0, .ref (am_ad G 10 0)), (1, .int x1), (2, .int x2), (3, .int x3)] [] μ (r_15 x1 x2 x3 μ)) (x1 : Int32) (x3 : Int32) (μ : am_M) : sm_P G l am_ci d me_X10_cheap 68 [(0, .ref (am_ad G 10 0)), (1, .int x1), (3, .int x3)] [] μ (f_X10_cheap_68 N r_15 x1 x3 μ) := by
  unfold f_X10_cheap_68
  refine sm_iload_n (pc := 68) dX10_cheap_68 rfl 2 rfl ?_
  refine sm_istore_n (pc := 69) (lv' := [(2, .int x3), (0, .ref (am_ad G 10 0)), (1, .int x1), (3, .int x3)]) dX10_cheap_69 rfl (by decide) rfl ?_
  refine sm_sub [1, 2, 0, 3] rfl ?_
  exact p_X10_cheap_70 G l d hd0 N r_15 H_15 x1 x3 x3 μ
set_option maxHeartbeats 4000000 in
set_option maxRecDepth 100000 in
theorem p_X10_cheap_15 (G : am_G) (l : Launch) (d : Nat) (hd0 : 2 ≤ d) (N : Nat) (r_15 : Int32 → Int32 → Int32 → am_M → Option (Int32 × am_M)) (H_15 : ∀ (x1 : Int32) (x2 : Int32) (x3 : Int32) (μ : am_M), sm_P G l am_ci d me_X10_cheap 15 [(0, .ref (am_ad G 10 0)), (1, .int x1), (2, .int x2), (3, .int x3)] [] μ (r_15 x1 x2 x3 μ)) (x1 : Int32) (x2 : Int32) (x3 : Int32) (μ : am_M) : sm_P G l am_ci d me_X10_cheap 15 [(0, .ref (am_ad G 10 0)), (1, .int x1), (2, .int x2), (3, .int x3)] [] μ (f_X10_cheap_15 N r_15 x1 x2 x3 μ) := by
  unfold f_X10_cheap_15
  refine sm_iload_n (pc := 15) dX10_cheap_15 rfl 3 rfl ?_
  refine sm_aload_n (pc := 16) dX10_cheap_16 rfl 0 rfl ?_
  refine sm_geti (pc := 17) dX10_cheap_17 fi_X10_102 ?_
  refine sm_icmp_ge (pc := 20) (tgt := 76) dX10_cheap_20 (by decide) ?_ ?_
  · refine sm_iload_n (pc := 76) dX10_cheap_76 rfl 2 rfl ?_
    exact sm_iret (pc := 77) dX10_cheap_77 rfl
  · refine sm_aload_n (pc := 23) dX10_cheap_23 rfl 0 rfl ?_
    refine sm_getr (pc := 24) dX10_cheap_24 fi_X10_22 ?_
    refine sm_iload_n (pc := 27) dX10_cheap_27 rfl 3 rfl ?_
    refine sm_iald (pc := 28) dX10_cheap_28 ly_167 (by decide) (fun j3 hj3 => ?_)
    refine sm_aload_n (pc := 29) dX10_cheap_29 rfl 0 rfl ?_
    refine sm_getr (pc := 30) dX10_cheap_30 fi_X10_9 ?_
    refine sm_bipush (pc := 33) dX10_cheap_33 (v := 6) (by decide) ?_
    refine sm_iload_n (pc := 35) dX10_cheap_35 rfl 3 rfl ?_
    refine sm_iadd (pc := 36) dX10_cheap_36 ?_
    refine sm_iald (pc := 37) dX10_cheap_37 ly_160 (by decide) (fun j4 hj4 => ?_)
    refine sm_iload_n (pc := 38) dX10_cheap_38 rfl 1 rfl ?_
    refine sm_isub (pc := 39) dX10_cheap_39 ?_
    refine sm_icmp_gt (pc := 40) (tgt := 70) dX10_cheap_40 (by decide) ?_ ?_
    · exact p_X10_cheap_70 G l d hd0 N r_15 H_15 x1 x2 x3 μ
    · refine sm_iload_n (pc := 43) dX10_cheap_43 rfl 2 rfl ?_
      refine sm_if_lt (pc := 44) (tgt := 68) dX10_cheap_44 (by decide) ?_ ?_
      · refine sm_sub [0, 1, 3] rfl ?_
        exact p_X10_cheap_68 G l d hd0 N r_15 H_15 x1 x3 μ
      · refine sm_aload_n (pc := 47) dX10_cheap_47 rfl 0 rfl ?_
        refine sm_getr (pc := 48) dX10_cheap_48 fi_X10_9 ?_
        refine sm_bipush (pc := 51) dX10_cheap_51 (v := 12) (by decide) ?_
        refine sm_iload_n (pc := 53) dX10_cheap_53 rfl 3 rfl ?_
        refine sm_iadd (pc := 54) dX10_cheap_54 ?_
        refine sm_iald (pc := 55) dX10_cheap_55 ly_160 (by decide) (fun j5 hj5 => ?_)
        refine sm_aload_n (pc := 56) dX10_cheap_56 rfl 0 rfl ?_
        refine sm_getr (pc := 57) dX10_cheap_57 fi_X10_9 ?_
        refine sm_bipush (pc := 60) dX10_cheap_60 (v := 12) (by decide) ?_
        refine sm_iload_n (pc := 62) dX10_cheap_62 rfl 2 rfl ?_
        refine sm_iadd (pc := 63) dX10_cheap_63 ?_
        refine sm_iald (pc := 64) dX10_cheap_64 ly_160 (by decide) (fun j6 hj6 => ?_)
        refine sm_icmp_ge (pc := 65) (tgt := 70) dX10_cheap_65 (by decide) ?_ ?_
        · exact p_X10_cheap_70 G l d hd0 N r_15 H_15 x1 x2 x3 μ
        · refine sm_sub [0, 1, 3] rfl ?_
          exact p_X10_cheap_68 G l d hd0 N r_15 H_15 x1 x3 μ
theorem p_X10_cheap_15_lp (G : am_G) (l : Launch) (d : Nat) (hd0 : 2 ≤ d) (N : Nat) : ∀ (n : Nat) (x1 : Int32) (x2 : Int32) (x3 : Int32) (μ : am_M), sm_P G l am_ci d me_X10_cheap 15 [(0, .ref (am_ad G 10 0)), (1, .int x1), (2, .int x2), (3, .int x3)] [] μ (f_X10_cheap_15_lp N n x1 x2 x3 μ) := by
  intro n
  induction n with
  | zero => intros; exact sm_none
  | succ n ih => exact fun x1 x2 x3 μ => p_X10_cheap_15 G l d hd0 N (f_X10_cheap_15_lp N n) ih x1 x2 x3 μ
set_option maxHeartbeats 4000000 in
set_option maxRecDepth 100000 in
theorem p_X10_cheap_0 (G : am_G) (l : Launch) (d : Nat) (hd0 : 2 ≤ d) (N : Nat) (a1 : Int32) (μ : am_M) : sm_P G l am_ci d me_X10_cheap 0 [(0, .ref (am_ad G 10 0)), (1, .int a1)] [] μ (f_X10_cheap_0 N a1 μ) := by
  unfold f_X10_cheap_0
  refine sm_iload_n (pc := 0) dX10_cheap_0 rfl 1 rfl ?_
  refine sm_i2l (pc := 1) dX10_cheap_1 ?_
  refine sm_callSi (pc := 2) (As := [.long a1.toInt64]) (rest := []) dX10_cheap_2 (c_X10_isTwo G l N a1.toInt64 μ) (by omega) wl_X10_118 st_X10_isTwo rfl rfl (Nat.le_of_ble_eq_true rfl) (fun y2 μ1 => ?_)
  refine sm_if_ne (pc := 5) (tgt := 10) dX10_cheap_5 (by decide) ?_ ?_
  · refine sm_bipush (pc := 10) dX10_cheap_10 (v := -2) (by decide) ?_
    refine sm_istore_n (pc := 12) (lv' := [(2, .int (-2 : Int32)), (0, .ref (am_ad G 10 0)), (1, .int a1)]) dX10_cheap_12 rfl (by decide) rfl ?_
    refine sm_iconst (pc := 13) dX10_cheap_13 (v := 0) (by decide) ?_
    refine sm_istore_n (pc := 14) (lv' := [(3, .int (0 : Int32)), (2, .int (-2 : Int32)), (0, .ref (am_ad G 10 0)), (1, .int a1)]) dX10_cheap_14 rfl (by decide) rfl ?_
    refine sm_sub [2, 3, 1, 0] rfl ?_
    exact p_X10_cheap_15_lp G l d hd0 N N a1 (-2 : Int32) (0 : Int32) μ1
  · refine sm_iconst (pc := 8) dX10_cheap_8 (v := -1) (by decide) ?_
    exact sm_iret (pc := 9) dX10_cheap_9 rfl
theorem c_X10_cheap (G : am_G) (l : Launch) (N : Nat) (a1 : Int32) (μ : am_M) : ct_P G l am_ci 2 me_X10_cheap [.ref (am_ad G 10 0), .int a1] μ (f_X10_cheap N a1 μ) := ct_of (by decide +kernel) (Nat.le_of_ble_eq_true rfl) rfl (p_X10_cheap_0 G l 2 (Nat.le_refl _) N a1 μ)

def f_X10_wrong_95 (N : Nat) (r_28 : Int32 → Int32 → Int32 → Int32 → am_M → Option (Int32 × am_M)) (x1 : Int32) (x2 : Int32) (x3 : Int32) (x4 : Int32) (μ : am_M) : Option (Int32 × am_M) :=
r_28 x1 x2 x3 (x4 + (1 : Int32)) μ
def f_X10_wrong_89 (N : Nat) (r_28 : Int32 → Int32 → Int32 → Int32 → am_M → Option (Int32 × am_M)) (x1 : Int32) (x4 : Int32) (x5 : Int32) (μ : am_M) : Option (Int32 × am_M) :=
f_X10_wrong_95 N r_28 x1 x4 x5 x4 μ
def f_X10_wrong_72 (N : Nat) (r_28 : Int32 → Int32 → Int32 → Int32 → am_M → Option (Int32 × am_M)) (x1 : Int32) (x2 : Int32) (x3 : Int32) (x4 : Int32) (s0 : Int32) (μ : am_M) : Option (Int32 × am_M) :=
if s0 < 0 then (f_X10_wrong_95 N r_28 x1 x2 x3 x4 μ) else (if x2 < 0 then (f_X10_wrong_89 N r_28 x1 x4 s0 μ) else (if s0 ≤ x3 then (f_X10_wrong_95 N r_28 x1 x2 x3 x4 μ) else (f_X10_wrong_89 N r_28 x1 x4 s0 μ)))
def f_X10_wrong_28 (N : Nat) (r_28 : Int32 → Int32 → Int32 → Int32 → am_M → Option (Int32 × am_M)) (x1 : Int32) (x2 : Int32) (x3 : Int32) (x4 : Int32) (μ : am_M) : Option (Int32 × am_M) :=
if (μ.1 10 0 6) ≤ x4 then (if 0 ≤ x2 then (if x1 = 0 then (some (x2, μ)) else (if x1 = (1 : Int32) then (some (x3, μ)) else (am_bd (f_X10_over N x2 μ) (fun y5 μ4 => if 0 ≤ y5 then (am_bd (f_X10_over N x2 μ4) (fun y7 μ6 => if y7 ≤ 0 then (some ((0 : Int32), μ6)) else (some ((-1 : Int32), μ6)))) else (some ((1 : Int32), μ4)))))) else (some ((-2 : Int32), μ))) else (am_gd x4 28 (fun j8 => if (μ.1 160 0 j8) = 0 then (f_X10_wrong_72 N r_28 x1 x2 x3 x4 (-1 : Int32) μ) else (am_bd (f_X10_over N x4 μ) (fun y10 μ9 => am_bd (f_X10_size N y10 μ9) (fun y12 μ11 => am_gd x4 28 (fun j13 => am_dv (μ11.1 160 0 j13) (f_X10_wrong_72 N r_28 x1 x2 x3 x4 ((y12 * (1000 : Int32)) / (μ11.1 160 0 j13)) μ11)))))))
def f_X10_wrong_28_lp (N : Nat) : Nat → Int32 → Int32 → Int32 → Int32 → am_M → Option (Int32 × am_M)
  | 0, _, _, _, _, _ => none
  | n + 1, x1, x2, x3, x4, μ => f_X10_wrong_28 N (f_X10_wrong_28_lp N n) x1 x2 x3 x4 μ
def f_X10_wrong_0 (N : Nat) (a1 : Int32) (μ : am_M) : Option (Int32 × am_M) :=
am_bd (f_X10_within N a1.toInt64 (0 : Int64) (2 : Int64) μ) (fun y2 μ1 => if y2 = 0 then (some ((-2000000000 : Int32), μ1)) else (am_bd (f_X10_findWanted N μ1) (fun _ μ3 => f_X10_wrong_28_lp N N a1 (-2 : Int32) (0 : Int32) (0 : Int32) μ3)))
def f_X10_wrong (N : Nat) (a1 : Int32) (μ : am_M) : Option (Int32 × am_M) := f_X10_wrong_0 N a1 μ
set_option maxHeartbeats 4000000 in
set_option maxRecDepth 100000 in
theorem p_X10_wrong_95 (G : am_G) (l : Launch) (d : Nat) (hd0 : 109 ≤ d) (N : Nat) (r_28 : Int32 → Int32 → Int32 → Int32 → am_M → Option (Int32 × am_M)) (H_28 : ∀ (x1 : Int32) (x2 : Int32) (x3 : Int32) (x4 : Int32) (μ : am_M), sm_P G l am_ci d me_X10_wrong 28 [(0, .ref (am_ad G 10 0)), (1, .int x1), (2, .int x2), (3, .int x3), (4, .int x4)] [] μ (r_28 x1 x2 x3 x4 μ)) (x1 : Int32) (x2 : Int32) (x3 : Int32) (x4 : Int32) (μ : am_M) : sm_P G l am_ci d me_X10_wrong 95 [(0, .ref (am_ad G 10 0)), (1, .int x1), (2, .int x2), (3, .int x3), (4, .int x4)] [] μ (f_X10_wrong_95 N r_28 x1 x2 x3 x4 μ) := by
  unfold f_X10_wrong_95
  refine sm_iinc (pc := 95) (v := (x4 + (1 : Int32))) (lv' := [(4, .int (x4 + (1 : Int32))), (0, .ref (am_ad G 10 0)), (1, .int x1), (2, .int x2), (3, .int x3)]) dX10_wrong_95 4 rfl rfl (by decide) rfl ?_
  refine sm_goto (pc := 98) (tgt := 28) dX10_wrong_98 (by decide) ?_
  refine sm_sub [1, 2, 3, 4, 0] rfl ?_
  exact H_28 x1 x2 x3 (x4 + (1 : Int32)) μ
set_option maxHeartbeats 4000000 in
set_option maxRecDepth 100000 in
theorem p_X10_wrong_89 (G : am_G) (l : Launch) (d : Nat) (hd0 : 109 ≤ d) (N : Nat) (r_28 : Int32 → Int32 → Int32 → Int32 → am_M → Option (Int32 × am_M)) (H_28 : ∀ (x1 : Int32) (x2 : Int32) (x3 : Int32) (x4 : Int32) (μ : am_M), sm_P G l am_ci d me_X10_wrong 28 [(0, .ref (am_ad G 10 0)), (1, .int x1), (2, .int x2), (3, .int x3), (4, .int x4)] [] μ (r_28 x1 x2 x3 x4 μ)) (x1 : Int32) (x4 : Int32) (x5 : Int32) (μ : am_M) : sm_P G l am_ci d me_X10_wrong 89 [(0, .ref (am_ad G 10 0)), (1, .int x1), (4, .int x4), (5, .int x5)] [] μ (f_X10_wrong_89 N r_28 x1 x4 x5 μ) := by
  unfold f_X10_wrong_89
  refine sm_iload (pc := 89) dX10_wrong_89 2 rfl ?_
  refine sm_istore_n (pc := 91) (lv' := [(2, .int x4), (0, .ref (am_ad G 10 0)), (1, .int x1), (4, .int x4), (5, .int x5)]) dX10_wrong_91 rfl (by decide) rfl ?_
  refine sm_iload (pc := 92) dX10_wrong_92 4 rfl ?_
  refine sm_istore_n (pc := 94) (lv' := [(3, .int x5), (2, .int x4), (0, .ref (am_ad G 10 0)), (1, .int x1), (4, .int x4), (5, .int x5)]) dX10_wrong_94 rfl (by decide) rfl ?_
  refine sm_sub [2, 3, 1, 0, 4] rfl ?_
  exact p_X10_wrong_95 G l d hd0 N r_28 H_28 x1 x4 x5 x4 μ
set_option maxHeartbeats 4000000 in
set_option maxRecDepth 100000 in
theorem p_X10_wrong_72 (G : am_G) (l : Launch) (d : Nat) (hd0 : 109 ≤ d) (N : Nat) (r_28 : Int32 → Int32 → Int32 → Int32 → am_M → Option (Int32 × am_M)) (H_28 : ∀ (x1 : Int32) (x2 : Int32) (x3 : Int32) (x4 : Int32) (μ : am_M), sm_P G l am_ci d me_X10_wrong 28 [(0, .ref (am_ad G 10 0)), (1, .int x1), (2, .int x2), (3, .int x3), (4, .int x4)] [] μ (r_28 x1 x2 x3 x4 μ)) (x1 : Int32) (x2 : Int32) (x3 : Int32) (x4 : Int32) (s0 : Int32) (μ : am_M) : sm_P G l am_ci d me_X10_wrong 72 [(0, .ref (am_ad G 10 0)), (1, .int x1), (2, .int x2), (3, .int x3), (4, .int x4)] [.int s0] μ (f_X10_wrong_72 N r_28 x1 x2 x3 x4 s0 μ) := by
  unfold f_X10_wrong_72
  refine sm_istore (pc := 72) (lv' := [(5, .int s0), (0, .ref (am_ad G 10 0)), (1, .int x1), (2, .int x2), (3, .int x3), (4, .int x4)]) dX10_wrong_72 (by decide) rfl ?_
  refine sm_iload (pc := 74) dX10_wrong_74 0 rfl ?_
  refine sm_if_lt (pc := 76) (tgt := 95) dX10_wrong_76 (by decide) ?_ ?_
  · refine sm_sub [1, 2, 3, 4, 5] rfl ?_
    exact p_X10_wrong_95 G l d hd0 N r_28 H_28 x1 x2 x3 x4 μ
  · refine sm_iload_n (pc := 79) dX10_wrong_79 rfl 3 rfl ?_
    refine sm_if_lt (pc := 80) (tgt := 89) dX10_wrong_80 (by decide) ?_ ?_
    · refine sm_sub [1, 2, 5, 0] rfl ?_
      exact p_X10_wrong_89 G l d hd0 N r_28 H_28 x1 x4 s0 μ
    · refine sm_iload (pc := 83) dX10_wrong_83 0 rfl ?_
      refine sm_iload_n (pc := 85) dX10_wrong_85 rfl 4 rfl ?_
      refine sm_icmp_le (pc := 86) (tgt := 95) dX10_wrong_86 (by decide) ?_ ?_
      · refine sm_sub [1, 2, 3, 4, 5] rfl ?_
        exact p_X10_wrong_95 G l d hd0 N r_28 H_28 x1 x2 x3 x4 μ
      · refine sm_sub [1, 2, 5, 0] rfl ?_
        exact p_X10_wrong_89 G l d hd0 N r_28 H_28 x1 x4 s0 μ
set_option maxHeartbeats 4000000 in
set_option maxRecDepth 100000 in
theorem p_X10_wrong_28 (G : am_G) (l : Launch) (d : Nat) (hd0 : 109 ≤ d) (N : Nat) (r_28 : Int32 → Int32 → Int32 → Int32 → am_M → Option (Int32 × am_M)) (H_28 : ∀ (x1 : Int32) (x2 : Int32) (x3 : Int32) (x4 : Int32) (μ : am_M), sm_P G l am_ci d me_X10_wrong 28 [(0, .ref (am_ad G 10 0)), (1, .int x1), (2, .int x2), (3, .int x3), (4, .int x4)] [] μ (r_28 x1 x2 x3 x4 μ)) (x1 : Int32) (x2 : Int32) (x3 : Int32) (x4 : Int32) (μ : am_M) : sm_P G l am_ci d me_X10_wrong 28 [(0, .ref (am_ad G 10 0)), (1, .int x1), (2, .int x2), (3, .int x3), (4, .int x4)] [] μ (f_X10_wrong_28 N r_28 x1 x2 x3 x4 μ) := by
  unfold f_X10_wrong_28
  refine sm_iload (pc := 28) dX10_wrong_28 4 rfl ?_
  refine sm_aload_n (pc := 30) dX10_wrong_30 rfl 0 rfl ?_
  refine sm_geti (pc := 31) dX10_wrong_31 fi_X10_102 ?_
  refine sm_icmp_ge (pc := 34) (tgt := 101) dX10_wrong_34 (by decide) ?_ ?_
  · refine sm_iload_n (pc := 101) dX10_wrong_101 rfl 2 rfl ?_
    refine sm_if_ge (pc := 102) (tgt := 108) dX10_wrong_102 (by decide) ?_ ?_
    · refine sm_iload_n (pc := 108) dX10_wrong_108 rfl 1 rfl ?_
      refine sm_if_ne (pc := 109) (tgt := 116) dX10_wrong_109 (by decide) ?_ ?_
      · refine sm_iload_n (pc := 116) dX10_wrong_116 rfl 1 rfl ?_
        refine sm_iconst (pc := 117) dX10_wrong_117 (v := 1) (by decide) ?_
        refine sm_icmp_ne (pc := 118) (tgt := 125) dX10_wrong_118 (by decide) ?_ ?_
        · refine sm_aload_n (pc := 125) dX10_wrong_125 rfl 0 rfl ?_
          refine sm_iload_n (pc := 126) dX10_wrong_126 rfl 2 rfl ?_
          refine sm_callVi (pc := 127) (As := [.int x2]) (rest := []) dX10_wrong_127 (c_X10_over G l N x2 μ) (by omega) wl_X10_250 vm_X10_over rfl rfl (Nat.le_of_ble_eq_true rfl) (fun y5 μ4 => ?_)
          refine sm_if_ge (pc := 130) (tgt := 137) dX10_wrong_130 (by decide) ?_ ?_
          · refine sm_aload_n (pc := 137) dX10_wrong_137 rfl 0 rfl ?_
            refine sm_iload_n (pc := 138) dX10_wrong_138 rfl 2 rfl ?_
            refine sm_callVi (pc := 139) (As := [.int x2]) (rest := []) dX10_wrong_139 (c_X10_over G l N x2 μ4) (by omega) wl_X10_250 vm_X10_over rfl rfl (Nat.le_of_ble_eq_true rfl) (fun y7 μ6 => ?_)
            refine sm_if_le (pc := 142) (tgt := 149) dX10_wrong_142 (by decide) ?_ ?_
            · refine sm_iconst (pc := 149) dX10_wrong_149 (v := 0) (by decide) ?_
              exact sm_iret (pc := 150) dX10_wrong_150 rfl
            · refine sm_iconst (pc := 145) dX10_wrong_145 (v := -1) (by decide) ?_
              refine sm_goto (pc := 146) (tgt := 150) dX10_wrong_146 (by decide) ?_
              exact sm_iret (pc := 150) dX10_wrong_150 rfl
          · refine sm_iconst (pc := 133) dX10_wrong_133 (v := 1) (by decide) ?_
            refine sm_goto (pc := 134) (tgt := 150) dX10_wrong_134 (by decide) ?_
            exact sm_iret (pc := 150) dX10_wrong_150 rfl
        · refine sm_iload_n (pc := 121) dX10_wrong_121 rfl 3 rfl ?_
          refine sm_goto (pc := 122) (tgt := 150) dX10_wrong_122 (by decide) ?_
          exact sm_iret (pc := 150) dX10_wrong_150 rfl
      · refine sm_iload_n (pc := 112) dX10_wrong_112 rfl 2 rfl ?_
        refine sm_goto (pc := 113) (tgt := 150) dX10_wrong_113 (by decide) ?_
        exact sm_iret (pc := 150) dX10_wrong_150 rfl
    · refine sm_bipush (pc := 105) dX10_wrong_105 (v := -2) (by decide) ?_
      exact sm_iret (pc := 107) dX10_wrong_107 rfl
  · refine sm_aload_n (pc := 37) dX10_wrong_37 rfl 0 rfl ?_
    refine sm_getr (pc := 38) dX10_wrong_38 fi_X10_9 ?_
    refine sm_iload (pc := 41) dX10_wrong_41 4 rfl ?_
    refine sm_iald (pc := 43) dX10_wrong_43 ly_160 (by decide) (fun j8 hj8 => ?_)
    refine sm_if_ne (pc := 44) (tgt := 51) dX10_wrong_44 (by decide) ?_ ?_
    · refine sm_aload_n (pc := 51) dX10_wrong_51 rfl 0 rfl ?_
      refine sm_iload (pc := 52) dX10_wrong_52 4 rfl ?_
      refine sm_callVi (pc := 54) (As := [.int x4]) (rest := []) dX10_wrong_54 (c_X10_over G l N x4 μ) (by omega) wl_X10_250 vm_X10_over rfl rfl (Nat.le_of_ble_eq_true rfl) (fun y10 μ9 => ?_)
      refine sm_callSi (pc := 57) (As := [.int y10]) (rest := []) dX10_wrong_57 (c_X10_size G l N y10 μ9) (by omega) wl_X10_253 st_X10_size rfl rfl (Nat.le_of_ble_eq_true rfl) (fun y12 μ11 => ?_)
      refine sm_sipush (pc := 60) dX10_wrong_60 (v := 1000) (by decide) ?_
      refine sm_imul (pc := 63) dX10_wrong_63 ?_
      refine sm_aload_n (pc := 64) dX10_wrong_64 rfl 0 rfl ?_
      refine sm_getr (pc := 65) dX10_wrong_65 fi_X10_9 ?_
      refine sm_iload (pc := 68) dX10_wrong_68 4 rfl ?_
      refine sm_iald (pc := 70) dX10_wrong_70 ly_160 (by decide) (fun j13 hj13 => ?_)
      refine sm_idiv (pc := 71) dX10_wrong_71 (fun _ => ?_)
      exact p_X10_wrong_72 G l d hd0 N r_28 H_28 x1 x2 x3 x4 ((y12 * (1000 : Int32)) / (μ11.1 160 0 j13)) μ11
    · refine sm_iconst (pc := 47) dX10_wrong_47 (v := -1) (by decide) ?_
      refine sm_goto (pc := 48) (tgt := 72) dX10_wrong_48 (by decide) ?_
      exact p_X10_wrong_72 G l d hd0 N r_28 H_28 x1 x2 x3 x4 (-1 : Int32) μ
theorem p_X10_wrong_28_lp (G : am_G) (l : Launch) (d : Nat) (hd0 : 109 ≤ d) (N : Nat) : ∀ (n : Nat) (x1 : Int32) (x2 : Int32) (x3 : Int32) (x4 : Int32) (μ : am_M), sm_P G l am_ci d me_X10_wrong 28 [(0, .ref (am_ad G 10 0)), (1, .int x1), (2, .int x2), (3, .int x3), (4, .int x4)] [] μ (f_X10_wrong_28_lp N n x1 x2 x3 x4 μ) := by
  intro n
  induction n with
  | zero => intros; exact sm_none
  | succ n ih => exact fun x1 x2 x3 x4 μ => p_X10_wrong_28 G l d hd0 N (f_X10_wrong_28_lp N n) ih x1 x2 x3 x4 μ
set_option maxHeartbeats 4000000 in
set_option maxRecDepth 100000 in
theorem p_X10_wrong_0 (G : am_G) (l : Launch) (d : Nat) (hd0 : 109 ≤ d) (N : Nat) (a1 : Int32) (μ : am_M) : sm_P G l am_ci d me_X10_wrong 0 [(0, .ref (am_ad G 10 0)), (1, .int a1)] [] μ (f_X10_wrong_0 N a1 μ) := by
  unfold f_X10_wrong_0
  refine sm_iload_n (pc := 0) dX10_wrong_0 rfl 1 rfl ?_
  refine sm_i2l (pc := 1) dX10_wrong_1 ?_
  refine sm_lconst (pc := 2) dX10_wrong_2 (v := 0) (by decide) ?_
  refine sm_ldc2 (pc := 3) dX10_wrong_3 (v := 2) wk_X10_135 ?_
  refine sm_callSi (pc := 6) (As := [.long a1.toInt64, .long (0 : Int64), .long (2 : Int64)]) (rest := []) dX10_wrong_6 (c_X10_within G l N a1.toInt64 (0 : Int64) (2 : Int64) μ) (by omega) wl_X10_105 st_X10_within rfl rfl (Nat.le_of_ble_eq_true rfl) (fun y2 μ1 => ?_)
  refine sm_if_ne (pc := 9) (tgt := 16) dX10_wrong_9 (by decide) ?_ ?_
  · refine sm_aload_n (pc := 16) dX10_wrong_16 rfl 0 rfl ?_
    refine sm_callVv (pc := 17) (As := []) (rest := []) dX10_wrong_17 (c_X10_findWanted G l N μ1) (by omega) wl_X10_257 vm_X10_findWanted rfl rfl (Nat.le_of_ble_eq_true rfl) (fun _ μ3 => ?_)
    refine sm_bipush (pc := 20) dX10_wrong_20 (v := -2) (by decide) ?_
    refine sm_istore_n (pc := 22) (lv' := [(2, .int (-2 : Int32)), (0, .ref (am_ad G 10 0)), (1, .int a1)]) dX10_wrong_22 rfl (by decide) rfl ?_
    refine sm_iconst (pc := 23) dX10_wrong_23 (v := 0) (by decide) ?_
    refine sm_istore_n (pc := 24) (lv' := [(3, .int (0 : Int32)), (2, .int (-2 : Int32)), (0, .ref (am_ad G 10 0)), (1, .int a1)]) dX10_wrong_24 rfl (by decide) rfl ?_
    refine sm_iconst (pc := 25) dX10_wrong_25 (v := 0) (by decide) ?_
    refine sm_istore (pc := 26) (lv' := [(4, .int (0 : Int32)), (3, .int (0 : Int32)), (2, .int (-2 : Int32)), (0, .ref (am_ad G 10 0)), (1, .int a1)]) dX10_wrong_26 (by decide) rfl ?_
    refine sm_sub [3, 4, 2, 1, 0] rfl ?_
    exact p_X10_wrong_28_lp G l d hd0 N N a1 (-2 : Int32) (0 : Int32) (0 : Int32) μ3
  · refine sm_ldcw (pc := 12) dX10_wrong_12 (v := -2000000000) wk_X10_256 ?_
    exact sm_iret (pc := 15) dX10_wrong_15 rfl
theorem c_X10_wrong (G : am_G) (l : Launch) (N : Nat) (a1 : Int32) (μ : am_M) : ct_P G l am_ci 109 me_X10_wrong [.ref (am_ad G 10 0), .int a1] μ (f_X10_wrong N a1 μ) := ct_of (by decide +kernel) (Nat.le_of_ble_eq_true rfl) rfl (p_X10_wrong_0 G l 109 (Nat.le_refl _) N a1 μ)

def f_X10_isBody_0 (N : Nat) (a1 : Int32) (μ : am_M) : Option (Int32 × am_M) :=
am_bd (f_X10_within N a1.toInt64 (0 : Int64) ((μ.1 10 0 45) - (1 : Int32)).toInt64 μ) (fun y2 μ1 => am_z y2 μ1)
def f_X10_isBody (N : Nat) (a1 : Int32) (μ : am_M) : Option (Int32 × am_M) := f_X10_isBody_0 N a1 μ
set_option maxHeartbeats 4000000 in
set_option maxRecDepth 100000 in
theorem p_X10_isBody_0 (G : am_G) (l : Launch) (d : Nat) (hd0 : 1 ≤ d) (N : Nat) (a1 : Int32) (μ : am_M) : sm_P G l am_ci d me_X10_isBody 0 [(0, .ref (am_ad G 10 0)), (1, .int a1)] [] μ (f_X10_isBody_0 N a1 μ) := by
  unfold f_X10_isBody_0
  refine sm_iload_n (pc := 0) dX10_isBody_0 rfl 1 rfl ?_
  refine sm_i2l (pc := 1) dX10_isBody_1 ?_
  refine sm_lconst (pc := 2) dX10_isBody_2 (v := 0) (by decide) ?_
  refine sm_aload_n (pc := 3) dX10_isBody_3 rfl 0 rfl ?_
  refine sm_geti (pc := 4) dX10_isBody_4 fi_X10_327 ?_
  refine sm_iconst (pc := 7) dX10_isBody_7 (v := 1) (by decide) ?_
  refine sm_isub (pc := 8) dX10_isBody_8 ?_
  refine sm_i2l (pc := 9) dX10_isBody_9 ?_
  refine sm_callSi (pc := 10) (As := [.long a1.toInt64, .long (0 : Int64), .long ((μ.1 10 0 45) - (1 : Int32)).toInt64]) (rest := []) dX10_isBody_10 (c_X10_within G l N a1.toInt64 (0 : Int64) ((μ.1 10 0 45) - (1 : Int32)).toInt64 μ) (by omega) wl_X10_105 st_X10_within rfl rfl (Nat.le_of_ble_eq_true rfl) (fun y2 μ1 => ?_)
  exact sm_zret (pc := 13) dX10_isBody_13 rfl
theorem c_X10_isBody (G : am_G) (l : Launch) (N : Nat) (a1 : Int32) (μ : am_M) : ct_P G l am_ci 1 me_X10_isBody [.ref (am_ad G 10 0), .int a1] μ (f_X10_isBody N a1 μ) := ct_of (by decide +kernel) (Nat.le_of_ble_eq_true rfl) rfl (p_X10_isBody_0 G l 1 (Nat.le_refl _) N a1 μ)

def f_X10_kindOf_0 (N : Nat) (a1 : Int32) (μ : am_M) : Option (Int32 × am_M) :=
am_gd a1 50 (fun j1 => some ((μ.1 206 0 j1), μ))
def f_X10_kindOf (N : Nat) (a1 : Int32) (μ : am_M) : Option (Int32 × am_M) := f_X10_kindOf_0 N a1 μ
set_option maxHeartbeats 4000000 in
set_option maxRecDepth 100000 in
theorem p_X10_kindOf_0 (G : am_G) (l : Launch) (d : Nat) (hd0 : 0 ≤ d) (N : Nat) (a1 : Int32) (μ : am_M) : sm_P G l am_ci d me_X10_kindOf 0 [(0, .ref (am_ad G 10 0)), (1, .int a1)] [] μ (f_X10_kindOf_0 N a1 μ) := by
  unfold f_X10_kindOf_0
  refine sm_aload_n (pc := 0) dX10_kindOf_0 rfl 0 rfl ?_
  refine sm_getr (pc := 1) dX10_kindOf_1 fi_X10_77 ?_
  refine sm_iload_n (pc := 4) dX10_kindOf_4 rfl 1 rfl ?_
  refine sm_iald (pc := 5) dX10_kindOf_5 ly_206 (by decide) (fun j1 hj1 => ?_)
  exact sm_iret (pc := 6) dX10_kindOf_6 rfl
theorem c_X10_kindOf (G : am_G) (l : Launch) (N : Nat) (a1 : Int32) (μ : am_M) : ct_P G l am_ci 0 me_X10_kindOf [.ref (am_ad G 10 0), .int a1] μ (f_X10_kindOf N a1 μ) := ct_of (by decide +kernel) (Nat.le_of_ble_eq_true rfl) rfl (p_X10_kindOf_0 G l 0 (Nat.le_refl _) N a1 μ)

def f_X10_body_0 (N : Nat) (a1 : Int32) (μ : am_M) : Option (Int32 × am_M) :=
am_bd (f_X10_within N a1.toInt64 (0 : Int64) (7 : Int64) μ) (fun y2 μ1 => if y2 = 0 then (some ((-1 : Int32), μ1)) else (if (μ1.1 10 0 45) = (50 : Int32) then (some ((-3 : Int32), μ1)) else (am_gd (μ1.1 10 0 45) 50 (fun j3 => am_nm (am_ui μ1 206 0 j3 a1) (fun μ4 => am_nm (am_ui μ4 10 0 45 ((μ4.1 10 0 45) + (1 : Int32))) (fun μ5 => some (((μ5.1 10 0 45) - (1 : Int32)), μ5)))))))
def f_X10_body (N : Nat) (a1 : Int32) (μ : am_M) : Option (Int32 × am_M) := f_X10_body_0 N a1 μ
set_option maxHeartbeats 4000000 in
set_option maxRecDepth 100000 in
theorem p_X10_body_0 (G : am_G) (l : Launch) (d : Nat) (hd0 : 1 ≤ d) (N : Nat) (a1 : Int32) (μ : am_M) : sm_P G l am_ci d me_X10_body 0 [(0, .ref (am_ad G 10 0)), (1, .int a1)] [] μ (f_X10_body_0 N a1 μ) := by
  unfold f_X10_body_0
  refine sm_iload_n (pc := 0) dX10_body_0 rfl 1 rfl ?_
  refine sm_i2l (pc := 1) dX10_body_1 ?_
  refine sm_lconst (pc := 2) dX10_body_2 (v := 0) (by decide) ?_
  refine sm_ldc2 (pc := 3) dX10_body_3 (v := 7) wk_X10_330 ?_
  refine sm_callSi (pc := 6) (As := [.long a1.toInt64, .long (0 : Int64), .long (7 : Int64)]) (rest := []) dX10_body_6 (c_X10_within G l N a1.toInt64 (0 : Int64) (7 : Int64) μ) (by omega) wl_X10_105 st_X10_within rfl rfl (Nat.le_of_ble_eq_true rfl) (fun y2 μ1 => ?_)
  refine sm_if_ne (pc := 9) (tgt := 14) dX10_body_9 (by decide) ?_ ?_
  · refine sm_aload_n (pc := 14) dX10_body_14 rfl 0 rfl ?_
    refine sm_geti (pc := 15) dX10_body_15 fi_X10_327 ?_
    refine sm_bipush (pc := 18) dX10_body_18 (v := 50) (by decide) ?_
    refine sm_icmp_ne (pc := 20) (tgt := 26) dX10_body_20 (by decide) ?_ ?_
    · refine sm_aload_n (pc := 26) dX10_body_26 rfl 0 rfl ?_
      refine sm_getr (pc := 27) dX10_body_27 fi_X10_77 ?_
      refine sm_aload_n (pc := 30) dX10_body_30 rfl 0 rfl ?_
      refine sm_geti (pc := 31) dX10_body_31 fi_X10_327 ?_
      refine sm_iload_n (pc := 34) dX10_body_34 rfl 1 rfl ?_
      refine sm_iast (pc := 35) dX10_body_35 ly_206 (by decide) (fun j3 hj3 => ?_)
      refine sm_nmM (fun μ4 => ?_)
      refine sm_aload_n (pc := 36) dX10_body_36 rfl 0 rfl ?_
      refine sm_dup (pc := 37) dX10_body_37 rfl ?_
      refine sm_geti (pc := 38) dX10_body_38 fi_X10_327 ?_
      refine sm_iconst (pc := 41) dX10_body_41 (v := 1) (by decide) ?_
      refine sm_iadd (pc := 42) dX10_body_42 ?_
      refine sm_puti (pc := 43) dX10_body_43 fi_X10_327 ?_
      refine sm_nmM (fun μ5 => ?_)
      refine sm_aload_n (pc := 46) dX10_body_46 rfl 0 rfl ?_
      refine sm_geti (pc := 47) dX10_body_47 fi_X10_327 ?_
      refine sm_iconst (pc := 50) dX10_body_50 (v := 1) (by decide) ?_
      refine sm_isub (pc := 51) dX10_body_51 ?_
      exact sm_iret (pc := 52) dX10_body_52 rfl
    · refine sm_bipush (pc := 23) dX10_body_23 (v := -3) (by decide) ?_
      exact sm_iret (pc := 25) dX10_body_25 rfl
  · refine sm_iconst (pc := 12) dX10_body_12 (v := -1) (by decide) ?_
    exact sm_iret (pc := 13) dX10_body_13 rfl
theorem c_X10_body (G : am_G) (l : Launch) (N : Nat) (a1 : Int32) (μ : am_M) : ct_P G l am_ci 1 me_X10_body [.ref (am_ad G 10 0), .int a1] μ (f_X10_body N a1 μ) := ct_of (by decide +kernel) (Nat.le_of_ble_eq_true rfl) rfl (p_X10_body_0 G l 1 (Nat.le_refl _) N a1 μ)

def f_X10_above_10 (N : Nat) (μ : am_M) : Option (Int32 × am_M) :=
some ((2 : Int32), μ)
def f_X10_above_0 (N : Nat) (a0 : Int32) (μ : am_M) : Option (Int32 × am_M) :=
if a0 = (3 : Int32) then (f_X10_above_10 N μ) else (if a0 = (4 : Int32) then (f_X10_above_10 N μ) else (if a0 = (5 : Int32) then (some ((3 : Int32), μ)) else (if a0 = (7 : Int32) then (some ((4 : Int32), μ)) else (some ((0 : Int32), μ)))))
def f_X10_above (N : Nat) (a0 : Int32) (μ : am_M) : Option (Int32 × am_M) := f_X10_above_0 N a0 μ
set_option maxHeartbeats 4000000 in
set_option maxRecDepth 100000 in
theorem p_X10_above_10 (G : am_G) (l : Launch) (d : Nat) (hd0 : 0 ≤ d) (N : Nat) (μ : am_M) : sm_P G l am_ci d me_X10_above 10 [] [] μ (f_X10_above_10 N μ) := by
  unfold f_X10_above_10
  refine sm_iconst (pc := 10) dX10_above_10 (v := 2) (by decide) ?_
  refine sm_goto (pc := 11) (tgt := 34) dX10_above_11 (by decide) ?_
  exact sm_iret (pc := 34) dX10_above_34 rfl
set_option maxHeartbeats 4000000 in
set_option maxRecDepth 100000 in
theorem p_X10_above_0 (G : am_G) (l : Launch) (d : Nat) (hd0 : 0 ≤ d) (N : Nat) (a0 : Int32) (μ : am_M) : sm_P G l am_ci d me_X10_above 0 [(0, .int a0)] [] μ (f_X10_above_0 N a0 μ) := by
  unfold f_X10_above_0
  refine sm_iload_n (pc := 0) dX10_above_0 rfl 0 rfl ?_
  refine sm_iconst (pc := 1) dX10_above_1 (v := 3) (by decide) ?_
  refine sm_icmp_eq (pc := 2) (tgt := 10) dX10_above_2 (by decide) ?_ ?_
  · refine sm_sub [] rfl ?_
    exact p_X10_above_10 G l d hd0 N μ
  · refine sm_iload_n (pc := 5) dX10_above_5 rfl 0 rfl ?_
    refine sm_iconst (pc := 6) dX10_above_6 (v := 4) (by decide) ?_
    refine sm_icmp_ne (pc := 7) (tgt := 14) dX10_above_7 (by decide) ?_ ?_
    · refine sm_iload_n (pc := 14) dX10_above_14 rfl 0 rfl ?_
      refine sm_iconst (pc := 15) dX10_above_15 (v := 5) (by decide) ?_
      refine sm_icmp_ne (pc := 16) (tgt := 23) dX10_above_16 (by decide) ?_ ?_
      · refine sm_iload_n (pc := 23) dX10_above_23 rfl 0 rfl ?_
        refine sm_bipush (pc := 24) dX10_above_24 (v := 7) (by decide) ?_
        refine sm_icmp_ne (pc := 26) (tgt := 33) dX10_above_26 (by decide) ?_ ?_
        · refine sm_iconst (pc := 33) dX10_above_33 (v := 0) (by decide) ?_
          exact sm_iret (pc := 34) dX10_above_34 rfl
        · refine sm_iconst (pc := 29) dX10_above_29 (v := 4) (by decide) ?_
          refine sm_goto (pc := 30) (tgt := 34) dX10_above_30 (by decide) ?_
          exact sm_iret (pc := 34) dX10_above_34 rfl
      · refine sm_iconst (pc := 19) dX10_above_19 (v := 3) (by decide) ?_
        refine sm_goto (pc := 20) (tgt := 34) dX10_above_20 (by decide) ?_
        exact sm_iret (pc := 34) dX10_above_34 rfl
    · refine sm_sub [] rfl ?_
      exact p_X10_above_10 G l d hd0 N μ
theorem c_X10_above (G : am_G) (l : Launch) (N : Nat) (a0 : Int32) (μ : am_M) : ct_P G l am_ci 0 me_X10_above [.int a0] μ (f_X10_above N a0 μ) := ct_of (by decide +kernel) (Nat.le_of_ble_eq_true rfl) rfl (p_X10_above_0 G l 0 (Nat.le_refl _) N a0 μ)

def f_X10_begins_19 (N : Nat) (μ : am_M) : Option (Unit × am_M) :=
am_nm (am_ui μ 10 0 48 ((μ.1 10 0 48) + (1 : Int32))) (fun μ1 => some ((), μ1))
def f_X10_begins_0 (N : Nat) (a1 : Int32) (μ : am_M) : Option (Unit × am_M) :=
if (24 : Int32) ≤ (μ.1 10 0 48) then (f_X10_begins_19 N μ) else (am_gd (μ.1 10 0 48) 24 (fun j2 => am_nm (am_ui μ 207 0 j2 a1) (fun μ3 => f_X10_begins_19 N μ3)))
def f_X10_begins (N : Nat) (a1 : Int32) (μ : am_M) : Option (Unit × am_M) := f_X10_begins_0 N a1 μ
set_option maxHeartbeats 4000000 in
set_option maxRecDepth 100000 in
theorem p_X10_begins_19 (G : am_G) (l : Launch) (d : Nat) (hd0 : 0 ≤ d) (N : Nat) (μ : am_M) : sm_P G l am_cu d me_X10_begins 19 [(0, .ref (am_ad G 10 0))] [] μ (f_X10_begins_19 N μ) := by
  unfold f_X10_begins_19
  refine sm_aload_n (pc := 19) dX10_begins_19 rfl 0 rfl ?_
  refine sm_dup (pc := 20) dX10_begins_20 rfl ?_
  refine sm_geti (pc := 21) dX10_begins_21 fi_X10_332 ?_
  refine sm_iconst (pc := 24) dX10_begins_24 (v := 1) (by decide) ?_
  refine sm_iadd (pc := 25) dX10_begins_25 ?_
  refine sm_puti (pc := 26) dX10_begins_26 fi_X10_332 ?_
  refine sm_nmM (fun μ1 => ?_)
  exact sm_vret (pc := 29) dX10_begins_29 rfl
set_option maxHeartbeats 4000000 in
set_option maxRecDepth 100000 in
theorem p_X10_begins_0 (G : am_G) (l : Launch) (d : Nat) (hd0 : 0 ≤ d) (N : Nat) (a1 : Int32) (μ : am_M) : sm_P G l am_cu d me_X10_begins 0 [(0, .ref (am_ad G 10 0)), (1, .int a1)] [] μ (f_X10_begins_0 N a1 μ) := by
  unfold f_X10_begins_0
  refine sm_aload_n (pc := 0) dX10_begins_0 rfl 0 rfl ?_
  refine sm_geti (pc := 1) dX10_begins_1 fi_X10_332 ?_
  refine sm_bipush (pc := 4) dX10_begins_4 (v := 24) (by decide) ?_
  refine sm_icmp_ge (pc := 6) (tgt := 19) dX10_begins_6 (by decide) ?_ ?_
  · refine sm_sub [0] rfl ?_
    exact p_X10_begins_19 G l d hd0 N μ
  · refine sm_aload_n (pc := 9) dX10_begins_9 rfl 0 rfl ?_
    refine sm_getr (pc := 10) dX10_begins_10 fi_X10_80 ?_
    refine sm_aload_n (pc := 13) dX10_begins_13 rfl 0 rfl ?_
    refine sm_geti (pc := 14) dX10_begins_14 fi_X10_332 ?_
    refine sm_iload_n (pc := 17) dX10_begins_17 rfl 1 rfl ?_
    refine sm_iast (pc := 18) dX10_begins_18 ly_207 (by decide) (fun j2 hj2 => ?_)
    refine sm_nmM (fun μ3 => ?_)
    refine sm_sub [0] rfl ?_
    exact p_X10_begins_19 G l d hd0 N μ3
theorem c_X10_begins (G : am_G) (l : Launch) (N : Nat) (a1 : Int32) (μ : am_M) : ct_P G l am_cu 0 me_X10_begins [.ref (am_ad G 10 0), .int a1] μ (f_X10_begins N a1 μ) := ct_of (by decide +kernel) (Nat.le_of_ble_eq_true rfl) rfl (p_X10_begins_0 G l 0 (Nat.le_refl _) N a1 μ)

def f_X10_buysAs_0 (N : Nat) (g_X10_buysAs : Int32 → Int32 → am_M → Option (Int32 × am_M)) (a1 : Int32) (a2 : Int32) (μ : am_M) : Option (Int32 × am_M) :=
if a1 = (1 : Int32) then (am_bd (f_X10_begins N (20 : Int32) μ) (fun _ μ8 => am_bd (g_X10_buysAs (0 : Int32) a2 μ8) (fun y10 μ9 => some ((y10 + (3 : Int32)), μ9)))) else (if a1 = (5 : Int32) then (am_bd (f_X10_begins N (60 : Int32) μ) (fun _ μ5 => am_bd (g_X10_buysAs (0 : Int32) (a2 + (1 : Int32)) μ5) (fun y7 μ6 => some (y7, μ6)))) else (if a1 = (6 : Int32) then (am_bd (f_X10_begins N (70 : Int32) μ) (fun _ μ2 => am_bd (g_X10_buysAs (0 : Int32) a2 μ2) (fun y4 μ3 => some ((y4 * (2 : Int32)), μ3)))) else (am_bd (f_X10_begins N (1 : Int32) μ) (fun _ μ1 => some ((a2 + (μ1.1 10 0 50)), μ1)))))
def f_X10_buysAs_r (N : Nat) : Nat → Int32 → Int32 → am_M → Option (Int32 × am_M)
  | 0, _, _, _ => none
  | D + 1, a1, a2, μ => f_X10_buysAs_0 N (f_X10_buysAs_r N D) a1 a2 μ
def f_X10_buysAs (N : Nat) (a1 : Int32) (a2 : Int32) (μ : am_M) : Option (Int32 × am_M) := f_X10_buysAs_r N 100 a1 a2 μ
set_option maxHeartbeats 4000000 in
set_option maxRecDepth 100000 in
theorem p_X10_buysAs_0 (G : am_G) (l : Launch) (d : Nat) (hd0 : 1 ≤ d) (dd : Nat) (hdd : dd + 1 ≤ d) (N : Nat) (g_X10_buysAs : Int32 → Int32 → am_M → Option (Int32 × am_M)) (Hg_X10_buysAs : ∀ (z0 : Int32) (z1 : Int32) (μ : am_M), ct_P G l am_ci dd me_X10_buysAs [.ref (am_ad G 10 0), .int z0, .int z1] μ (g_X10_buysAs z0 z1 μ)) (a1 : Int32) (a2 : Int32) (μ : am_M) : sm_P G l am_ci d me_X10_buysAs 0 [(0, .ref (am_ad G 10 0)), (1, .int a1), (2, .int a2)] [] μ (f_X10_buysAs_0 N g_X10_buysAs a1 a2 μ) := by
  unfold f_X10_buysAs_0
  refine sm_iload_n (pc := 0) dX10_buysAs_0 rfl 1 rfl ?_
  refine sm_iconst (pc := 1) dX10_buysAs_1 (v := 1) (by decide) ?_
  refine sm_icmp_ne (pc := 2) (tgt := 20) dX10_buysAs_2 (by decide) ?_ ?_
  · refine sm_iload_n (pc := 20) dX10_buysAs_20 rfl 1 rfl ?_
    refine sm_iconst (pc := 21) dX10_buysAs_21 (v := 5) (by decide) ?_
    refine sm_icmp_ne (pc := 22) (tgt := 40) dX10_buysAs_22 (by decide) ?_ ?_
    · refine sm_iload_n (pc := 40) dX10_buysAs_40 rfl 1 rfl ?_
      refine sm_bipush (pc := 41) dX10_buysAs_41 (v := 6) (by decide) ?_
      refine sm_icmp_ne (pc := 43) (tgt := 61) dX10_buysAs_43 (by decide) ?_ ?_
      · refine sm_aload_n (pc := 61) dX10_buysAs_61 rfl 0 rfl ?_
        refine sm_iconst (pc := 62) dX10_buysAs_62 (v := 1) (by decide) ?_
        refine sm_callVv (pc := 63) (As := [.int (1 : Int32)]) (rest := []) dX10_buysAs_63 (c_X10_begins G l N (1 : Int32) μ) (by omega) wl_X10_335 vm_X10_begins rfl rfl (Nat.le_of_ble_eq_true rfl) (fun _ μ1 => ?_)
        refine sm_iload_n (pc := 66) dX10_buysAs_66 rfl 2 rfl ?_
        refine sm_aload_n (pc := 67) dX10_buysAs_67 rfl 0 rfl ?_
        refine sm_geti (pc := 68) dX10_buysAs_68 fi_X10_341 ?_
        refine sm_iadd (pc := 71) dX10_buysAs_71 ?_
        exact sm_iret (pc := 72) dX10_buysAs_72 rfl
      · refine sm_aload_n (pc := 46) dX10_buysAs_46 rfl 0 rfl ?_
        refine sm_bipush (pc := 47) dX10_buysAs_47 (v := 70) (by decide) ?_
        refine sm_callVv (pc := 49) (As := [.int (70 : Int32)]) (rest := []) dX10_buysAs_49 (c_X10_begins G l N (70 : Int32) μ) (by omega) wl_X10_335 vm_X10_begins rfl rfl (Nat.le_of_ble_eq_true rfl) (fun _ μ2 => ?_)
        refine sm_aload_n (pc := 52) dX10_buysAs_52 rfl 0 rfl ?_
        refine sm_iconst (pc := 53) dX10_buysAs_53 (v := 0) (by decide) ?_
        refine sm_iload_n (pc := 54) dX10_buysAs_54 rfl 2 rfl ?_
        refine sm_callVi (pc := 55) (As := [.int (0 : Int32), .int a2]) (rest := []) dX10_buysAs_55 (Hg_X10_buysAs (0 : Int32) a2 μ2) (by omega) wl_X10_338 vm_X10_buysAs rfl rfl (Nat.le_of_ble_eq_true rfl) (fun y4 μ3 => ?_)
        refine sm_iconst (pc := 58) dX10_buysAs_58 (v := 2) (by decide) ?_
        refine sm_imul (pc := 59) dX10_buysAs_59 ?_
        exact sm_iret (pc := 60) dX10_buysAs_60 rfl
    · refine sm_aload_n (pc := 25) dX10_buysAs_25 rfl 0 rfl ?_
      refine sm_bipush (pc := 26) dX10_buysAs_26 (v := 60) (by decide) ?_
      refine sm_callVv (pc := 28) (As := [.int (60 : Int32)]) (rest := []) dX10_buysAs_28 (c_X10_begins G l N (60 : Int32) μ) (by omega) wl_X10_335 vm_X10_begins rfl rfl (Nat.le_of_ble_eq_true rfl) (fun _ μ5 => ?_)
      refine sm_aload_n (pc := 31) dX10_buysAs_31 rfl 0 rfl ?_
      refine sm_iconst (pc := 32) dX10_buysAs_32 (v := 0) (by decide) ?_
      refine sm_iload_n (pc := 33) dX10_buysAs_33 rfl 2 rfl ?_
      refine sm_iconst (pc := 34) dX10_buysAs_34 (v := 1) (by decide) ?_
      refine sm_iadd (pc := 35) dX10_buysAs_35 ?_
      refine sm_callVi (pc := 36) (As := [.int (0 : Int32), .int (a2 + (1 : Int32))]) (rest := []) dX10_buysAs_36 (Hg_X10_buysAs (0 : Int32) (a2 + (1 : Int32)) μ5) (by omega) wl_X10_338 vm_X10_buysAs rfl rfl (Nat.le_of_ble_eq_true rfl) (fun y7 μ6 => ?_)
      exact sm_iret (pc := 39) dX10_buysAs_39 rfl
  · refine sm_aload_n (pc := 5) dX10_buysAs_5 rfl 0 rfl ?_
    refine sm_bipush (pc := 6) dX10_buysAs_6 (v := 20) (by decide) ?_
    refine sm_callVv (pc := 8) (As := [.int (20 : Int32)]) (rest := []) dX10_buysAs_8 (c_X10_begins G l N (20 : Int32) μ) (by omega) wl_X10_335 vm_X10_begins rfl rfl (Nat.le_of_ble_eq_true rfl) (fun _ μ8 => ?_)
    refine sm_aload_n (pc := 11) dX10_buysAs_11 rfl 0 rfl ?_
    refine sm_iconst (pc := 12) dX10_buysAs_12 (v := 0) (by decide) ?_
    refine sm_iload_n (pc := 13) dX10_buysAs_13 rfl 2 rfl ?_
    refine sm_callVi (pc := 14) (As := [.int (0 : Int32), .int a2]) (rest := []) dX10_buysAs_14 (Hg_X10_buysAs (0 : Int32) a2 μ8) (by omega) wl_X10_338 vm_X10_buysAs rfl rfl (Nat.le_of_ble_eq_true rfl) (fun y10 μ9 => ?_)
    refine sm_iconst (pc := 17) dX10_buysAs_17 (v := 3) (by decide) ?_
    refine sm_iadd (pc := 18) dX10_buysAs_18 ?_
    exact sm_iret (pc := 19) dX10_buysAs_19 rfl
theorem cr_X10_buysAs (G : am_G) (l : Launch) (N : Nat) : ∀ (D : Nat) (a1 : Int32) (a2 : Int32) (μ : am_M), ct_P G l am_ci (1 + D) me_X10_buysAs [.ref (am_ad G 10 0), .int a1, .int a2] μ (f_X10_buysAs_r N D a1 a2 μ) := by
  intro D
  induction D with
  | zero => intros; exact fun a μ1 ho => by cases ho
  | succ D ih => exact fun a1 a2 μ => ct_of (by decide +kernel) (Nat.le_of_ble_eq_true rfl) rfl (p_X10_buysAs_0 G l (1 + (D + 1)) (by omega) (1 + D) (by omega) N (f_X10_buysAs_r N D) ih a1 a2 μ)
theorem c_X10_buysAs (G : am_G) (l : Launch) (N : Nat) (a1 : Int32) (a2 : Int32) (μ : am_M) : ct_P G l am_ci 101 me_X10_buysAs [.ref (am_ad G 10 0), .int a1, .int a2] μ (f_X10_buysAs N a1 a2 μ) := cr_X10_buysAs G l N 100 a1 a2 μ

def f_X10_lendsAs_10 (N : Nat) (g_X10_lendsAs : Int32 → Int32 → am_M → Option (Int32 × am_M)) (x2 : Int32) (μ : am_M) : Option (Int32 × am_M) :=
am_bd (f_X10_begins N (40 : Int32) μ) (fun _ μ1 => am_bd (g_X10_lendsAs (0 : Int32) x2 μ1) (fun y3 μ2 => some ((y3 * (3 : Int32)), μ2)))
def f_X10_lendsAs_36 (N : Nat) (g_X10_lendsAs : Int32 → Int32 → am_M → Option (Int32 × am_M)) (x2 : Int32) (μ : am_M) : Option (Int32 × am_M) :=
am_bd (f_X10_begins N (50 : Int32) μ) (fun _ μ4 => am_bd (g_X10_lendsAs (0 : Int32) x2 μ4) (fun y6 μ5 => am_bd (f_X10_buysAs N (μ5.1 10 0 49) (2 : Int32) μ5) (fun y8 μ7 => some ((y6 - y8), μ7))))
def f_X10_lendsAs_0 (N : Nat) (g_X10_lendsAs : Int32 → Int32 → am_M → Option (Int32 × am_M)) (a1 : Int32) (a2 : Int32) (μ : am_M) : Option (Int32 × am_M) :=
if a1 = (3 : Int32) then (f_X10_lendsAs_10 N g_X10_lendsAs a2 μ) else (if a1 = (5 : Int32) then (f_X10_lendsAs_10 N g_X10_lendsAs a2 μ) else (if a1 = (4 : Int32) then (f_X10_lendsAs_36 N g_X10_lendsAs a2 μ) else (if a1 = (7 : Int32) then (f_X10_lendsAs_36 N g_X10_lendsAs a2 μ) else (am_bd (f_X10_begins N (11 : Int32) μ) (fun _ μ9 => some ((a2 ^^^ (μ9.1 10 0 50)), μ9))))))
def f_X10_lendsAs_r (N : Nat) : Nat → Int32 → Int32 → am_M → Option (Int32 × am_M)
  | 0, _, _, _ => none
  | D + 1, a1, a2, μ => f_X10_lendsAs_0 N (f_X10_lendsAs_r N D) a1 a2 μ
def f_X10_lendsAs (N : Nat) (a1 : Int32) (a2 : Int32) (μ : am_M) : Option (Int32 × am_M) := f_X10_lendsAs_r N 100 a1 a2 μ
set_option maxHeartbeats 4000000 in
set_option maxRecDepth 100000 in
theorem p_X10_lendsAs_10 (G : am_G) (l : Launch) (d : Nat) (hd0 : 102 ≤ d) (dd : Nat) (hdd : dd + 1 ≤ d) (N : Nat) (g_X10_lendsAs : Int32 → Int32 → am_M → Option (Int32 × am_M)) (Hg_X10_lendsAs : ∀ (z0 : Int32) (z1 : Int32) (μ : am_M), ct_P G l am_ci dd me_X10_lendsAs [.ref (am_ad G 10 0), .int z0, .int z1] μ (g_X10_lendsAs z0 z1 μ)) (x2 : Int32) (μ : am_M) : sm_P G l am_ci d me_X10_lendsAs 10 [(0, .ref (am_ad G 10 0)), (2, .int x2)] [] μ (f_X10_lendsAs_10 N g_X10_lendsAs x2 μ) := by
  unfold f_X10_lendsAs_10
  refine sm_aload_n (pc := 10) dX10_lendsAs_10 rfl 0 rfl ?_
  refine sm_bipush (pc := 11) dX10_lendsAs_11 (v := 40) (by decide) ?_
  refine sm_callVv (pc := 13) (As := [.int (40 : Int32)]) (rest := []) dX10_lendsAs_13 (c_X10_begins G l N (40 : Int32) μ) (by omega) wl_X10_335 vm_X10_begins rfl rfl (Nat.le_of_ble_eq_true rfl) (fun _ μ1 => ?_)
  refine sm_aload_n (pc := 16) dX10_lendsAs_16 rfl 0 rfl ?_
  refine sm_iconst (pc := 17) dX10_lendsAs_17 (v := 0) (by decide) ?_
  refine sm_iload_n (pc := 18) dX10_lendsAs_18 rfl 1 rfl ?_
  refine sm_callVi (pc := 19) (As := [.int (0 : Int32), .int x2]) (rest := []) dX10_lendsAs_19 (Hg_X10_lendsAs (0 : Int32) x2 μ1) (by omega) wl_X10_350 vm_X10_lendsAs rfl rfl (Nat.le_of_ble_eq_true rfl) (fun y3 μ2 => ?_)
  refine sm_iconst (pc := 22) dX10_lendsAs_22 (v := 3) (by decide) ?_
  refine sm_imul (pc := 23) dX10_lendsAs_23 ?_
  exact sm_iret (pc := 24) dX10_lendsAs_24 rfl
set_option maxHeartbeats 4000000 in
set_option maxRecDepth 100000 in
theorem p_X10_lendsAs_36 (G : am_G) (l : Launch) (d : Nat) (hd0 : 102 ≤ d) (dd : Nat) (hdd : dd + 1 ≤ d) (N : Nat) (g_X10_lendsAs : Int32 → Int32 → am_M → Option (Int32 × am_M)) (Hg_X10_lendsAs : ∀ (z0 : Int32) (z1 : Int32) (μ : am_M), ct_P G l am_ci dd me_X10_lendsAs [.ref (am_ad G 10 0), .int z0, .int z1] μ (g_X10_lendsAs z0 z1 μ)) (x2 : Int32) (μ : am_M) : sm_P G l am_ci d me_X10_lendsAs 36 [(0, .ref (am_ad G 10 0)), (2, .int x2)] [] μ (f_X10_lendsAs_36 N g_X10_lendsAs x2 μ) := by
  unfold f_X10_lendsAs_36
  refine sm_aload_n (pc := 36) dX10_lendsAs_36 rfl 0 rfl ?_
  refine sm_bipush (pc := 37) dX10_lendsAs_37 (v := 50) (by decide) ?_
  refine sm_callVv (pc := 39) (As := [.int (50 : Int32)]) (rest := []) dX10_lendsAs_39 (c_X10_begins G l N (50 : Int32) μ) (by omega) wl_X10_335 vm_X10_begins rfl rfl (Nat.le_of_ble_eq_true rfl) (fun _ μ4 => ?_)
  refine sm_aload_n (pc := 42) dX10_lendsAs_42 rfl 0 rfl ?_
  refine sm_iconst (pc := 43) dX10_lendsAs_43 (v := 0) (by decide) ?_
  refine sm_iload_n (pc := 44) dX10_lendsAs_44 rfl 1 rfl ?_
  refine sm_callVi (pc := 45) (As := [.int (0 : Int32), .int x2]) (rest := []) dX10_lendsAs_45 (Hg_X10_lendsAs (0 : Int32) x2 μ4) (by omega) wl_X10_350 vm_X10_lendsAs rfl rfl (Nat.le_of_ble_eq_true rfl) (fun y6 μ5 => ?_)
  refine sm_istore_n (pc := 48) (lv' := [(3, .int y6), (0, .ref (am_ad G 10 0)), (2, .int x2)]) dX10_lendsAs_48 rfl (by decide) rfl ?_
  refine sm_iload_n (pc := 49) dX10_lendsAs_49 rfl 0 rfl ?_
  refine sm_aload_n (pc := 50) dX10_lendsAs_50 rfl 1 rfl ?_
  refine sm_aload_n (pc := 51) dX10_lendsAs_51 rfl 1 rfl ?_
  refine sm_geti (pc := 52) dX10_lendsAs_52 fi_X10_347 ?_
  refine sm_iconst (pc := 55) dX10_lendsAs_55 (v := 2) (by decide) ?_
  refine sm_callVi (pc := 56) (As := [.int (μ5.1 10 0 49), .int (2 : Int32)]) (rest := [.int y6]) dX10_lendsAs_56 (c_X10_buysAs G l N (μ5.1 10 0 49) (2 : Int32) μ5) (by omega) wl_X10_338 vm_X10_buysAs rfl rfl (Nat.le_of_ble_eq_true rfl) (fun y8 μ7 => ?_)
  refine sm_isub (pc := 59) dX10_lendsAs_59 ?_
  exact sm_iret (pc := 60) dX10_lendsAs_60 rfl
set_option maxHeartbeats 4000000 in
set_option maxRecDepth 100000 in
theorem p_X10_lendsAs_0 (G : am_G) (l : Launch) (d : Nat) (hd0 : 102 ≤ d) (dd : Nat) (hdd : dd + 1 ≤ d) (N : Nat) (g_X10_lendsAs : Int32 → Int32 → am_M → Option (Int32 × am_M)) (Hg_X10_lendsAs : ∀ (z0 : Int32) (z1 : Int32) (μ : am_M), ct_P G l am_ci dd me_X10_lendsAs [.ref (am_ad G 10 0), .int z0, .int z1] μ (g_X10_lendsAs z0 z1 μ)) (a1 : Int32) (a2 : Int32) (μ : am_M) : sm_P G l am_ci d me_X10_lendsAs 0 [(0, .ref (am_ad G 10 0)), (1, .int a1), (2, .int a2)] [] μ (f_X10_lendsAs_0 N g_X10_lendsAs a1 a2 μ) := by
  unfold f_X10_lendsAs_0
  refine sm_iload_n (pc := 0) dX10_lendsAs_0 rfl 1 rfl ?_
  refine sm_iconst (pc := 1) dX10_lendsAs_1 (v := 3) (by decide) ?_
  refine sm_icmp_eq (pc := 2) (tgt := 10) dX10_lendsAs_2 (by decide) ?_ ?_
  · refine sm_sub [0, 2] rfl ?_
    exact p_X10_lendsAs_10 G l d hd0 dd hdd N g_X10_lendsAs Hg_X10_lendsAs a2 μ
  · refine sm_iload_n (pc := 5) dX10_lendsAs_5 rfl 1 rfl ?_
    refine sm_iconst (pc := 6) dX10_lendsAs_6 (v := 5) (by decide) ?_
    refine sm_icmp_ne (pc := 7) (tgt := 25) dX10_lendsAs_7 (by decide) ?_ ?_
    · refine sm_iload_n (pc := 25) dX10_lendsAs_25 rfl 1 rfl ?_
      refine sm_iconst (pc := 26) dX10_lendsAs_26 (v := 4) (by decide) ?_
      refine sm_icmp_eq (pc := 27) (tgt := 36) dX10_lendsAs_27 (by decide) ?_ ?_
      · refine sm_sub [0, 2] rfl ?_
        exact p_X10_lendsAs_36 G l d hd0 dd hdd N g_X10_lendsAs Hg_X10_lendsAs a2 μ
      · refine sm_iload_n (pc := 30) dX10_lendsAs_30 rfl 1 rfl ?_
        refine sm_bipush (pc := 31) dX10_lendsAs_31 (v := 7) (by decide) ?_
        refine sm_icmp_ne (pc := 33) (tgt := 61) dX10_lendsAs_33 (by decide) ?_ ?_
        · refine sm_aload_n (pc := 61) dX10_lendsAs_61 rfl 0 rfl ?_
          refine sm_bipush (pc := 62) dX10_lendsAs_62 (v := 11) (by decide) ?_
          refine sm_callVv (pc := 64) (As := [.int (11 : Int32)]) (rest := []) dX10_lendsAs_64 (c_X10_begins G l N (11 : Int32) μ) (by omega) wl_X10_335 vm_X10_begins rfl rfl (Nat.le_of_ble_eq_true rfl) (fun _ μ9 => ?_)
          refine sm_iload_n (pc := 67) dX10_lendsAs_67 rfl 2 rfl ?_
          refine sm_aload_n (pc := 68) dX10_lendsAs_68 rfl 0 rfl ?_
          refine sm_geti (pc := 69) dX10_lendsAs_69 fi_X10_341 ?_
          refine sm_ixor (pc := 72) dX10_lendsAs_72 ?_
          exact sm_iret (pc := 73) dX10_lendsAs_73 rfl
        · refine sm_sub [0, 2] rfl ?_
          exact p_X10_lendsAs_36 G l d hd0 dd hdd N g_X10_lendsAs Hg_X10_lendsAs a2 μ
    · refine sm_sub [0, 2] rfl ?_
      exact p_X10_lendsAs_10 G l d hd0 dd hdd N g_X10_lendsAs Hg_X10_lendsAs a2 μ
theorem cr_X10_lendsAs (G : am_G) (l : Launch) (N : Nat) : ∀ (D : Nat) (a1 : Int32) (a2 : Int32) (μ : am_M), ct_P G l am_ci (102 + D) me_X10_lendsAs [.ref (am_ad G 10 0), .int a1, .int a2] μ (f_X10_lendsAs_r N D a1 a2 μ) := by
  intro D
  induction D with
  | zero => intros; exact fun a μ1 ho => by cases ho
  | succ D ih => exact fun a1 a2 μ => ct_of (by decide +kernel) (Nat.le_of_ble_eq_true rfl) rfl (p_X10_lendsAs_0 G l (102 + (D + 1)) (by omega) (102 + D) (by omega) N (f_X10_lendsAs_r N D) ih a1 a2 μ)
theorem c_X10_lendsAs (G : am_G) (l : Launch) (N : Nat) (a1 : Int32) (a2 : Int32) (μ : am_M) : ct_P G l am_ci 202 me_X10_lendsAs [.ref (am_ad G 10 0), .int a1, .int a2] μ (f_X10_lendsAs N a1 a2 μ) := cr_X10_lendsAs G l N 100 a1 a2 μ

def f_X10_keepsAs_51 (N : Nat) (g_X10_keepsAs : Int32 → Int32 → am_M → Option (Int32 × am_M)) (x2 : Int32) (μ : am_M) : Option (Int32 × am_M) :=
am_bd (f_X10_begins N (30 : Int32) μ) (fun _ μ1 => am_bd (g_X10_keepsAs (0 : Int32) x2 μ1) (fun y3 μ2 => some ((-y3), μ2)))
def f_X10_keepsAs_0 (N : Nat) (g_X10_keepsAs : Int32 → Int32 → am_M → Option (Int32 × am_M)) (a1 : Int32) (a2 : Int32) (μ : am_M) : Option (Int32 × am_M) :=
if a1 = (7 : Int32) then (am_bd (f_X10_begins N (80 : Int32) μ) (fun _ μ7 => am_bd (g_X10_keepsAs (4 : Int32) a2 μ7) (fun y9 μ8 => am_bd (f_X10_lendsAs N (μ8.1 10 0 49) (2 : Int32) μ8) (fun y11 μ10 => some ((y9 + y11), μ10))))) else (if a1 = (2 : Int32) then (f_X10_keepsAs_51 N g_X10_keepsAs a2 μ) else (if a1 = (3 : Int32) then (f_X10_keepsAs_51 N g_X10_keepsAs a2 μ) else (if a1 = (4 : Int32) then (f_X10_keepsAs_51 N g_X10_keepsAs a2 μ) else (if a1 = (5 : Int32) then (f_X10_keepsAs_51 N g_X10_keepsAs a2 μ) else (am_bd (f_X10_begins N (10 : Int32) μ) (fun _ μ4 => am_bd (f_X10_buysAs N (μ4.1 10 0 49) a2 μ4) (fun y6 μ5 => some ((y6 * (2 : Int32)), μ5))))))))
def f_X10_keepsAs_r (N : Nat) : Nat → Int32 → Int32 → am_M → Option (Int32 × am_M)
  | 0, _, _, _ => none
  | D + 1, a1, a2, μ => f_X10_keepsAs_0 N (f_X10_keepsAs_r N D) a1 a2 μ
def f_X10_keepsAs (N : Nat) (a1 : Int32) (a2 : Int32) (μ : am_M) : Option (Int32 × am_M) := f_X10_keepsAs_r N 100 a1 a2 μ
set_option maxHeartbeats 4000000 in
set_option maxRecDepth 100000 in
theorem p_X10_keepsAs_51 (G : am_G) (l : Launch) (d : Nat) (hd0 : 203 ≤ d) (dd : Nat) (hdd : dd + 1 ≤ d) (N : Nat) (g_X10_keepsAs : Int32 → Int32 → am_M → Option (Int32 × am_M)) (Hg_X10_keepsAs : ∀ (z0 : Int32) (z1 : Int32) (μ : am_M), ct_P G l am_ci dd me_X10_keepsAs [.ref (am_ad G 10 0), .int z0, .int z1] μ (g_X10_keepsAs z0 z1 μ)) (x2 : Int32) (μ : am_M) : sm_P G l am_ci d me_X10_keepsAs 51 [(0, .ref (am_ad G 10 0)), (2, .int x2)] [] μ (f_X10_keepsAs_51 N g_X10_keepsAs x2 μ) := by
  unfold f_X10_keepsAs_51
  refine sm_aload_n (pc := 51) dX10_keepsAs_51 rfl 0 rfl ?_
  refine sm_bipush (pc := 52) dX10_keepsAs_52 (v := 30) (by decide) ?_
  refine sm_callVv (pc := 54) (As := [.int (30 : Int32)]) (rest := []) dX10_keepsAs_54 (c_X10_begins G l N (30 : Int32) μ) (by omega) wl_X10_335 vm_X10_begins rfl rfl (Nat.le_of_ble_eq_true rfl) (fun _ μ1 => ?_)
  refine sm_aload_n (pc := 57) dX10_keepsAs_57 rfl 0 rfl ?_
  refine sm_iconst (pc := 58) dX10_keepsAs_58 (v := 0) (by decide) ?_
  refine sm_iload_n (pc := 59) dX10_keepsAs_59 rfl 1 rfl ?_
  refine sm_callVi (pc := 60) (As := [.int (0 : Int32), .int x2]) (rest := []) dX10_keepsAs_60 (Hg_X10_keepsAs (0 : Int32) x2 μ1) (by omega) wl_X10_344 vm_X10_keepsAs rfl rfl (Nat.le_of_ble_eq_true rfl) (fun y3 μ2 => ?_)
  refine sm_ineg (pc := 63) dX10_keepsAs_63 ?_
  exact sm_iret (pc := 64) dX10_keepsAs_64 rfl
set_option maxHeartbeats 4000000 in
set_option maxRecDepth 100000 in
theorem p_X10_keepsAs_0 (G : am_G) (l : Launch) (d : Nat) (hd0 : 203 ≤ d) (dd : Nat) (hdd : dd + 1 ≤ d) (N : Nat) (g_X10_keepsAs : Int32 → Int32 → am_M → Option (Int32 × am_M)) (Hg_X10_keepsAs : ∀ (z0 : Int32) (z1 : Int32) (μ : am_M), ct_P G l am_ci dd me_X10_keepsAs [.ref (am_ad G 10 0), .int z0, .int z1] μ (g_X10_keepsAs z0 z1 μ)) (a1 : Int32) (a2 : Int32) (μ : am_M) : sm_P G l am_ci d me_X10_keepsAs 0 [(0, .ref (am_ad G 10 0)), (1, .int a1), (2, .int a2)] [] μ (f_X10_keepsAs_0 N g_X10_keepsAs a1 a2 μ) := by
  unfold f_X10_keepsAs_0
  refine sm_iload_n (pc := 0) dX10_keepsAs_0 rfl 1 rfl ?_
  refine sm_bipush (pc := 1) dX10_keepsAs_1 (v := 7) (by decide) ?_
  refine sm_icmp_ne (pc := 3) (tgt := 31) dX10_keepsAs_3 (by decide) ?_ ?_
  · refine sm_iload_n (pc := 31) dX10_keepsAs_31 rfl 1 rfl ?_
    refine sm_iconst (pc := 32) dX10_keepsAs_32 (v := 2) (by decide) ?_
    refine sm_icmp_eq (pc := 33) (tgt := 51) dX10_keepsAs_33 (by decide) ?_ ?_
    · refine sm_sub [0, 2] rfl ?_
      exact p_X10_keepsAs_51 G l d hd0 dd hdd N g_X10_keepsAs Hg_X10_keepsAs a2 μ
    · refine sm_iload_n (pc := 36) dX10_keepsAs_36 rfl 1 rfl ?_
      refine sm_iconst (pc := 37) dX10_keepsAs_37 (v := 3) (by decide) ?_
      refine sm_icmp_eq (pc := 38) (tgt := 51) dX10_keepsAs_38 (by decide) ?_ ?_
      · refine sm_sub [0, 2] rfl ?_
        exact p_X10_keepsAs_51 G l d hd0 dd hdd N g_X10_keepsAs Hg_X10_keepsAs a2 μ
      · refine sm_iload_n (pc := 41) dX10_keepsAs_41 rfl 1 rfl ?_
        refine sm_iconst (pc := 42) dX10_keepsAs_42 (v := 4) (by decide) ?_
        refine sm_icmp_eq (pc := 43) (tgt := 51) dX10_keepsAs_43 (by decide) ?_ ?_
        · refine sm_sub [0, 2] rfl ?_
          exact p_X10_keepsAs_51 G l d hd0 dd hdd N g_X10_keepsAs Hg_X10_keepsAs a2 μ
        · refine sm_iload_n (pc := 46) dX10_keepsAs_46 rfl 1 rfl ?_
          refine sm_iconst (pc := 47) dX10_keepsAs_47 (v := 5) (by decide) ?_
          refine sm_icmp_ne (pc := 48) (tgt := 65) dX10_keepsAs_48 (by decide) ?_ ?_
          · refine sm_aload_n (pc := 65) dX10_keepsAs_65 rfl 0 rfl ?_
            refine sm_bipush (pc := 66) dX10_keepsAs_66 (v := 10) (by decide) ?_
            refine sm_callVv (pc := 68) (As := [.int (10 : Int32)]) (rest := []) dX10_keepsAs_68 (c_X10_begins G l N (10 : Int32) μ) (by omega) wl_X10_335 vm_X10_begins rfl rfl (Nat.le_of_ble_eq_true rfl) (fun _ μ4 => ?_)
            refine sm_aload_n (pc := 71) dX10_keepsAs_71 rfl 0 rfl ?_
            refine sm_aload_n (pc := 72) dX10_keepsAs_72 rfl 0 rfl ?_
            refine sm_geti (pc := 73) dX10_keepsAs_73 fi_X10_347 ?_
            refine sm_iload_n (pc := 76) dX10_keepsAs_76 rfl 2 rfl ?_
            refine sm_callVi (pc := 77) (As := [.int (μ4.1 10 0 49), .int a2]) (rest := []) dX10_keepsAs_77 (c_X10_buysAs G l N (μ4.1 10 0 49) a2 μ4) (by omega) wl_X10_338 vm_X10_buysAs rfl rfl (Nat.le_of_ble_eq_true rfl) (fun y6 μ5 => ?_)
            refine sm_iconst (pc := 80) dX10_keepsAs_80 (v := 2) (by decide) ?_
            refine sm_imul (pc := 81) dX10_keepsAs_81 ?_
            exact sm_iret (pc := 82) dX10_keepsAs_82 rfl
          · refine sm_sub [0, 2] rfl ?_
            exact p_X10_keepsAs_51 G l d hd0 dd hdd N g_X10_keepsAs Hg_X10_keepsAs a2 μ
  · refine sm_aload_n (pc := 6) dX10_keepsAs_6 rfl 0 rfl ?_
    refine sm_bipush (pc := 7) dX10_keepsAs_7 (v := 80) (by decide) ?_
    refine sm_callVv (pc := 9) (As := [.int (80 : Int32)]) (rest := []) dX10_keepsAs_9 (c_X10_begins G l N (80 : Int32) μ) (by omega) wl_X10_335 vm_X10_begins rfl rfl (Nat.le_of_ble_eq_true rfl) (fun _ μ7 => ?_)
    refine sm_aload_n (pc := 12) dX10_keepsAs_12 rfl 0 rfl ?_
    refine sm_iconst (pc := 13) dX10_keepsAs_13 (v := 4) (by decide) ?_
    refine sm_iload_n (pc := 14) dX10_keepsAs_14 rfl 2 rfl ?_
    refine sm_callVi (pc := 15) (As := [.int (4 : Int32), .int a2]) (rest := []) dX10_keepsAs_15 (Hg_X10_keepsAs (4 : Int32) a2 μ7) (by omega) wl_X10_344 vm_X10_keepsAs rfl rfl (Nat.le_of_ble_eq_true rfl) (fun y9 μ8 => ?_)
    refine sm_istore_n (pc := 18) (lv' := [(3, .int y9), (0, .ref (am_ad G 10 0)), (1, .int a1), (2, .int a2)]) dX10_keepsAs_18 rfl (by decide) rfl ?_
    refine sm_iload_n (pc := 19) dX10_keepsAs_19 rfl 0 rfl ?_
    refine sm_aload_n (pc := 20) dX10_keepsAs_20 rfl 1 rfl ?_
    refine sm_aload_n (pc := 21) dX10_keepsAs_21 rfl 1 rfl ?_
    refine sm_geti (pc := 22) dX10_keepsAs_22 fi_X10_347 ?_
    refine sm_iconst (pc := 25) dX10_keepsAs_25 (v := 2) (by decide) ?_
    refine sm_callVi (pc := 26) (As := [.int (μ8.1 10 0 49), .int (2 : Int32)]) (rest := [.int y9]) dX10_keepsAs_26 (c_X10_lendsAs G l N (μ8.1 10 0 49) (2 : Int32) μ8) (by omega) wl_X10_350 vm_X10_lendsAs rfl rfl (Nat.le_of_ble_eq_true rfl) (fun y11 μ10 => ?_)
    refine sm_iadd (pc := 29) dX10_keepsAs_29 ?_
    exact sm_iret (pc := 30) dX10_keepsAs_30 rfl
theorem cr_X10_keepsAs (G : am_G) (l : Launch) (N : Nat) : ∀ (D : Nat) (a1 : Int32) (a2 : Int32) (μ : am_M), ct_P G l am_ci (203 + D) me_X10_keepsAs [.ref (am_ad G 10 0), .int a1, .int a2] μ (f_X10_keepsAs_r N D a1 a2 μ) := by
  intro D
  induction D with
  | zero => intros; exact fun a μ1 ho => by cases ho
  | succ D ih => exact fun a1 a2 μ => ct_of (by decide +kernel) (Nat.le_of_ble_eq_true rfl) rfl (p_X10_keepsAs_0 G l (203 + (D + 1)) (by omega) (203 + D) (by omega) N (f_X10_keepsAs_r N D) ih a1 a2 μ)
theorem c_X10_keepsAs (G : am_G) (l : Launch) (N : Nat) (a1 : Int32) (a2 : Int32) (μ : am_M) : ct_P G l am_ci 303 me_X10_keepsAs [.ref (am_ad G 10 0), .int a1, .int a2] μ (f_X10_keepsAs N a1 a2 μ) := cr_X10_keepsAs G l N 100 a1 a2 μ

def f_X10_tellsAs_0 (N : Nat) (g_X10_tellsAs : Int32 → Int32 → am_M → Option (Int32 × am_M)) (a1 : Int32) (a2 : Int32) (μ : am_M) : Option (Int32 × am_M) :=
if a1 = (5 : Int32) then (am_bd (f_X10_begins N (61 : Int32) μ) (fun _ μ9 => am_bd (g_X10_tellsAs (3 : Int32) a2 μ9) (fun y11 μ10 => some ((y11 ^^^ (5 : Int32)), μ10)))) else (if a1 = (7 : Int32) then (am_bd (f_X10_begins N (81 : Int32) μ) (fun _ μ6 => am_bd (g_X10_tellsAs (4 : Int32) a2 μ6) (fun y8 μ7 => some ((y8 - (1 : Int32)), μ7)))) else (am_bd (f_X10_begins N (2 : Int32) μ) (fun _ μ1 => am_bd (f_X10_keepsAs N (μ1.1 10 0 49) a2 μ1) (fun y3 μ2 => am_bd (f_X10_lendsAs N (μ2.1 10 0 49) (1 : Int32) μ2) (fun y5 μ4 => some ((y3 - y5), μ4))))))
def f_X10_tellsAs_r (N : Nat) : Nat → Int32 → Int32 → am_M → Option (Int32 × am_M)
  | 0, _, _, _ => none
  | D + 1, a1, a2, μ => f_X10_tellsAs_0 N (f_X10_tellsAs_r N D) a1 a2 μ
def f_X10_tellsAs (N : Nat) (a1 : Int32) (a2 : Int32) (μ : am_M) : Option (Int32 × am_M) := f_X10_tellsAs_r N 100 a1 a2 μ
set_option maxHeartbeats 4000000 in
set_option maxRecDepth 100000 in
theorem p_X10_tellsAs_0 (G : am_G) (l : Launch) (d : Nat) (hd0 : 304 ≤ d) (dd : Nat) (hdd : dd + 1 ≤ d) (N : Nat) (g_X10_tellsAs : Int32 → Int32 → am_M → Option (Int32 × am_M)) (Hg_X10_tellsAs : ∀ (z0 : Int32) (z1 : Int32) (μ : am_M), ct_P G l am_ci dd me_X10_tellsAs [.ref (am_ad G 10 0), .int z0, .int z1] μ (g_X10_tellsAs z0 z1 μ)) (a1 : Int32) (a2 : Int32) (μ : am_M) : sm_P G l am_ci d me_X10_tellsAs 0 [(0, .ref (am_ad G 10 0)), (1, .int a1), (2, .int a2)] [] μ (f_X10_tellsAs_0 N g_X10_tellsAs a1 a2 μ) := by
  unfold f_X10_tellsAs_0
  refine sm_iload_n (pc := 0) dX10_tellsAs_0 rfl 1 rfl ?_
  refine sm_iconst (pc := 1) dX10_tellsAs_1 (v := 5) (by decide) ?_
  refine sm_icmp_ne (pc := 2) (tgt := 20) dX10_tellsAs_2 (by decide) ?_ ?_
  · refine sm_iload_n (pc := 20) dX10_tellsAs_20 rfl 1 rfl ?_
    refine sm_bipush (pc := 21) dX10_tellsAs_21 (v := 7) (by decide) ?_
    refine sm_icmp_ne (pc := 23) (tgt := 41) dX10_tellsAs_23 (by decide) ?_ ?_
    · refine sm_aload_n (pc := 41) dX10_tellsAs_41 rfl 0 rfl ?_
      refine sm_iconst (pc := 42) dX10_tellsAs_42 (v := 2) (by decide) ?_
      refine sm_callVv (pc := 43) (As := [.int (2 : Int32)]) (rest := []) dX10_tellsAs_43 (c_X10_begins G l N (2 : Int32) μ) (by omega) wl_X10_335 vm_X10_begins rfl rfl (Nat.le_of_ble_eq_true rfl) (fun _ μ1 => ?_)
      refine sm_aload_n (pc := 46) dX10_tellsAs_46 rfl 0 rfl ?_
      refine sm_aload_n (pc := 47) dX10_tellsAs_47 rfl 0 rfl ?_
      refine sm_geti (pc := 48) dX10_tellsAs_48 fi_X10_347 ?_
      refine sm_iload_n (pc := 51) dX10_tellsAs_51 rfl 2 rfl ?_
      refine sm_callVi (pc := 52) (As := [.int (μ1.1 10 0 49), .int a2]) (rest := []) dX10_tellsAs_52 (c_X10_keepsAs G l N (μ1.1 10 0 49) a2 μ1) (by omega) wl_X10_344 vm_X10_keepsAs rfl rfl (Nat.le_of_ble_eq_true rfl) (fun y3 μ2 => ?_)
      refine sm_istore_n (pc := 55) (lv' := [(3, .int y3), (0, .ref (am_ad G 10 0)), (1, .int a1), (2, .int a2)]) dX10_tellsAs_55 rfl (by decide) rfl ?_
      refine sm_iload_n (pc := 56) dX10_tellsAs_56 rfl 0 rfl ?_
      refine sm_aload_n (pc := 57) dX10_tellsAs_57 rfl 1 rfl ?_
      refine sm_aload_n (pc := 58) dX10_tellsAs_58 rfl 1 rfl ?_
      refine sm_geti (pc := 59) dX10_tellsAs_59 fi_X10_347 ?_
      refine sm_iconst (pc := 62) dX10_tellsAs_62 (v := 1) (by decide) ?_
      refine sm_callVi (pc := 63) (As := [.int (μ2.1 10 0 49), .int (1 : Int32)]) (rest := [.int y3]) dX10_tellsAs_63 (c_X10_lendsAs G l N (μ2.1 10 0 49) (1 : Int32) μ2) (by omega) wl_X10_350 vm_X10_lendsAs rfl rfl (Nat.le_of_ble_eq_true rfl) (fun y5 μ4 => ?_)
      refine sm_isub (pc := 66) dX10_tellsAs_66 ?_
      exact sm_iret (pc := 67) dX10_tellsAs_67 rfl
    · refine sm_aload_n (pc := 26) dX10_tellsAs_26 rfl 0 rfl ?_
      refine sm_bipush (pc := 27) dX10_tellsAs_27 (v := 81) (by decide) ?_
      refine sm_callVv (pc := 29) (As := [.int (81 : Int32)]) (rest := []) dX10_tellsAs_29 (c_X10_begins G l N (81 : Int32) μ) (by omega) wl_X10_335 vm_X10_begins rfl rfl (Nat.le_of_ble_eq_true rfl) (fun _ μ6 => ?_)
      refine sm_aload_n (pc := 32) dX10_tellsAs_32 rfl 0 rfl ?_
      refine sm_iconst (pc := 33) dX10_tellsAs_33 (v := 4) (by decide) ?_
      refine sm_iload_n (pc := 34) dX10_tellsAs_34 rfl 2 rfl ?_
      refine sm_callVi (pc := 35) (As := [.int (4 : Int32), .int a2]) (rest := []) dX10_tellsAs_35 (Hg_X10_tellsAs (4 : Int32) a2 μ6) (by omega) wl_X10_353 vm_X10_tellsAs rfl rfl (Nat.le_of_ble_eq_true rfl) (fun y8 μ7 => ?_)
      refine sm_iconst (pc := 38) dX10_tellsAs_38 (v := 1) (by decide) ?_
      refine sm_isub (pc := 39) dX10_tellsAs_39 ?_
      exact sm_iret (pc := 40) dX10_tellsAs_40 rfl
  · refine sm_aload_n (pc := 5) dX10_tellsAs_5 rfl 0 rfl ?_
    refine sm_bipush (pc := 6) dX10_tellsAs_6 (v := 61) (by decide) ?_
    refine sm_callVv (pc := 8) (As := [.int (61 : Int32)]) (rest := []) dX10_tellsAs_8 (c_X10_begins G l N (61 : Int32) μ) (by omega) wl_X10_335 vm_X10_begins rfl rfl (Nat.le_of_ble_eq_true rfl) (fun _ μ9 => ?_)
    refine sm_aload_n (pc := 11) dX10_tellsAs_11 rfl 0 rfl ?_
    refine sm_iconst (pc := 12) dX10_tellsAs_12 (v := 3) (by decide) ?_
    refine sm_iload_n (pc := 13) dX10_tellsAs_13 rfl 2 rfl ?_
    refine sm_callVi (pc := 14) (As := [.int (3 : Int32), .int a2]) (rest := []) dX10_tellsAs_14 (Hg_X10_tellsAs (3 : Int32) a2 μ9) (by omega) wl_X10_353 vm_X10_tellsAs rfl rfl (Nat.le_of_ble_eq_true rfl) (fun y11 μ10 => ?_)
    refine sm_iconst (pc := 17) dX10_tellsAs_17 (v := 5) (by decide) ?_
    refine sm_ixor (pc := 18) dX10_tellsAs_18 ?_
    exact sm_iret (pc := 19) dX10_tellsAs_19 rfl
theorem cr_X10_tellsAs (G : am_G) (l : Launch) (N : Nat) : ∀ (D : Nat) (a1 : Int32) (a2 : Int32) (μ : am_M), ct_P G l am_ci (304 + D) me_X10_tellsAs [.ref (am_ad G 10 0), .int a1, .int a2] μ (f_X10_tellsAs_r N D a1 a2 μ) := by
  intro D
  induction D with
  | zero => intros; exact fun a μ1 ho => by cases ho
  | succ D ih => exact fun a1 a2 μ => ct_of (by decide +kernel) (Nat.le_of_ble_eq_true rfl) rfl (p_X10_tellsAs_0 G l (304 + (D + 1)) (by omega) (304 + D) (by omega) N (f_X10_tellsAs_r N D) ih a1 a2 μ)
theorem c_X10_tellsAs (G : am_G) (l : Launch) (N : Nat) (a1 : Int32) (a2 : Int32) (μ : am_M) : ct_P G l am_ci 404 me_X10_tellsAs [.ref (am_ad G 10 0), .int a1, .int a2] μ (f_X10_tellsAs N a1 a2 μ) := cr_X10_tellsAs G l N 100 a1 a2 μ

def f_X10_act_0 (N : Nat) (a1 : Int32) (a2 : Int32) (a3 : Int32) (μ : am_M) : Option (Int32 × am_M) :=
am_nm (am_ui μ 10 0 48 (0 : Int32)) (fun μ1 => am_bd (f_X10_isBody N a1 μ1) (fun y3 μ2 => if y3 = 0 then (some ((0 : Int32), μ2)) else (am_gd a1 50 (fun j4 => am_nm (am_ui μ2 10 0 49 (μ2.1 206 0 j4)) (fun μ5 => am_nm (am_ui μ5 10 0 50 a1) (fun μ6 => if a2 = (0 : Int32) then (am_bd (f_X10_buysAs N (μ6.1 10 0 49) a3 μ6) (fun y9 μ8 => some (y9, μ8))) else (if a2 = (1 : Int32) then (am_bd (f_X10_keepsAs N (μ6.1 10 0 49) a3 μ6) (fun y12 μ11 => some (y12, μ11))) else (if a2 = (2 : Int32) then (am_bd (f_X10_lendsAs N (μ6.1 10 0 49) a3 μ6) (fun y15 μ14 => some (y15, μ14))) else (if a2 = (3 : Int32) then (am_bd (f_X10_tellsAs N (μ6.1 10 0 49) a3 μ6) (fun y18 μ17 => some (y18, μ17))) else (some ((0 : Int32), μ6)))))))))))
def f_X10_act (N : Nat) (a1 : Int32) (a2 : Int32) (a3 : Int32) (μ : am_M) : Option (Int32 × am_M) := f_X10_act_0 N a1 a2 a3 μ
set_option maxHeartbeats 4000000 in
set_option maxRecDepth 100000 in
theorem p_X10_act_0 (G : am_G) (l : Launch) (d : Nat) (hd0 : 405 ≤ d) (N : Nat) (a1 : Int32) (a2 : Int32) (a3 : Int32) (μ : am_M) : sm_P G l am_ci d me_X10_act 0 [(0, .ref (am_ad G 10 0)), (1, .int a1), (2, .int a2), (3, .int a3)] [] μ (f_X10_act_0 N a1 a2 a3 μ) := by
  unfold f_X10_act_0
  refine sm_aload_n (pc := 0) dX10_act_0 rfl 0 rfl ?_
  refine sm_iconst (pc := 1) dX10_act_1 (v := 0) (by decide) ?_
  refine sm_puti (pc := 2) dX10_act_2 fi_X10_332 ?_
  refine sm_nmM (fun μ1 => ?_)
  refine sm_aload_n (pc := 5) dX10_act_5 rfl 0 rfl ?_
  refine sm_iload_n (pc := 6) dX10_act_6 rfl 1 rfl ?_
  refine sm_callVi (pc := 7) (As := [.int a1]) (rest := []) dX10_act_7 (c_X10_isBody G l N a1 μ1) (by omega) wl_X10_356 vm_X10_isBody rfl rfl (Nat.le_of_ble_eq_true rfl) (fun y3 μ2 => ?_)
  refine sm_if_ne (pc := 10) (tgt := 15) dX10_act_10 (by decide) ?_ ?_
  · refine sm_aload_n (pc := 15) dX10_act_15 rfl 0 rfl ?_
    refine sm_aload_n (pc := 16) dX10_act_16 rfl 0 rfl ?_
    refine sm_getr (pc := 17) dX10_act_17 fi_X10_77 ?_
    refine sm_iload_n (pc := 20) dX10_act_20 rfl 1 rfl ?_
    refine sm_iald (pc := 21) dX10_act_21 ly_206 (by decide) (fun j4 hj4 => ?_)
    refine sm_puti (pc := 22) dX10_act_22 fi_X10_347 ?_
    refine sm_nmM (fun μ5 => ?_)
    refine sm_aload_n (pc := 25) dX10_act_25 rfl 0 rfl ?_
    refine sm_iload_n (pc := 26) dX10_act_26 rfl 1 rfl ?_
    refine sm_puti (pc := 27) dX10_act_27 fi_X10_341 ?_
    refine sm_nmM (fun μ6 => ?_)
    refine sm_iload_n (pc := 30) dX10_act_30 rfl 2 rfl ?_
    refine sm_ite (fun e7 => ?_) (fun e7 => ?_)
    · refine sm_tsi (pc := 31) (c1 := 0) (off := 29) (tgt := 60) e7 dX10_act_31 (by decide) (by decide) (by decide) (by decide) ?_
      refine sm_aload_n (pc := 60) dX10_act_60 rfl 0 rfl ?_
      refine sm_aload_n (pc := 61) dX10_act_61 rfl 0 rfl ?_
      refine sm_geti (pc := 62) dX10_act_62 fi_X10_347 ?_
      refine sm_iload_n (pc := 65) dX10_act_65 rfl 3 rfl ?_
      refine sm_callVi (pc := 66) (As := [.int (μ6.1 10 0 49), .int a3]) (rest := []) dX10_act_66 (c_X10_buysAs G l N (μ6.1 10 0 49) a3 μ6) (by omega) wl_X10_338 vm_X10_buysAs rfl rfl (Nat.le_of_ble_eq_true rfl) (fun y9 μ8 => ?_)
      exact sm_iret (pc := 69) dX10_act_69 rfl
    refine sm_ite (fun e10 => ?_) (fun e10 => ?_)
    · refine sm_tsi (pc := 31) (c1 := 1) (off := 39) (tgt := 70) e10 dX10_act_31 (by decide) (by decide) (by decide) (by decide) ?_
      refine sm_aload_n (pc := 70) dX10_act_70 rfl 0 rfl ?_
      refine sm_aload_n (pc := 71) dX10_act_71 rfl 0 rfl ?_
      refine sm_geti (pc := 72) dX10_act_72 fi_X10_347 ?_
      refine sm_iload_n (pc := 75) dX10_act_75 rfl 3 rfl ?_
      refine sm_callVi (pc := 76) (As := [.int (μ6.1 10 0 49), .int a3]) (rest := []) dX10_act_76 (c_X10_keepsAs G l N (μ6.1 10 0 49) a3 μ6) (by omega) wl_X10_344 vm_X10_keepsAs rfl rfl (Nat.le_of_ble_eq_true rfl) (fun y12 μ11 => ?_)
      exact sm_iret (pc := 79) dX10_act_79 rfl
    refine sm_ite (fun e13 => ?_) (fun e13 => ?_)
    · refine sm_tsi (pc := 31) (c1 := 2) (off := 49) (tgt := 80) e13 dX10_act_31 (by decide) (by decide) (by decide) (by decide) ?_
      refine sm_aload_n (pc := 80) dX10_act_80 rfl 0 rfl ?_
      refine sm_aload_n (pc := 81) dX10_act_81 rfl 0 rfl ?_
      refine sm_geti (pc := 82) dX10_act_82 fi_X10_347 ?_
      refine sm_iload_n (pc := 85) dX10_act_85 rfl 3 rfl ?_
      refine sm_callVi (pc := 86) (As := [.int (μ6.1 10 0 49), .int a3]) (rest := []) dX10_act_86 (c_X10_lendsAs G l N (μ6.1 10 0 49) a3 μ6) (by omega) wl_X10_350 vm_X10_lendsAs rfl rfl (Nat.le_of_ble_eq_true rfl) (fun y15 μ14 => ?_)
      exact sm_iret (pc := 89) dX10_act_89 rfl
    refine sm_ite (fun e16 => ?_) (fun e16 => ?_)
    · refine sm_tsi (pc := 31) (c1 := 3) (off := 59) (tgt := 90) e16 dX10_act_31 (by decide) (by decide) (by decide) (by decide) ?_
      refine sm_aload_n (pc := 90) dX10_act_90 rfl 0 rfl ?_
      refine sm_aload_n (pc := 91) dX10_act_91 rfl 0 rfl ?_
      refine sm_geti (pc := 92) dX10_act_92 fi_X10_347 ?_
      refine sm_iload_n (pc := 95) dX10_act_95 rfl 3 rfl ?_
      refine sm_callVi (pc := 96) (As := [.int (μ6.1 10 0 49), .int a3]) (rest := []) dX10_act_96 (c_X10_tellsAs G l N (μ6.1 10 0 49) a3 μ6) (by omega) wl_X10_353 vm_X10_tellsAs rfl rfl (Nat.le_of_ble_eq_true rfl) (fun y18 μ17 => ?_)
      exact sm_iret (pc := 99) dX10_act_99 rfl
    replace e7 := am_ne (n := 0) (by decide) e7
    replace e10 := am_ne (n := 1) (by decide) e10
    replace e13 := am_ne (n := 2) (by decide) e13
    replace e16 := am_ne (n := 3) (by decide) e16
    refine sm_tso (pc := 31) (tgt := 100) dX10_act_31 (by omega) (by decide) ?_
    refine sm_iconst (pc := 100) dX10_act_100 (v := 0) (by decide) ?_
    exact sm_iret (pc := 101) dX10_act_101 rfl
  · refine sm_iconst (pc := 13) dX10_act_13 (v := 0) (by decide) ?_
    exact sm_iret (pc := 14) dX10_act_14 rfl
theorem c_X10_act (G : am_G) (l : Launch) (N : Nat) (a1 : Int32) (a2 : Int32) (a3 : Int32) (μ : am_M) : ct_P G l am_ci 405 me_X10_act [.ref (am_ad G 10 0), .int a1, .int a2, .int a3] μ (f_X10_act N a1 a2 a3 μ) := ct_of (by decide +kernel) (Nat.le_of_ble_eq_true rfl) rfl (p_X10_act_0 G l 405 (Nat.le_refl _) N a1 a2 a3 μ)

def f_X10_trace_0 (N : Nat) (a1 : Int32) (μ : am_M) : Option (Int32 × am_M) :=
if a1 < 0 then (some ((-1 : Int32), μ)) else (if (μ.1 10 0 48) ≤ a1 then (some ((-1 : Int32), μ)) else (if (24 : Int32) ≤ a1 then (some ((-1 : Int32), μ)) else (am_gd a1 24 (fun j1 => some ((μ.1 207 0 j1), μ)))))
def f_X10_trace (N : Nat) (a1 : Int32) (μ : am_M) : Option (Int32 × am_M) := f_X10_trace_0 N a1 μ
set_option maxHeartbeats 4000000 in
set_option maxRecDepth 100000 in
theorem p_X10_trace_0 (G : am_G) (l : Launch) (d : Nat) (hd0 : 0 ≤ d) (N : Nat) (a1 : Int32) (μ : am_M) : sm_P G l am_ci d me_X10_trace 0 [(0, .ref (am_ad G 10 0)), (1, .int a1)] [] μ (f_X10_trace_0 N a1 μ) := by
  unfold f_X10_trace_0
  refine sm_iload_n (pc := 0) dX10_trace_0 rfl 1 rfl ?_
  refine sm_if_lt (pc := 1) (tgt := 27) dX10_trace_1 (by decide) ?_ ?_
  · refine sm_iconst (pc := 27) dX10_trace_27 (v := -1) (by decide) ?_
    exact sm_iret (pc := 28) dX10_trace_28 rfl
  · refine sm_iload_n (pc := 4) dX10_trace_4 rfl 1 rfl ?_
    refine sm_aload_n (pc := 5) dX10_trace_5 rfl 0 rfl ?_
    refine sm_geti (pc := 6) dX10_trace_6 fi_X10_332 ?_
    refine sm_icmp_ge (pc := 9) (tgt := 27) dX10_trace_9 (by decide) ?_ ?_
    · refine sm_iconst (pc := 27) dX10_trace_27 (v := -1) (by decide) ?_
      exact sm_iret (pc := 28) dX10_trace_28 rfl
    · refine sm_iload_n (pc := 12) dX10_trace_12 rfl 1 rfl ?_
      refine sm_bipush (pc := 13) dX10_trace_13 (v := 24) (by decide) ?_
      refine sm_icmp_ge (pc := 15) (tgt := 27) dX10_trace_15 (by decide) ?_ ?_
      · refine sm_iconst (pc := 27) dX10_trace_27 (v := -1) (by decide) ?_
        exact sm_iret (pc := 28) dX10_trace_28 rfl
      · refine sm_aload_n (pc := 18) dX10_trace_18 rfl 0 rfl ?_
        refine sm_getr (pc := 19) dX10_trace_19 fi_X10_80 ?_
        refine sm_iload_n (pc := 22) dX10_trace_22 rfl 1 rfl ?_
        refine sm_iald (pc := 23) dX10_trace_23 ly_207 (by decide) (fun j1 hj1 => ?_)
        refine sm_goto (pc := 24) (tgt := 28) dX10_trace_24 (by decide) ?_
        exact sm_iret (pc := 28) dX10_trace_28 rfl
theorem c_X10_trace (G : am_G) (l : Launch) (N : Nat) (a1 : Int32) (μ : am_M) : ct_P G l am_ci 0 me_X10_trace [.ref (am_ad G 10 0), .int a1] μ (f_X10_trace N a1 μ) := ct_of (by decide +kernel) (Nat.le_of_ble_eq_true rfl) rfl (p_X10_trace_0 G l 0 (Nat.le_refl _) N a1 μ)

def f_X10_keep_22 (N : Nat) (x1 : Int32) (x2 : Int32) (μ : am_M) : Option (Int32 × am_M) :=
am_gd x1 6 (fun j3 => am_nm (am_ui μ 211 0 j3 x2) (fun μ4 => am_gd x1 6 (fun j5 => am_nm (am_ui μ4 212 0 j5 (0 : Int32)) (fun μ6 => some ((1 : Int32), μ6)))))
def f_X10_keep_0 (N : Nat) (a1 : Int32) (a2 : Int32) (μ : am_M) : Option (Int32 × am_M) :=
am_bd (f_X10_isShelf N a1 μ) (fun y2 μ1 => if y2 = 0 then (some ((-1 : Int32), μ1)) else (if a2 = (-1 : Int32) then (f_X10_keep_22 N a1 a2 μ1) else (am_bd (f_X10_isBody N a2 μ1) (fun y8 μ7 => if y8 = 0 then (some ((-1 : Int32), μ7)) else (f_X10_keep_22 N a1 a2 μ7)))))
def f_X10_keep (N : Nat) (a1 : Int32) (a2 : Int32) (μ : am_M) : Option (Int32 × am_M) := f_X10_keep_0 N a1 a2 μ
set_option maxHeartbeats 4000000 in
set_option maxRecDepth 100000 in
theorem p_X10_keep_22 (G : am_G) (l : Launch) (d : Nat) (hd0 : 2 ≤ d) (N : Nat) (x1 : Int32) (x2 : Int32) (μ : am_M) : sm_P G l am_ci d me_X10_keep 22 [(0, .ref (am_ad G 10 0)), (1, .int x1), (2, .int x2)] [] μ (f_X10_keep_22 N x1 x2 μ) := by
  unfold f_X10_keep_22
  refine sm_aload_n (pc := 22) dX10_keep_22 rfl 0 rfl ?_
  refine sm_getr (pc := 23) dX10_keep_23 fi_X10_83 ?_
  refine sm_iload_n (pc := 26) dX10_keep_26 rfl 1 rfl ?_
  refine sm_iload_n (pc := 27) dX10_keep_27 rfl 2 rfl ?_
  refine sm_iast (pc := 28) dX10_keep_28 ly_211 (by decide) (fun j3 hj3 => ?_)
  refine sm_nmM (fun μ4 => ?_)
  refine sm_aload_n (pc := 29) dX10_keep_29 rfl 0 rfl ?_
  refine sm_getr (pc := 30) dX10_keep_30 fi_X10_86 ?_
  refine sm_iload_n (pc := 33) dX10_keep_33 rfl 1 rfl ?_
  refine sm_iconst (pc := 34) dX10_keep_34 (v := 0) (by decide) ?_
  refine sm_iast (pc := 35) dX10_keep_35 ly_212 (by decide) (fun j5 hj5 => ?_)
  refine sm_nmM (fun μ6 => ?_)
  refine sm_iconst (pc := 36) dX10_keep_36 (v := 1) (by decide) ?_
  exact sm_iret (pc := 37) dX10_keep_37 rfl
set_option maxHeartbeats 4000000 in
set_option maxRecDepth 100000 in
theorem p_X10_keep_0 (G : am_G) (l : Launch) (d : Nat) (hd0 : 2 ≤ d) (N : Nat) (a1 : Int32) (a2 : Int32) (μ : am_M) : sm_P G l am_ci d me_X10_keep 0 [(0, .ref (am_ad G 10 0)), (1, .int a1), (2, .int a2)] [] μ (f_X10_keep_0 N a1 a2 μ) := by
  unfold f_X10_keep_0
  refine sm_iload_n (pc := 0) dX10_keep_0 rfl 1 rfl ?_
  refine sm_callSi (pc := 1) (As := [.int a1]) (rest := []) dX10_keep_1 (c_X10_isShelf G l N a1 μ) (by omega) wl_X10_126 st_X10_isShelf rfl rfl (Nat.le_of_ble_eq_true rfl) (fun y2 μ1 => ?_)
  refine sm_if_eq (pc := 4) (tgt := 20) dX10_keep_4 (by decide) ?_ ?_
  · refine sm_iconst (pc := 20) dX10_keep_20 (v := -1) (by decide) ?_
    exact sm_iret (pc := 21) dX10_keep_21 rfl
  · refine sm_iload_n (pc := 7) dX10_keep_7 rfl 2 rfl ?_
    refine sm_iconst (pc := 8) dX10_keep_8 (v := -1) (by decide) ?_
    refine sm_icmp_eq (pc := 9) (tgt := 22) dX10_keep_9 (by decide) ?_ ?_
    · exact p_X10_keep_22 G l d hd0 N a1 a2 μ1
    · refine sm_aload_n (pc := 12) dX10_keep_12 rfl 0 rfl ?_
      refine sm_iload_n (pc := 13) dX10_keep_13 rfl 2 rfl ?_
      refine sm_callVi (pc := 14) (As := [.int a2]) (rest := []) dX10_keep_14 (c_X10_isBody G l N a2 μ1) (by omega) wl_X10_356 vm_X10_isBody rfl rfl (Nat.le_of_ble_eq_true rfl) (fun y8 μ7 => ?_)
      refine sm_if_ne (pc := 17) (tgt := 22) dX10_keep_17 (by decide) ?_ ?_
      · exact p_X10_keep_22 G l d hd0 N a1 a2 μ7
      · refine sm_iconst (pc := 20) dX10_keep_20 (v := -1) (by decide) ?_
        exact sm_iret (pc := 21) dX10_keep_21 rfl
theorem c_X10_keep (G : am_G) (l : Launch) (N : Nat) (a1 : Int32) (a2 : Int32) (μ : am_M) : ct_P G l am_ci 2 me_X10_keep [.ref (am_ad G 10 0), .int a1, .int a2] μ (f_X10_keep N a1 a2 μ) := ct_of (by decide +kernel) (Nat.le_of_ble_eq_true rfl) rfl (p_X10_keep_0 G l 2 (Nat.le_refl _) N a1 a2 μ)

def f_X10_row_57 (N : Nat) (r_57 : Int32 → Int32 → am_M → Option (Int32 × am_M)) (x1 : Int32) (x4 : Int32) (μ : am_M) : Option (Int32 × am_M) :=
if (((60 : Int32) * x1) + (60 : Int32)) ≤ x4 then (some ((1 : Int32), μ)) else (am_gd x4 360 (fun j10 => am_nm (am_ul μ 213 0 j10 (0 : Int64)) (fun μ11 => r_57 x1 (x4 + (1 : Int32)) μ11)))
def f_X10_row_57_lp (N : Nat) : Nat → Int32 → Int32 → am_M → Option (Int32 × am_M)
  | 0, _, _, _ => none
  | n + 1, x1, x4, μ => f_X10_row_57 N (f_X10_row_57_lp N n) x1 x4 μ
def f_X10_row_0 (N : Nat) (a1 : Int32) (a2 : Int32) (a3 : Int32) (μ : am_M) : Option (Int32 × am_M) :=
am_bd (f_X10_isShelf N a1 μ) (fun y2 μ1 => if y2 = 0 then (some ((-1 : Int32), μ1)) else (am_bd (f_X10_within N a2.toInt64 (0 : Int64) (4 : Int64) μ1) (fun y4 μ3 => if y4 = 0 then (some ((-1 : Int32), μ3)) else (if a3 ≤ (60 : Int32) then (if 0 ≤ a3 then (am_gd a1 6 (fun j5 => am_nm (am_ui μ3 211 0 j5 ((50 : Int32) + a2)) (fun μ6 => am_gd a1 6 (fun j7 => am_nm (am_ui μ6 212 0 j7 a3) (fun μ8 => am_nm ((60 : Int32) * a1) (fun y9 => f_X10_row_57_lp N N a1 y9 μ8)))))) else (some ((-14 : Int32), μ3))) else (some ((-1 : Int32), μ3))))))
def f_X10_row (N : Nat) (a1 : Int32) (a2 : Int32) (a3 : Int32) (μ : am_M) : Option (Int32 × am_M) := f_X10_row_0 N a1 a2 a3 μ
set_option maxHeartbeats 4000000 in
set_option maxRecDepth 100000 in
theorem p_X10_row_57 (G : am_G) (l : Launch) (d : Nat) (hd0 : 2 ≤ d) (N : Nat) (r_57 : Int32 → Int32 → am_M → Option (Int32 × am_M)) (H_57 : ∀ (x1 : Int32) (x4 : Int32) (μ : am_M), sm_P G l am_ci d me_X10_row 57 [(0, .ref (am_ad G 10 0)), (1, .int x1), (4, .int x4)] [] μ (r_57 x1 x4 μ)) (x1 : Int32) (x4 : Int32) (μ : am_M) : sm_P G l am_ci d me_X10_row 57 [(0, .ref (am_ad G 10 0)), (1, .int x1), (4, .int x4)] [] μ (f_X10_row_57 N r_57 x1 x4 μ) := by
  unfold f_X10_row_57
  refine sm_iload (pc := 57) dX10_row_57 2 rfl ?_
  refine sm_bipush (pc := 59) dX10_row_59 (v := 60) (by decide) ?_
  refine sm_iload_n (pc := 61) dX10_row_61 rfl 1 rfl ?_
  refine sm_imul (pc := 62) dX10_row_62 ?_
  refine sm_bipush (pc := 63) dX10_row_63 (v := 60) (by decide) ?_
  refine sm_iadd (pc := 65) dX10_row_65 ?_
  refine sm_icmp_ge (pc := 66) (tgt := 83) dX10_row_66 (by decide) ?_ ?_
  · refine sm_iconst (pc := 83) dX10_row_83 (v := 1) (by decide) ?_
    exact sm_iret (pc := 84) dX10_row_84 rfl
  · refine sm_aload_n (pc := 69) dX10_row_69 rfl 0 rfl ?_
    refine sm_getr (pc := 70) dX10_row_70 fi_X10_89 ?_
    refine sm_iload (pc := 73) dX10_row_73 2 rfl ?_
    refine sm_lconst (pc := 75) dX10_row_75 (v := 0) (by decide) ?_
    refine sm_last (pc := 76) dX10_row_76 ly_213 (by decide) (fun j10 hj10 => ?_)
    refine sm_nmM (fun μ11 => ?_)
    refine sm_iinc (pc := 77) (v := (x4 + (1 : Int32))) (lv' := [(4, .int (x4 + (1 : Int32))), (0, .ref (am_ad G 10 0)), (1, .int x1)]) dX10_row_77 2 rfl rfl (by decide) rfl ?_
    refine sm_goto (pc := 80) (tgt := 57) dX10_row_80 (by decide) ?_
    refine sm_sub [1, 2, 0] rfl ?_
    exact H_57 x1 (x4 + (1 : Int32)) μ11
theorem p_X10_row_57_lp (G : am_G) (l : Launch) (d : Nat) (hd0 : 2 ≤ d) (N : Nat) : ∀ (n : Nat) (x1 : Int32) (x4 : Int32) (μ : am_M), sm_P G l am_ci d me_X10_row 57 [(0, .ref (am_ad G 10 0)), (1, .int x1), (4, .int x4)] [] μ (f_X10_row_57_lp N n x1 x4 μ) := by
  intro n
  induction n with
  | zero => intros; exact sm_none
  | succ n ih => exact fun x1 x4 μ => p_X10_row_57 G l d hd0 N (f_X10_row_57_lp N n) ih x1 x4 μ
set_option maxHeartbeats 4000000 in
set_option maxRecDepth 100000 in
theorem p_X10_row_0 (G : am_G) (l : Launch) (d : Nat) (hd0 : 2 ≤ d) (N : Nat) (a1 : Int32) (a2 : Int32) (a3 : Int32) (μ : am_M) : sm_P G l am_ci d me_X10_row 0 [(0, .ref (am_ad G 10 0)), (1, .int a1), (2, .int a2), (3, .int a3)] [] μ (f_X10_row_0 N a1 a2 a3 μ) := by
  unfold f_X10_row_0
  refine sm_iload_n (pc := 0) dX10_row_0 rfl 1 rfl ?_
  refine sm_callSi (pc := 1) (As := [.int a1]) (rest := []) dX10_row_1 (c_X10_isShelf G l N a1 μ) (by omega) wl_X10_126 st_X10_isShelf rfl rfl (Nat.le_of_ble_eq_true rfl) (fun y2 μ1 => ?_)
  refine sm_if_eq (pc := 4) (tgt := 25) dX10_row_4 (by decide) ?_ ?_
  · refine sm_iconst (pc := 25) dX10_row_25 (v := -1) (by decide) ?_
    exact sm_iret (pc := 26) dX10_row_26 rfl
  · refine sm_iload_n (pc := 7) dX10_row_7 rfl 2 rfl ?_
    refine sm_i2l (pc := 8) dX10_row_8 ?_
    refine sm_lconst (pc := 9) dX10_row_9 (v := 0) (by decide) ?_
    refine sm_ldc2 (pc := 10) dX10_row_10 (v := 4) wk_X10_156 ?_
    refine sm_callSi (pc := 13) (As := [.long a2.toInt64, .long (0 : Int64), .long (4 : Int64)]) (rest := []) dX10_row_13 (c_X10_within G l N a2.toInt64 (0 : Int64) (4 : Int64) μ1) (by omega) wl_X10_105 st_X10_within rfl rfl (Nat.le_of_ble_eq_true rfl) (fun y4 μ3 => ?_)
    refine sm_if_eq (pc := 16) (tgt := 25) dX10_row_16 (by decide) ?_ ?_
    · refine sm_iconst (pc := 25) dX10_row_25 (v := -1) (by decide) ?_
      exact sm_iret (pc := 26) dX10_row_26 rfl
    · refine sm_iload_n (pc := 19) dX10_row_19 rfl 3 rfl ?_
      refine sm_bipush (pc := 20) dX10_row_20 (v := 60) (by decide) ?_
      refine sm_icmp_le (pc := 22) (tgt := 27) dX10_row_22 (by decide) ?_ ?_
      · refine sm_iload_n (pc := 27) dX10_row_27 rfl 3 rfl ?_
        refine sm_if_ge (pc := 28) (tgt := 34) dX10_row_28 (by decide) ?_ ?_
        · refine sm_aload_n (pc := 34) dX10_row_34 rfl 0 rfl ?_
          refine sm_getr (pc := 35) dX10_row_35 fi_X10_83 ?_
          refine sm_iload_n (pc := 38) dX10_row_38 rfl 1 rfl ?_
          refine sm_bipush (pc := 39) dX10_row_39 (v := 50) (by decide) ?_
          refine sm_iload_n (pc := 41) dX10_row_41 rfl 2 rfl ?_
          refine sm_iadd (pc := 42) dX10_row_42 ?_
          refine sm_iast (pc := 43) dX10_row_43 ly_211 (by decide) (fun j5 hj5 => ?_)
          refine sm_nmM (fun μ6 => ?_)
          refine sm_aload_n (pc := 44) dX10_row_44 rfl 0 rfl ?_
          refine sm_getr (pc := 45) dX10_row_45 fi_X10_86 ?_
          refine sm_iload_n (pc := 48) dX10_row_48 rfl 1 rfl ?_
          refine sm_iload_n (pc := 49) dX10_row_49 rfl 3 rfl ?_
          refine sm_iast (pc := 50) dX10_row_50 ly_212 (by decide) (fun j7 hj7 => ?_)
          refine sm_nmM (fun μ8 => ?_)
          refine sm_bipush (pc := 51) dX10_row_51 (v := 60) (by decide) ?_
          refine sm_iload_n (pc := 53) dX10_row_53 rfl 1 rfl ?_
          refine sm_imul (pc := 54) dX10_row_54 ?_
          refine sm_nmI (fun y9 => ?_)
          refine sm_istore (pc := 55) (lv' := [(4, .int y9), (0, .ref (am_ad G 10 0)), (1, .int a1), (2, .int a2), (3, .int a3)]) dX10_row_55 (by decide) rfl ?_
          refine sm_sub [1, 2, 0] rfl ?_
          exact p_X10_row_57_lp G l d hd0 N N a1 y9 μ8
        · refine sm_bipush (pc := 31) dX10_row_31 (v := -14) (by decide) ?_
          exact sm_iret (pc := 33) dX10_row_33 rfl
      · refine sm_iconst (pc := 25) dX10_row_25 (v := -1) (by decide) ?_
        exact sm_iret (pc := 26) dX10_row_26 rfl
theorem c_X10_row (G : am_G) (l : Launch) (N : Nat) (a1 : Int32) (a2 : Int32) (a3 : Int32) (μ : am_M) : ct_P G l am_ci 2 me_X10_row [.ref (am_ad G 10 0), .int a1, .int a2, .int a3] μ (f_X10_row N a1 a2 a3 μ) := ct_of (by decide +kernel) (Nat.le_of_ble_eq_true rfl) rfl (p_X10_row_0 G l 2 (Nat.le_refl _) N a1 a2 a3 μ)

def f_X10_refusal_0 (N : Nat) (a1 : Int32) (a2 : Int32) (μ : am_M) : Option (Int32 × am_M) :=
am_bd (f_X10_isShelf N a1 μ) (fun y2 μ1 => if y2 = 0 then (some ((-1 : Int32), μ1)) else (am_gd a1 6 (fun j3 => if 0 ≤ (μ1.1 211 0 j3) then (am_gd a1 6 (fun j4 => if (50 : Int32) ≤ (μ1.1 211 0 j4) then (if a2 < 0 then (some ((-13 : Int32), μ1)) else (am_gd a1 6 (fun j5 => if (μ1.1 212 0 j5) ≤ a2 then (some ((-13 : Int32), μ1)) else (some ((0 : Int32), μ1))))) else (some ((-12 : Int32), μ1)))) else (some ((-11 : Int32), μ1)))))
def f_X10_refusal (N : Nat) (a1 : Int32) (a2 : Int32) (μ : am_M) : Option (Int32 × am_M) := f_X10_refusal_0 N a1 a2 μ
set_option maxHeartbeats 4000000 in
set_option maxRecDepth 100000 in
theorem p_X10_refusal_0 (G : am_G) (l : Launch) (d : Nat) (hd0 : 2 ≤ d) (N : Nat) (a1 : Int32) (a2 : Int32) (μ : am_M) : sm_P G l am_ci d me_X10_refusal 0 [(0, .ref (am_ad G 10 0)), (1, .int a1), (2, .int a2)] [] μ (f_X10_refusal_0 N a1 a2 μ) := by
  unfold f_X10_refusal_0
  refine sm_iload_n (pc := 0) dX10_refusal_0 rfl 1 rfl ?_
  refine sm_callSi (pc := 1) (As := [.int a1]) (rest := []) dX10_refusal_1 (c_X10_isShelf G l N a1 μ) (by omega) wl_X10_126 st_X10_isShelf rfl rfl (Nat.le_of_ble_eq_true rfl) (fun y2 μ1 => ?_)
  refine sm_if_ne (pc := 4) (tgt := 9) dX10_refusal_4 (by decide) ?_ ?_
  · refine sm_aload_n (pc := 9) dX10_refusal_9 rfl 0 rfl ?_
    refine sm_getr (pc := 10) dX10_refusal_10 fi_X10_83 ?_
    refine sm_iload_n (pc := 13) dX10_refusal_13 rfl 1 rfl ?_
    refine sm_iald (pc := 14) dX10_refusal_14 ly_211 (by decide) (fun j3 hj3 => ?_)
    refine sm_if_ge (pc := 15) (tgt := 21) dX10_refusal_15 (by decide) ?_ ?_
    · refine sm_aload_n (pc := 21) dX10_refusal_21 rfl 0 rfl ?_
      refine sm_getr (pc := 22) dX10_refusal_22 fi_X10_83 ?_
      refine sm_iload_n (pc := 25) dX10_refusal_25 rfl 1 rfl ?_
      refine sm_iald (pc := 26) dX10_refusal_26 ly_211 (by decide) (fun j4 hj4 => ?_)
      refine sm_bipush (pc := 27) dX10_refusal_27 (v := 50) (by decide) ?_
      refine sm_icmp_ge (pc := 29) (tgt := 35) dX10_refusal_29 (by decide) ?_ ?_
      · refine sm_iload_n (pc := 35) dX10_refusal_35 rfl 2 rfl ?_
        refine sm_if_lt (pc := 36) (tgt := 53) dX10_refusal_36 (by decide) ?_ ?_
        · refine sm_bipush (pc := 53) dX10_refusal_53 (v := -13) (by decide) ?_
          exact sm_iret (pc := 55) dX10_refusal_55 rfl
        · refine sm_iload_n (pc := 39) dX10_refusal_39 rfl 2 rfl ?_
          refine sm_aload_n (pc := 40) dX10_refusal_40 rfl 0 rfl ?_
          refine sm_getr (pc := 41) dX10_refusal_41 fi_X10_86 ?_
          refine sm_iload_n (pc := 44) dX10_refusal_44 rfl 1 rfl ?_
          refine sm_iald (pc := 45) dX10_refusal_45 ly_212 (by decide) (fun j5 hj5 => ?_)
          refine sm_icmp_ge (pc := 46) (tgt := 53) dX10_refusal_46 (by decide) ?_ ?_
          · refine sm_bipush (pc := 53) dX10_refusal_53 (v := -13) (by decide) ?_
            exact sm_iret (pc := 55) dX10_refusal_55 rfl
          · refine sm_iconst (pc := 49) dX10_refusal_49 (v := 0) (by decide) ?_
            refine sm_goto (pc := 50) (tgt := 55) dX10_refusal_50 (by decide) ?_
            exact sm_iret (pc := 55) dX10_refusal_55 rfl
      · refine sm_bipush (pc := 32) dX10_refusal_32 (v := -12) (by decide) ?_
        exact sm_iret (pc := 34) dX10_refusal_34 rfl
    · refine sm_bipush (pc := 18) dX10_refusal_18 (v := -11) (by decide) ?_
      exact sm_iret (pc := 20) dX10_refusal_20 rfl
  · refine sm_iconst (pc := 7) dX10_refusal_7 (v := -1) (by decide) ?_
    exact sm_iret (pc := 8) dX10_refusal_8 rfl
theorem c_X10_refusal (G : am_G) (l : Launch) (N : Nat) (a1 : Int32) (a2 : Int32) (μ : am_M) : ct_P G l am_ci 2 me_X10_refusal [.ref (am_ad G 10 0), .int a1, .int a2] μ (f_X10_refusal N a1 a2 μ) := ct_of (by decide +kernel) (Nat.le_of_ble_eq_true rfl) rfl (p_X10_refusal_0 G l 2 (Nat.le_refl _) N a1 a2 μ)

def f_X10_asSort_0 (N : Nat) (a0 : Int32) (a1 : Int64) (μ : am_M) : Option (Int64 × am_M) :=
if a0 = 0 then (some (a1.toInt32.toInt8.toInt32.toInt64, μ)) else (if a0 = (1 : Int32) then (some (a1.toInt32.toInt16.toInt32.toInt64, μ)) else (if a0 = (2 : Int32) then (some (a1.toInt32.toInt64, μ)) else (if a0 = (4 : Int32) then (if (lg_cmp a1 (0 : Int64)) = 0 then (some ((0 : Int64), μ)) else (some ((1 : Int64), μ))) else (some (a1, μ)))))
def f_X10_asSort (N : Nat) (a0 : Int32) (a1 : Int64) (μ : am_M) : Option (Int64 × am_M) := f_X10_asSort_0 N a0 a1 μ
set_option maxHeartbeats 4000000 in
set_option maxRecDepth 100000 in
theorem p_X10_asSort_0 (G : am_G) (l : Launch) (d : Nat) (hd0 : 0 ≤ d) (N : Nat) (a0 : Int32) (a1 : Int64) (μ : am_M) : sm_P G l am_cl d me_X10_asSort 0 [(0, .int a0), (1, .long a1)] [] μ (f_X10_asSort_0 N a0 a1 μ) := by
  unfold f_X10_asSort_0
  refine sm_iload_n (pc := 0) dX10_asSort_0 rfl 0 rfl ?_
  refine sm_if_ne (pc := 1) (tgt := 11) dX10_asSort_1 (by decide) ?_ ?_
  · refine sm_iload_n (pc := 11) dX10_asSort_11 rfl 0 rfl ?_
    refine sm_iconst (pc := 12) dX10_asSort_12 (v := 1) (by decide) ?_
    refine sm_icmp_ne (pc := 13) (tgt := 23) dX10_asSort_13 (by decide) ?_ ?_
    · refine sm_iload_n (pc := 23) dX10_asSort_23 rfl 0 rfl ?_
      refine sm_iconst (pc := 24) dX10_asSort_24 (v := 2) (by decide) ?_
      refine sm_icmp_ne (pc := 25) (tgt := 34) dX10_asSort_25 (by decide) ?_ ?_
      · refine sm_iload_n (pc := 34) dX10_asSort_34 rfl 0 rfl ?_
        refine sm_iconst (pc := 35) dX10_asSort_35 (v := 4) (by decide) ?_
        refine sm_icmp_ne (pc := 36) (tgt := 53) dX10_asSort_36 (by decide) ?_ ?_
        · refine sm_lload_n (pc := 53) dX10_asSort_53 rfl 1 rfl ?_
          exact sm_lret (pc := 54) dX10_asSort_54 rfl
        · refine sm_lload_n (pc := 39) dX10_asSort_39 rfl 1 rfl ?_
          refine sm_lconst (pc := 40) dX10_asSort_40 (v := 0) (by decide) ?_
          refine sm_lcmp (pc := 41) dX10_asSort_41 ?_
          refine sm_if_eq (pc := 42) (tgt := 49) dX10_asSort_42 (by decide) ?_ ?_
          · refine sm_lconst (pc := 49) dX10_asSort_49 (v := 0) (by decide) ?_
            refine sm_goto (pc := 50) (tgt := 54) dX10_asSort_50 (by decide) ?_
            exact sm_lret (pc := 54) dX10_asSort_54 rfl
          · refine sm_lconst (pc := 45) dX10_asSort_45 (v := 1) (by decide) ?_
            refine sm_goto (pc := 46) (tgt := 54) dX10_asSort_46 (by decide) ?_
            exact sm_lret (pc := 54) dX10_asSort_54 rfl
      · refine sm_lload_n (pc := 28) dX10_asSort_28 rfl 1 rfl ?_
        refine sm_l2i (pc := 29) dX10_asSort_29 ?_
        refine sm_i2l (pc := 30) dX10_asSort_30 ?_
        refine sm_goto (pc := 31) (tgt := 54) dX10_asSort_31 (by decide) ?_
        exact sm_lret (pc := 54) dX10_asSort_54 rfl
    · refine sm_lload_n (pc := 16) dX10_asSort_16 rfl 1 rfl ?_
      refine sm_l2i (pc := 17) dX10_asSort_17 ?_
      refine sm_i2s (pc := 18) dX10_asSort_18 ?_
      refine sm_i2l (pc := 19) dX10_asSort_19 ?_
      refine sm_goto (pc := 20) (tgt := 54) dX10_asSort_20 (by decide) ?_
      exact sm_lret (pc := 54) dX10_asSort_54 rfl
  · refine sm_lload_n (pc := 4) dX10_asSort_4 rfl 1 rfl ?_
    refine sm_l2i (pc := 5) dX10_asSort_5 ?_
    refine sm_i2b (pc := 6) dX10_asSort_6 ?_
    refine sm_i2l (pc := 7) dX10_asSort_7 ?_
    refine sm_goto (pc := 8) (tgt := 54) dX10_asSort_8 (by decide) ?_
    exact sm_lret (pc := 54) dX10_asSort_54 rfl
theorem c_X10_asSort (G : am_G) (l : Launch) (N : Nat) (a0 : Int32) (a1 : Int64) (μ : am_M) : ct_P G l am_cl 0 me_X10_asSort [.int a0, .long a1] μ (f_X10_asSort N a0 a1 μ) := ct_of (by decide +kernel) (Nat.le_of_ble_eq_true rfl) rfl (p_X10_asSort_0 G l 0 (Nat.le_refl _) N a0 a1 μ)

def f_X10_put_37 (N : Nat) (x5 : Int32) (μ : am_M) : Option (Int32 × am_M) :=
if x5 = 0 then (some ((1 : Int32), μ)) else (some (x5, μ))
def f_X10_put_0 (N : Nat) (a1 : Int32) (a2 : Int32) (a3 : Int64) (μ : am_M) : Option (Int32 × am_M) :=
am_bd (f_X10_refusal N a1 a2 μ) (fun y2 μ1 => if y2 = 0 then (am_gd a1 6 (fun j3 => am_bd (f_X10_asSort N ((μ1.1 211 0 j3) - (50 : Int32)) a3 μ1) (fun y5 μ4 => am_gd (((60 : Int32) * a1) + a2) 360 (fun j6 => am_nm (am_ul μ4 213 0 j6 y5) (fun μ7 => f_X10_put_37 N y2 μ7))))) else (f_X10_put_37 N y2 μ1))
def f_X10_put (N : Nat) (a1 : Int32) (a2 : Int32) (a3 : Int64) (μ : am_M) : Option (Int32 × am_M) := f_X10_put_0 N a1 a2 a3 μ
set_option maxHeartbeats 4000000 in
set_option maxRecDepth 100000 in
theorem p_X10_put_37 (G : am_G) (l : Launch) (d : Nat) (hd0 : 3 ≤ d) (N : Nat) (x5 : Int32) (μ : am_M) : sm_P G l am_ci d me_X10_put 37 [(0, .ref (am_ad G 10 0)), (5, .int x5)] [] μ (f_X10_put_37 N x5 μ) := by
  unfold f_X10_put_37
  refine sm_iload (pc := 37) dX10_put_37 1 rfl ?_
  refine sm_if_ne (pc := 39) (tgt := 46) dX10_put_39 (by decide) ?_ ?_
  · refine sm_iload (pc := 46) dX10_put_46 1 rfl ?_
    exact sm_iret (pc := 48) dX10_put_48 rfl
  · refine sm_iconst (pc := 42) dX10_put_42 (v := 1) (by decide) ?_
    refine sm_goto (pc := 43) (tgt := 48) dX10_put_43 (by decide) ?_
    exact sm_iret (pc := 48) dX10_put_48 rfl
set_option maxHeartbeats 4000000 in
set_option maxRecDepth 100000 in
theorem p_X10_put_0 (G : am_G) (l : Launch) (d : Nat) (hd0 : 3 ≤ d) (N : Nat) (a1 : Int32) (a2 : Int32) (a3 : Int64) (μ : am_M) : sm_P G l am_ci d me_X10_put 0 [(0, .ref (am_ad G 10 0)), (1, .int a1), (2, .int a2), (3, .long a3)] [] μ (f_X10_put_0 N a1 a2 a3 μ) := by
  unfold f_X10_put_0
  refine sm_aload_n (pc := 0) dX10_put_0 rfl 0 rfl ?_
  refine sm_iload_n (pc := 1) dX10_put_1 rfl 1 rfl ?_
  refine sm_iload_n (pc := 2) dX10_put_2 rfl 2 rfl ?_
  refine sm_callVi (pc := 3) (As := [.int a1, .int a2]) (rest := []) dX10_put_3 (c_X10_refusal G l N a1 a2 μ) (by omega) wl_X10_361 vm_X10_refusal rfl rfl (Nat.le_of_ble_eq_true rfl) (fun y2 μ1 => ?_)
  refine sm_istore (pc := 6) (lv' := [(5, .int y2), (0, .ref (am_ad G 10 0)), (1, .int a1), (2, .int a2), (3, .long a3)]) dX10_put_6 (by decide) rfl ?_
  refine sm_iload (pc := 8) dX10_put_8 0 rfl ?_
  refine sm_if_ne (pc := 10) (tgt := 37) dX10_put_10 (by decide) ?_ ?_
  · refine sm_sub [1, 0] rfl ?_
    exact p_X10_put_37 G l d hd0 N y2 μ1
  · refine sm_aload_n (pc := 13) dX10_put_13 rfl 1 rfl ?_
    refine sm_getr (pc := 14) dX10_put_14 fi_X10_89 ?_
    refine sm_bipush (pc := 17) dX10_put_17 (v := 60) (by decide) ?_
    refine sm_iload_n (pc := 19) dX10_put_19 rfl 2 rfl ?_
    refine sm_imul (pc := 20) dX10_put_20 ?_
    refine sm_iload_n (pc := 21) dX10_put_21 rfl 3 rfl ?_
    refine sm_iadd (pc := 22) dX10_put_22 ?_
    refine sm_aload_n (pc := 23) dX10_put_23 rfl 1 rfl ?_
    refine sm_getr (pc := 24) dX10_put_24 fi_X10_83 ?_
    refine sm_iload_n (pc := 27) dX10_put_27 rfl 2 rfl ?_
    refine sm_iald (pc := 28) dX10_put_28 ly_211 (by decide) (fun j3 hj3 => ?_)
    refine sm_bipush (pc := 29) dX10_put_29 (v := 50) (by decide) ?_
    refine sm_isub (pc := 31) dX10_put_31 ?_
    refine sm_lload_n (pc := 32) dX10_put_32 rfl 4 rfl ?_
    refine sm_callSl (pc := 33) (As := [.int ((μ1.1 211 0 j3) - (50 : Int32)), .long a3]) (rest := [.int (((60 : Int32) * a1) + a2), .ref (am_ad G 213 0)]) dX10_put_33 (c_X10_asSort G l N ((μ1.1 211 0 j3) - (50 : Int32)) a3 μ1) (by omega) wl_X10_364 st_X10_asSort rfl rfl (Nat.le_of_ble_eq_true rfl) (fun y5 μ4 => ?_)
    refine sm_last (pc := 36) dX10_put_36 ly_213 (by decide) (fun j6 hj6 => ?_)
    refine sm_nmM (fun μ7 => ?_)
    refine sm_sub [1, 0] rfl ?_
    exact p_X10_put_37 G l d hd0 N y2 μ7
theorem c_X10_put (G : am_G) (l : Launch) (N : Nat) (a1 : Int32) (a2 : Int32) (a3 : Int64) (μ : am_M) : ct_P G l am_ci 3 me_X10_put [.ref (am_ad G 10 0), .int a1, .int a2, .long a3] μ (f_X10_put N a1 a2 a3 μ) := ct_of (by decide +kernel) (Nat.le_of_ble_eq_true rfl) rfl (p_X10_put_0 G l 3 (Nat.le_refl _) N a1 a2 a3 μ)

def f_X10_element_0 (N : Nat) (a1 : Int32) (a2 : Int32) (μ : am_M) : Option (Int64 × am_M) :=
am_bd (f_X10_refusal N a1 a2 μ) (fun y2 μ1 => if y2 = 0 then (am_gd (((60 : Int32) * a1) + a2) 360 (fun j3 => some ((μ1.2 213 0 j3), μ1))) else (some ((-9223372036854775808 : Int64), μ1)))
def f_X10_element (N : Nat) (a1 : Int32) (a2 : Int32) (μ : am_M) : Option (Int64 × am_M) := f_X10_element_0 N a1 a2 μ
set_option maxHeartbeats 4000000 in
set_option maxRecDepth 100000 in
theorem p_X10_element_0 (G : am_G) (l : Launch) (d : Nat) (hd0 : 3 ≤ d) (N : Nat) (a1 : Int32) (a2 : Int32) (μ : am_M) : sm_P G l am_cl d me_X10_element 0 [(0, .ref (am_ad G 10 0)), (1, .int a1), (2, .int a2)] [] μ (f_X10_element_0 N a1 a2 μ) := by
  unfold f_X10_element_0
  refine sm_aload_n (pc := 0) dX10_element_0 rfl 0 rfl ?_
  refine sm_iload_n (pc := 1) dX10_element_1 rfl 1 rfl ?_
  refine sm_iload_n (pc := 2) dX10_element_2 rfl 2 rfl ?_
  refine sm_callVi (pc := 3) (As := [.int a1, .int a2]) (rest := []) dX10_element_3 (c_X10_refusal G l N a1 a2 μ) (by omega) wl_X10_361 vm_X10_refusal rfl rfl (Nat.le_of_ble_eq_true rfl) (fun y2 μ1 => ?_)
  refine sm_if_eq (pc := 6) (tgt := 15) dX10_element_6 (by decide) ?_ ?_
  · refine sm_aload_n (pc := 15) dX10_element_15 rfl 0 rfl ?_
    refine sm_getr (pc := 16) dX10_element_16 fi_X10_89 ?_
    refine sm_bipush (pc := 19) dX10_element_19 (v := 60) (by decide) ?_
    refine sm_iload_n (pc := 21) dX10_element_21 rfl 1 rfl ?_
    refine sm_imul (pc := 22) dX10_element_22 ?_
    refine sm_iload_n (pc := 23) dX10_element_23 rfl 2 rfl ?_
    refine sm_iadd (pc := 24) dX10_element_24 ?_
    refine sm_lald (pc := 25) dX10_element_25 ly_213 (by decide) (fun j3 hj3 => ?_)
    exact sm_lret (pc := 26) dX10_element_26 rfl
  · refine sm_ldc2 (pc := 9) dX10_element_9 (v := -9223372036854775808) wk_X10_370 ?_
    refine sm_goto (pc := 12) (tgt := 26) dX10_element_12 (by decide) ?_
    exact sm_lret (pc := 26) dX10_element_26 rfl
theorem c_X10_element (G : am_G) (l : Launch) (N : Nat) (a1 : Int32) (a2 : Int32) (μ : am_M) : ct_P G l am_cl 3 me_X10_element [.ref (am_ad G 10 0), .int a1, .int a2] μ (f_X10_element N a1 a2 μ) := ct_of (by decide +kernel) (Nat.le_of_ble_eq_true rfl) rfl (p_X10_element_0 G l 3 (Nat.le_refl _) N a1 a2 μ)

def f_X10_shift_150 (N : Nat) (r_150 : Int32 → Int32 → Int32 → Int32 → am_M → Option (Int32 × am_M)) (x3 : Int32) (x4 : Int32) (x5 : Int32) (x6 : Int32) (μ : am_M) : Option (Int32 × am_M) :=
if x5 ≤ x6 then (some (x5, μ)) else (am_gd x6 60 (fun j12 => am_gd ((((60 : Int32) * x3) + x4) + x6) 360 (fun j13 => am_nm (am_ul μ 213 0 j13 (μ.2 214 0 j12)) (fun μ14 => r_150 x3 x4 x5 (x6 + (1 : Int32)) μ14))))
def f_X10_shift_150_lp (N : Nat) : Nat → Int32 → Int32 → Int32 → Int32 → am_M → Option (Int32 × am_M)
  | 0, _, _, _, _, _ => none
  | n + 1, x3, x4, x5, x6, μ => f_X10_shift_150 N (f_X10_shift_150_lp N n) x3 x4 x5 x6 μ
def f_X10_shift_113 (N : Nat) (r_113 : Int32 → Int32 → Int32 → Int32 → Int32 → Int32 → am_M → Option (Int32 × am_M)) (x1 : Int32) (x2 : Int32) (x3 : Int32) (x4 : Int32) (x5 : Int32) (x6 : Int32) (μ : am_M) : Option (Int32 × am_M) :=
if x5 ≤ x6 then (f_X10_shift_150_lp N N x3 x4 x5 (0 : Int32) μ) else (am_gd ((((60 : Int32) * x1) + x2) + x6) 360 (fun j15 => am_gd x6 60 (fun j16 => am_nm (am_ul μ 214 0 j16 (μ.2 213 0 j15)) (fun μ17 => r_113 x1 x2 x3 x4 x5 (x6 + (1 : Int32)) μ17))))
def f_X10_shift_113_lp (N : Nat) : Nat → Int32 → Int32 → Int32 → Int32 → Int32 → Int32 → am_M → Option (Int32 × am_M)
  | 0, _, _, _, _, _, _, _ => none
  | n + 1, x1, x2, x3, x4, x5, x6, μ => f_X10_shift_113 N (f_X10_shift_113_lp N n) x1 x2 x3 x4 x5 x6 μ
def f_X10_shift_0 (N : Nat) (a1 : Int32) (a2 : Int32) (a3 : Int32) (a4 : Int32) (a5 : Int32) (μ : am_M) : Option (Int32 × am_M) :=
am_bd (f_X10_isShelf N a1 μ) (fun y2 μ1 => if y2 = 0 then (some ((-1 : Int32), μ1)) else (am_bd (f_X10_isShelf N a3 μ1) (fun y4 μ3 => if y4 = 0 then (some ((-1 : Int32), μ3)) else (am_gd a1 6 (fun j5 => if (μ3.1 211 0 j5) < 0 then (some ((-11 : Int32), μ3)) else (am_gd a3 6 (fun j6 => if 0 ≤ (μ3.1 211 0 j6) then (am_gd a1 6 (fun j7 => if (μ3.1 211 0 j7) < (50 : Int32) then (some ((-12 : Int32), μ3)) else (am_gd a1 6 (fun j8 => am_gd a3 6 (fun j9 => if (μ3.1 211 0 j8) = (μ3.1 211 0 j9) then (if a5 < 0 then (some ((-13 : Int32), μ3)) else (if a2 < 0 then (some ((-13 : Int32), μ3)) else (if a4 < 0 then (some ((-13 : Int32), μ3)) else (am_gd a1 6 (fun j10 => if ((μ3.1 212 0 j10) - a5) < a2 then (some ((-13 : Int32), μ3)) else (am_gd a3 6 (fun j11 => if a4 ≤ ((μ3.1 212 0 j11) - a5) then (f_X10_shift_113_lp N N a1 a2 a3 a4 a5 (0 : Int32) μ3) else (some ((-13 : Int32), μ3))))))))) else (some ((-12 : Int32), μ3))))))) else (some ((-11 : Int32), μ3)))))))))
def f_X10_shift (N : Nat) (a1 : Int32) (a2 : Int32) (a3 : Int32) (a4 : Int32) (a5 : Int32) (μ : am_M) : Option (Int32 × am_M) := f_X10_shift_0 N a1 a2 a3 a4 a5 μ
set_option maxHeartbeats 4000000 in
set_option maxRecDepth 100000 in
theorem p_X10_shift_150 (G : am_G) (l : Launch) (d : Nat) (hd0 : 2 ≤ d) (N : Nat) (r_150 : Int32 → Int32 → Int32 → Int32 → am_M → Option (Int32 × am_M)) (H_150 : ∀ (x3 : Int32) (x4 : Int32) (x5 : Int32) (x6 : Int32) (μ : am_M), sm_P G l am_ci d me_X10_shift 150 [(0, .ref (am_ad G 10 0)), (3, .int x3), (4, .int x4), (5, .int x5), (6, .int x6)] [] μ (r_150 x3 x4 x5 x6 μ)) (x3 : Int32) (x4 : Int32) (x5 : Int32) (x6 : Int32) (μ : am_M) : sm_P G l am_ci d me_X10_shift 150 [(0, .ref (am_ad G 10 0)), (3, .int x3), (4, .int x4), (5, .int x5), (6, .int x6)] [] μ (f_X10_shift_150 N r_150 x3 x4 x5 x6 μ) := by
  unfold f_X10_shift_150
  refine sm_iload (pc := 150) dX10_shift_150 4 rfl ?_
  refine sm_iload (pc := 152) dX10_shift_152 3 rfl ?_
  refine sm_icmp_ge (pc := 154) (tgt := 185) dX10_shift_154 (by decide) ?_ ?_
  · refine sm_iload (pc := 185) dX10_shift_185 3 rfl ?_
    exact sm_iret (pc := 187) dX10_shift_187 rfl
  · refine sm_aload_n (pc := 157) dX10_shift_157 rfl 0 rfl ?_
    refine sm_getr (pc := 158) dX10_shift_158 fi_X10_89 ?_
    refine sm_bipush (pc := 161) dX10_shift_161 (v := 60) (by decide) ?_
    refine sm_iload_n (pc := 163) dX10_shift_163 rfl 1 rfl ?_
    refine sm_imul (pc := 164) dX10_shift_164 ?_
    refine sm_iload (pc := 165) dX10_shift_165 2 rfl ?_
    refine sm_iadd (pc := 167) dX10_shift_167 ?_
    refine sm_iload (pc := 168) dX10_shift_168 4 rfl ?_
    refine sm_iadd (pc := 170) dX10_shift_170 ?_
    refine sm_aload_n (pc := 171) dX10_shift_171 rfl 0 rfl ?_
    refine sm_getr (pc := 172) dX10_shift_172 fi_X10_93 ?_
    refine sm_iload (pc := 175) dX10_shift_175 4 rfl ?_
    refine sm_lald (pc := 177) dX10_shift_177 ly_214 (by decide) (fun j12 hj12 => ?_)
    refine sm_last (pc := 178) dX10_shift_178 ly_213 (by decide) (fun j13 hj13 => ?_)
    refine sm_nmM (fun μ14 => ?_)
    refine sm_iinc (pc := 179) (v := (x6 + (1 : Int32))) (lv' := [(6, .int (x6 + (1 : Int32))), (0, .ref (am_ad G 10 0)), (3, .int x3), (4, .int x4), (5, .int x5)]) dX10_shift_179 4 rfl rfl (by decide) rfl ?_
    refine sm_goto (pc := 182) (tgt := 150) dX10_shift_182 (by decide) ?_
    refine sm_sub [1, 2, 3, 4, 0] rfl ?_
    exact H_150 x3 x4 x5 (x6 + (1 : Int32)) μ14
theorem p_X10_shift_150_lp (G : am_G) (l : Launch) (d : Nat) (hd0 : 2 ≤ d) (N : Nat) : ∀ (n : Nat) (x3 : Int32) (x4 : Int32) (x5 : Int32) (x6 : Int32) (μ : am_M), sm_P G l am_ci d me_X10_shift 150 [(0, .ref (am_ad G 10 0)), (3, .int x3), (4, .int x4), (5, .int x5), (6, .int x6)] [] μ (f_X10_shift_150_lp N n x3 x4 x5 x6 μ) := by
  intro n
  induction n with
  | zero => intros; exact sm_none
  | succ n ih => exact fun x3 x4 x5 x6 μ => p_X10_shift_150 G l d hd0 N (f_X10_shift_150_lp N n) ih x3 x4 x5 x6 μ
set_option maxHeartbeats 4000000 in
set_option maxRecDepth 100000 in
theorem p_X10_shift_113 (G : am_G) (l : Launch) (d : Nat) (hd0 : 2 ≤ d) (N : Nat) (r_113 : Int32 → Int32 → Int32 → Int32 → Int32 → Int32 → am_M → Option (Int32 × am_M)) (H_113 : ∀ (x1 : Int32) (x2 : Int32) (x3 : Int32) (x4 : Int32) (x5 : Int32) (x6 : Int32) (μ : am_M), sm_P G l am_ci d me_X10_shift 113 [(0, .ref (am_ad G 10 0)), (1, .int x1), (2, .int x2), (3, .int x3), (4, .int x4), (5, .int x5), (6, .int x6)] [] μ (r_113 x1 x2 x3 x4 x5 x6 μ)) (x1 : Int32) (x2 : Int32) (x3 : Int32) (x4 : Int32) (x5 : Int32) (x6 : Int32) (μ : am_M) : sm_P G l am_ci d me_X10_shift 113 [(0, .ref (am_ad G 10 0)), (1, .int x1), (2, .int x2), (3, .int x3), (4, .int x4), (5, .int x5), (6, .int x6)] [] μ (f_X10_shift_113 N r_113 x1 x2 x3 x4 x5 x6 μ) := by
  unfold f_X10_shift_113
  refine sm_iload (pc := 113) dX10_shift_113 6 rfl ?_
  refine sm_iload (pc := 115) dX10_shift_115 5 rfl ?_
  refine sm_icmp_ge (pc := 117) (tgt := 147) dX10_shift_117 (by decide) ?_ ?_
  · refine sm_iconst (pc := 147) dX10_shift_147 (v := 0) (by decide) ?_
    refine sm_istore (pc := 148) (lv' := [(6, .int (0 : Int32)), (0, .ref (am_ad G 10 0)), (1, .int x1), (2, .int x2), (3, .int x3), (4, .int x4), (5, .int x5)]) dX10_shift_148 (by decide) rfl ?_
    refine sm_sub [1, 4, 5, 6, 0] rfl ?_
    exact p_X10_shift_150_lp G l d hd0 N N x3 x4 x5 (0 : Int32) μ
  · refine sm_aload_n (pc := 120) dX10_shift_120 rfl 0 rfl ?_
    refine sm_getr (pc := 121) dX10_shift_121 fi_X10_93 ?_
    refine sm_iload (pc := 124) dX10_shift_124 6 rfl ?_
    refine sm_aload_n (pc := 126) dX10_shift_126 rfl 0 rfl ?_
    refine sm_getr (pc := 127) dX10_shift_127 fi_X10_89 ?_
    refine sm_bipush (pc := 130) dX10_shift_130 (v := 60) (by decide) ?_
    refine sm_iload_n (pc := 132) dX10_shift_132 rfl 1 rfl ?_
    refine sm_imul (pc := 133) dX10_shift_133 ?_
    refine sm_iload_n (pc := 134) dX10_shift_134 rfl 2 rfl ?_
    refine sm_iadd (pc := 135) dX10_shift_135 ?_
    refine sm_iload (pc := 136) dX10_shift_136 6 rfl ?_
    refine sm_iadd (pc := 138) dX10_shift_138 ?_
    refine sm_lald (pc := 139) dX10_shift_139 ly_213 (by decide) (fun j15 hj15 => ?_)
    refine sm_last (pc := 140) dX10_shift_140 ly_214 (by decide) (fun j16 hj16 => ?_)
    refine sm_nmM (fun μ17 => ?_)
    refine sm_iinc (pc := 141) (v := (x6 + (1 : Int32))) (lv' := [(6, .int (x6 + (1 : Int32))), (0, .ref (am_ad G 10 0)), (1, .int x1), (2, .int x2), (3, .int x3), (4, .int x4), (5, .int x5)]) dX10_shift_141 6 rfl rfl (by decide) rfl ?_
    refine sm_goto (pc := 144) (tgt := 113) dX10_shift_144 (by decide) ?_
    refine sm_sub [1, 2, 3, 4, 5, 6, 0] rfl ?_
    exact H_113 x1 x2 x3 x4 x5 (x6 + (1 : Int32)) μ17
theorem p_X10_shift_113_lp (G : am_G) (l : Launch) (d : Nat) (hd0 : 2 ≤ d) (N : Nat) : ∀ (n : Nat) (x1 : Int32) (x2 : Int32) (x3 : Int32) (x4 : Int32) (x5 : Int32) (x6 : Int32) (μ : am_M), sm_P G l am_ci d me_X10_shift 113 [(0, .ref (am_ad G 10 0)), (1, .int x1), (2, .int x2), (3, .int x3), (4, .int x4), (5, .int x5), (6, .int x6)] [] μ (f_X10_shift_113_lp N n x1 x2 x3 x4 x5 x6 μ) := by
  intro n
  induction n with
  | zero => intros; exact sm_none
  | succ n ih => exact fun x1 x2 x3 x4 x5 x6 μ => p_X10_shift_113 G l d hd0 N (f_X10_shift_113_lp N n) ih x1 x2 x3 x4 x5 x6 μ
set_option maxHeartbeats 4000000 in
set_option maxRecDepth 100000 in
theorem p_X10_shift_0 (G : am_G) (l : Launch) (d : Nat) (hd0 : 2 ≤ d) (N : Nat) (a1 : Int32) (a2 : Int32) (a3 : Int32) (a4 : Int32) (a5 : Int32) (μ : am_M) : sm_P G l am_ci d me_X10_shift 0 [(0, .ref (am_ad G 10 0)), (1, .int a1), (2, .int a2), (3, .int a3), (4, .int a4), (5, .int a5)] [] μ (f_X10_shift_0 N a1 a2 a3 a4 a5 μ) := by
  unfold f_X10_shift_0
  refine sm_iload_n (pc := 0) dX10_shift_0 rfl 1 rfl ?_
  refine sm_callSi (pc := 1) (As := [.int a1]) (rest := []) dX10_shift_1 (c_X10_isShelf G l N a1 μ) (by omega) wl_X10_126 st_X10_isShelf rfl rfl (Nat.le_of_ble_eq_true rfl) (fun y2 μ1 => ?_)
  refine sm_if_eq (pc := 4) (tgt := 14) dX10_shift_4 (by decide) ?_ ?_
  · refine sm_iconst (pc := 14) dX10_shift_14 (v := -1) (by decide) ?_
    exact sm_iret (pc := 15) dX10_shift_15 rfl
  · refine sm_iload_n (pc := 7) dX10_shift_7 rfl 3 rfl ?_
    refine sm_callSi (pc := 8) (As := [.int a3]) (rest := []) dX10_shift_8 (c_X10_isShelf G l N a3 μ1) (by omega) wl_X10_126 st_X10_isShelf rfl rfl (Nat.le_of_ble_eq_true rfl) (fun y4 μ3 => ?_)
    refine sm_if_ne (pc := 11) (tgt := 16) dX10_shift_11 (by decide) ?_ ?_
    · refine sm_aload_n (pc := 16) dX10_shift_16 rfl 0 rfl ?_
      refine sm_getr (pc := 17) dX10_shift_17 fi_X10_83 ?_
      refine sm_iload_n (pc := 20) dX10_shift_20 rfl 1 rfl ?_
      refine sm_iald (pc := 21) dX10_shift_21 ly_211 (by decide) (fun j5 hj5 => ?_)
      refine sm_if_lt (pc := 22) (tgt := 34) dX10_shift_22 (by decide) ?_ ?_
      · refine sm_bipush (pc := 34) dX10_shift_34 (v := -11) (by decide) ?_
        exact sm_iret (pc := 36) dX10_shift_36 rfl
      · refine sm_aload_n (pc := 25) dX10_shift_25 rfl 0 rfl ?_
        refine sm_getr (pc := 26) dX10_shift_26 fi_X10_83 ?_
        refine sm_iload_n (pc := 29) dX10_shift_29 rfl 3 rfl ?_
        refine sm_iald (pc := 30) dX10_shift_30 ly_211 (by decide) (fun j6 hj6 => ?_)
        refine sm_if_ge (pc := 31) (tgt := 37) dX10_shift_31 (by decide) ?_ ?_
        · refine sm_aload_n (pc := 37) dX10_shift_37 rfl 0 rfl ?_
          refine sm_getr (pc := 38) dX10_shift_38 fi_X10_83 ?_
          refine sm_iload_n (pc := 41) dX10_shift_41 rfl 1 rfl ?_
          refine sm_iald (pc := 42) dX10_shift_42 ly_211 (by decide) (fun j7 hj7 => ?_)
          refine sm_bipush (pc := 43) dX10_shift_43 (v := 50) (by decide) ?_
          refine sm_icmp_lt (pc := 45) (tgt := 63) dX10_shift_45 (by decide) ?_ ?_
          · refine sm_bipush (pc := 63) dX10_shift_63 (v := -12) (by decide) ?_
            exact sm_iret (pc := 65) dX10_shift_65 rfl
          · refine sm_aload_n (pc := 48) dX10_shift_48 rfl 0 rfl ?_
            refine sm_getr (pc := 49) dX10_shift_49 fi_X10_83 ?_
            refine sm_iload_n (pc := 52) dX10_shift_52 rfl 1 rfl ?_
            refine sm_iald (pc := 53) dX10_shift_53 ly_211 (by decide) (fun j8 hj8 => ?_)
            refine sm_aload_n (pc := 54) dX10_shift_54 rfl 0 rfl ?_
            refine sm_getr (pc := 55) dX10_shift_55 fi_X10_83 ?_
            refine sm_iload_n (pc := 58) dX10_shift_58 rfl 3 rfl ?_
            refine sm_iald (pc := 59) dX10_shift_59 ly_211 (by decide) (fun j9 hj9 => ?_)
            refine sm_icmp_eq (pc := 60) (tgt := 66) dX10_shift_60 (by decide) ?_ ?_
            · refine sm_iload (pc := 66) dX10_shift_66 5 rfl ?_
              refine sm_if_lt (pc := 68) (tgt := 107) dX10_shift_68 (by decide) ?_ ?_
              · refine sm_bipush (pc := 107) dX10_shift_107 (v := -13) (by decide) ?_
                exact sm_iret (pc := 109) dX10_shift_109 rfl
              · refine sm_iload_n (pc := 71) dX10_shift_71 rfl 2 rfl ?_
                refine sm_if_lt (pc := 72) (tgt := 107) dX10_shift_72 (by decide) ?_ ?_
                · refine sm_bipush (pc := 107) dX10_shift_107 (v := -13) (by decide) ?_
                  exact sm_iret (pc := 109) dX10_shift_109 rfl
                · refine sm_iload (pc := 75) dX10_shift_75 4 rfl ?_
                  refine sm_if_lt (pc := 77) (tgt := 107) dX10_shift_77 (by decide) ?_ ?_
                  · refine sm_bipush (pc := 107) dX10_shift_107 (v := -13) (by decide) ?_
                    exact sm_iret (pc := 109) dX10_shift_109 rfl
                  · refine sm_iload_n (pc := 80) dX10_shift_80 rfl 2 rfl ?_
                    refine sm_aload_n (pc := 81) dX10_shift_81 rfl 0 rfl ?_
                    refine sm_getr (pc := 82) dX10_shift_82 fi_X10_86 ?_
                    refine sm_iload_n (pc := 85) dX10_shift_85 rfl 1 rfl ?_
                    refine sm_iald (pc := 86) dX10_shift_86 ly_212 (by decide) (fun j10 hj10 => ?_)
                    refine sm_iload (pc := 87) dX10_shift_87 5 rfl ?_
                    refine sm_isub (pc := 89) dX10_shift_89 ?_
                    refine sm_icmp_gt (pc := 90) (tgt := 107) dX10_shift_90 (by decide) ?_ ?_
                    · refine sm_bipush (pc := 107) dX10_shift_107 (v := -13) (by decide) ?_
                      exact sm_iret (pc := 109) dX10_shift_109 rfl
                    · refine sm_iload (pc := 93) dX10_shift_93 4 rfl ?_
                      refine sm_aload_n (pc := 95) dX10_shift_95 rfl 0 rfl ?_
                      refine sm_getr (pc := 96) dX10_shift_96 fi_X10_86 ?_
                      refine sm_iload_n (pc := 99) dX10_shift_99 rfl 3 rfl ?_
                      refine sm_iald (pc := 100) dX10_shift_100 ly_212 (by decide) (fun j11 hj11 => ?_)
                      refine sm_iload (pc := 101) dX10_shift_101 5 rfl ?_
                      refine sm_isub (pc := 103) dX10_shift_103 ?_
                      refine sm_icmp_le (pc := 104) (tgt := 110) dX10_shift_104 (by decide) ?_ ?_
                      · refine sm_iconst (pc := 110) dX10_shift_110 (v := 0) (by decide) ?_
                        refine sm_istore (pc := 111) (lv' := [(6, .int (0 : Int32)), (0, .ref (am_ad G 10 0)), (1, .int a1), (2, .int a2), (3, .int a3), (4, .int a4), (5, .int a5)]) dX10_shift_111 (by decide) rfl ?_
                        refine sm_sub [1, 2, 3, 4, 5, 6, 0] rfl ?_
                        exact p_X10_shift_113_lp G l d hd0 N N a1 a2 a3 a4 a5 (0 : Int32) μ3
                      · refine sm_bipush (pc := 107) dX10_shift_107 (v := -13) (by decide) ?_
                        exact sm_iret (pc := 109) dX10_shift_109 rfl
            · refine sm_bipush (pc := 63) dX10_shift_63 (v := -12) (by decide) ?_
              exact sm_iret (pc := 65) dX10_shift_65 rfl
        · refine sm_bipush (pc := 34) dX10_shift_34 (v := -11) (by decide) ?_
          exact sm_iret (pc := 36) dX10_shift_36 rfl
    · refine sm_iconst (pc := 14) dX10_shift_14 (v := -1) (by decide) ?_
      exact sm_iret (pc := 15) dX10_shift_15 rfl
theorem c_X10_shift (G : am_G) (l : Launch) (N : Nat) (a1 : Int32) (a2 : Int32) (a3 : Int32) (a4 : Int32) (a5 : Int32) (μ : am_M) : ct_P G l am_ci 2 me_X10_shift [.ref (am_ad G 10 0), .int a1, .int a2, .int a3, .int a4, .int a5] μ (f_X10_shift N a1 a2 a3 a4 a5 μ) := ct_of (by decide +kernel) (Nat.le_of_ble_eq_true rfl) rfl (p_X10_shift_0 G l 2 (Nat.le_refl _) N a1 a2 a3 a4 a5 μ)

def f_X10_taken_75 (N : Nat) (x1 : Int32) (x2 : Int32) (x3 : Int32) (μ : am_M) : Option (Int32 × am_M) :=
if x3 = x2 then (am_gd x1 6 (fun j10 => am_bd (f_X10_kindOf N (μ.1 211 0 j10) μ) (fun y12 μ11 => some (y12, μ11)))) else (some ((-12 : Int32), μ))
def f_X10_taken_58 (N : Nat) (r_58 : Int32 → Int32 → Int32 → am_M → Option (Int32 × am_M)) (x1 : Int32) (x2 : Int32) (x3 : Int32) (μ : am_M) : Option (Int32 × am_M) :=
if x3 = x2 then (f_X10_taken_75 N x1 x2 x3 μ) else (if x3 ≤ 0 then (f_X10_taken_75 N x1 x2 x3 μ) else (am_bd (f_X10_above N x3 μ) (fun y14 μ13 => r_58 x1 x2 y14 μ13)))
def f_X10_taken_58_lp (N : Nat) : Nat → Int32 → Int32 → Int32 → am_M → Option (Int32 × am_M)
  | 0, _, _, _, _ => none
  | n + 1, x1, x2, x3, μ => f_X10_taken_58 N (f_X10_taken_58_lp N n) x1 x2 x3 μ
def f_X10_taken_0 (N : Nat) (a1 : Int32) (a2 : Int32) (μ : am_M) : Option (Int32 × am_M) :=
am_bd (f_X10_isShelf N a1 μ) (fun y2 μ1 => if y2 = 0 then (some ((-1 : Int32), μ1)) else (am_bd (f_X10_within N a2.toInt64 (0 : Int64) (7 : Int64) μ1) (fun y4 μ3 => if y4 = 0 then (some ((-1 : Int32), μ3)) else (am_gd a1 6 (fun j5 => if 0 ≤ (μ3.1 211 0 j5) then (am_gd a1 6 (fun j6 => if (μ3.1 211 0 j6) < (50 : Int32) then (am_gd a1 6 (fun j7 => am_bd (f_X10_kindOf N (μ3.1 211 0 j7) μ3) (fun y9 μ8 => f_X10_taken_58_lp N N a1 a2 y9 μ8))) else (some ((-12 : Int32), μ3)))) else (some ((-11 : Int32), μ3)))))))
def f_X10_taken (N : Nat) (a1 : Int32) (a2 : Int32) (μ : am_M) : Option (Int32 × am_M) := f_X10_taken_0 N a1 a2 μ
set_option maxHeartbeats 4000000 in
set_option maxRecDepth 100000 in
theorem p_X10_taken_75 (G : am_G) (l : Launch) (d : Nat) (hd0 : 2 ≤ d) (N : Nat) (x1 : Int32) (x2 : Int32) (x3 : Int32) (μ : am_M) : sm_P G l am_ci d me_X10_taken 75 [(0, .ref (am_ad G 10 0)), (1, .int x1), (2, .int x2), (3, .int x3)] [] μ (f_X10_taken_75 N x1 x2 x3 μ) := by
  unfold f_X10_taken_75
  refine sm_iload_n (pc := 75) dX10_taken_75 rfl 3 rfl ?_
  refine sm_iload_n (pc := 76) dX10_taken_76 rfl 2 rfl ?_
  refine sm_icmp_ne (pc := 77) (tgt := 93) dX10_taken_77 (by decide) ?_ ?_
  · refine sm_bipush (pc := 93) dX10_taken_93 (v := -12) (by decide) ?_
    exact sm_iret (pc := 95) dX10_taken_95 rfl
  · refine sm_aload_n (pc := 80) dX10_taken_80 rfl 0 rfl ?_
    refine sm_aload_n (pc := 81) dX10_taken_81 rfl 0 rfl ?_
    refine sm_getr (pc := 82) dX10_taken_82 fi_X10_83 ?_
    refine sm_iload_n (pc := 85) dX10_taken_85 rfl 1 rfl ?_
    refine sm_iald (pc := 86) dX10_taken_86 ly_211 (by decide) (fun j10 hj10 => ?_)
    refine sm_callVi (pc := 87) (As := [.int (μ.1 211 0 j10)]) (rest := []) dX10_taken_87 (c_X10_kindOf G l N (μ.1 211 0 j10) μ) (by omega) wl_X10_372 vm_X10_kindOf rfl rfl (Nat.le_of_ble_eq_true rfl) (fun y12 μ11 => ?_)
    refine sm_goto (pc := 90) (tgt := 95) dX10_taken_90 (by decide) ?_
    exact sm_iret (pc := 95) dX10_taken_95 rfl
set_option maxHeartbeats 4000000 in
set_option maxRecDepth 100000 in
theorem p_X10_taken_58 (G : am_G) (l : Launch) (d : Nat) (hd0 : 2 ≤ d) (N : Nat) (r_58 : Int32 → Int32 → Int32 → am_M → Option (Int32 × am_M)) (H_58 : ∀ (x1 : Int32) (x2 : Int32) (x3 : Int32) (μ : am_M), sm_P G l am_ci d me_X10_taken 58 [(0, .ref (am_ad G 10 0)), (1, .int x1), (2, .int x2), (3, .int x3)] [] μ (r_58 x1 x2 x3 μ)) (x1 : Int32) (x2 : Int32) (x3 : Int32) (μ : am_M) : sm_P G l am_ci d me_X10_taken 58 [(0, .ref (am_ad G 10 0)), (1, .int x1), (2, .int x2), (3, .int x3)] [] μ (f_X10_taken_58 N r_58 x1 x2 x3 μ) := by
  unfold f_X10_taken_58
  refine sm_iload_n (pc := 58) dX10_taken_58 rfl 3 rfl ?_
  refine sm_iload_n (pc := 59) dX10_taken_59 rfl 2 rfl ?_
  refine sm_icmp_eq (pc := 60) (tgt := 75) dX10_taken_60 (by decide) ?_ ?_
  · exact p_X10_taken_75 G l d hd0 N x1 x2 x3 μ
  · refine sm_iload_n (pc := 63) dX10_taken_63 rfl 3 rfl ?_
    refine sm_if_le (pc := 64) (tgt := 75) dX10_taken_64 (by decide) ?_ ?_
    · exact p_X10_taken_75 G l d hd0 N x1 x2 x3 μ
    · refine sm_iload_n (pc := 67) dX10_taken_67 rfl 3 rfl ?_
      refine sm_callSi (pc := 68) (As := [.int x3]) (rest := []) dX10_taken_68 (c_X10_above G l N x3 μ) (by omega) wl_X10_375 st_X10_above rfl rfl (Nat.le_of_ble_eq_true rfl) (fun y14 μ13 => ?_)
      refine sm_istore_n (pc := 71) (lv' := [(3, .int y14), (0, .ref (am_ad G 10 0)), (1, .int x1), (2, .int x2)]) dX10_taken_71 rfl (by decide) rfl ?_
      refine sm_goto (pc := 72) (tgt := 58) dX10_taken_72 (by decide) ?_
      refine sm_sub [1, 2, 3, 0] rfl ?_
      exact H_58 x1 x2 y14 μ13
theorem p_X10_taken_58_lp (G : am_G) (l : Launch) (d : Nat) (hd0 : 2 ≤ d) (N : Nat) : ∀ (n : Nat) (x1 : Int32) (x2 : Int32) (x3 : Int32) (μ : am_M), sm_P G l am_ci d me_X10_taken 58 [(0, .ref (am_ad G 10 0)), (1, .int x1), (2, .int x2), (3, .int x3)] [] μ (f_X10_taken_58_lp N n x1 x2 x3 μ) := by
  intro n
  induction n with
  | zero => intros; exact sm_none
  | succ n ih => exact fun x1 x2 x3 μ => p_X10_taken_58 G l d hd0 N (f_X10_taken_58_lp N n) ih x1 x2 x3 μ
set_option maxHeartbeats 4000000 in
set_option maxRecDepth 100000 in
theorem p_X10_taken_0 (G : am_G) (l : Launch) (d : Nat) (hd0 : 2 ≤ d) (N : Nat) (a1 : Int32) (a2 : Int32) (μ : am_M) : sm_P G l am_ci d me_X10_taken 0 [(0, .ref (am_ad G 10 0)), (1, .int a1), (2, .int a2)] [] μ (f_X10_taken_0 N a1 a2 μ) := by
  unfold f_X10_taken_0
  refine sm_iload_n (pc := 0) dX10_taken_0 rfl 1 rfl ?_
  refine sm_callSi (pc := 1) (As := [.int a1]) (rest := []) dX10_taken_1 (c_X10_isShelf G l N a1 μ) (by omega) wl_X10_126 st_X10_isShelf rfl rfl (Nat.le_of_ble_eq_true rfl) (fun y2 μ1 => ?_)
  refine sm_if_eq (pc := 4) (tgt := 19) dX10_taken_4 (by decide) ?_ ?_
  · refine sm_iconst (pc := 19) dX10_taken_19 (v := -1) (by decide) ?_
    exact sm_iret (pc := 20) dX10_taken_20 rfl
  · refine sm_iload_n (pc := 7) dX10_taken_7 rfl 2 rfl ?_
    refine sm_i2l (pc := 8) dX10_taken_8 ?_
    refine sm_lconst (pc := 9) dX10_taken_9 (v := 0) (by decide) ?_
    refine sm_ldc2 (pc := 10) dX10_taken_10 (v := 7) wk_X10_330 ?_
    refine sm_callSi (pc := 13) (As := [.long a2.toInt64, .long (0 : Int64), .long (7 : Int64)]) (rest := []) dX10_taken_13 (c_X10_within G l N a2.toInt64 (0 : Int64) (7 : Int64) μ1) (by omega) wl_X10_105 st_X10_within rfl rfl (Nat.le_of_ble_eq_true rfl) (fun y4 μ3 => ?_)
    refine sm_if_ne (pc := 16) (tgt := 21) dX10_taken_16 (by decide) ?_ ?_
    · refine sm_aload_n (pc := 21) dX10_taken_21 rfl 0 rfl ?_
      refine sm_getr (pc := 22) dX10_taken_22 fi_X10_83 ?_
      refine sm_iload_n (pc := 25) dX10_taken_25 rfl 1 rfl ?_
      refine sm_iald (pc := 26) dX10_taken_26 ly_211 (by decide) (fun j5 hj5 => ?_)
      refine sm_if_ge (pc := 27) (tgt := 33) dX10_taken_27 (by decide) ?_ ?_
      · refine sm_aload_n (pc := 33) dX10_taken_33 rfl 0 rfl ?_
        refine sm_getr (pc := 34) dX10_taken_34 fi_X10_83 ?_
        refine sm_iload_n (pc := 37) dX10_taken_37 rfl 1 rfl ?_
        refine sm_iald (pc := 38) dX10_taken_38 ly_211 (by decide) (fun j6 hj6 => ?_)
        refine sm_bipush (pc := 39) dX10_taken_39 (v := 50) (by decide) ?_
        refine sm_icmp_lt (pc := 41) (tgt := 47) dX10_taken_41 (by decide) ?_ ?_
        · refine sm_aload_n (pc := 47) dX10_taken_47 rfl 0 rfl ?_
          refine sm_aload_n (pc := 48) dX10_taken_48 rfl 0 rfl ?_
          refine sm_getr (pc := 49) dX10_taken_49 fi_X10_83 ?_
          refine sm_iload_n (pc := 52) dX10_taken_52 rfl 1 rfl ?_
          refine sm_iald (pc := 53) dX10_taken_53 ly_211 (by decide) (fun j7 hj7 => ?_)
          refine sm_callVi (pc := 54) (As := [.int (μ3.1 211 0 j7)]) (rest := []) dX10_taken_54 (c_X10_kindOf G l N (μ3.1 211 0 j7) μ3) (by omega) wl_X10_372 vm_X10_kindOf rfl rfl (Nat.le_of_ble_eq_true rfl) (fun y9 μ8 => ?_)
          refine sm_istore_n (pc := 57) (lv' := [(3, .int y9), (0, .ref (am_ad G 10 0)), (1, .int a1), (2, .int a2)]) dX10_taken_57 rfl (by decide) rfl ?_
          refine sm_sub [1, 2, 3, 0] rfl ?_
          exact p_X10_taken_58_lp G l d hd0 N N a1 a2 y9 μ8
        · refine sm_bipush (pc := 44) dX10_taken_44 (v := -12) (by decide) ?_
          exact sm_iret (pc := 46) dX10_taken_46 rfl
      · refine sm_bipush (pc := 30) dX10_taken_30 (v := -11) (by decide) ?_
        exact sm_iret (pc := 32) dX10_taken_32 rfl
    · refine sm_iconst (pc := 19) dX10_taken_19 (v := -1) (by decide) ?_
      exact sm_iret (pc := 20) dX10_taken_20 rfl
theorem c_X10_taken (G : am_G) (l : Launch) (N : Nat) (a1 : Int32) (a2 : Int32) (μ : am_M) : ct_P G l am_ci 2 me_X10_taken [.ref (am_ad G 10 0), .int a1, .int a2] μ (f_X10_taken N a1 a2 μ) := ct_of (by decide +kernel) (Nat.le_of_ble_eq_true rfl) rfl (p_X10_taken_0 G l 2 (Nat.le_refl _) N a1 a2 μ)

