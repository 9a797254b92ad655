/-! what steps come to; the reference reads and works out at once -/
def jn (c a b : Int32) : Int32 := if c = 37 then (if b = 0 then 0 else am_rem a b) else if c = 38 then (if a = 0 then 0 else if b = 0 then 0 else 1) else if c = 42 then a * b else if c = 43 then a + b else if c = 45 then a - b else if c = 47 then (if b = 0 then 0 else a / b) else if c = 60 then (if b ≤ a then 0 else 1) else if c = 61 then (if a = b then 1 else 0) else if c = 62 then (if a ≤ b then 0 else 1) else if c = 124 then (if a = 0 then (if b = 0 then 0 else 1) else 1) else 0
def pz_do (env : Nat → Int32) (s : Int32) (k : List Int32) : List Int32 :=
  if s < 0 then (if is_nm (-s) = true then env (-s).toNatClampNeg :: k else if s = -33 then (if k.headD 0 = 0 then 1 else 0) :: k.tail else if s = -126 then (-(k.headD 0)) :: k.tail else jn (-s) (k.tail.headD 0) (k.headD 0) :: k.tail.tail)
  else s :: k
def pz_ev (env : Nat → Int32) (st k : List Int32) : List Int32 := st.foldl (fun k s => pz_do env s k) k
theorem ev_app (env : Nat → Int32) (a b k : List Int32) : pz_ev env (a ++ b) k = pz_ev env b (pz_ev env a k) := List.foldl_append
theorem ev_one (env : Nat → Int32) (s : Int32) (k : List Int32) : pz_ev env [s] k = pz_do env s k := rfl
theorem do_sign (env : Nat → Int32) {c lev : Nat} (h : pz_lv c = lev) (hl : lev < 5) (v w : Int32) (k : List Int32) : pz_do env (-(nI c)) (w :: v :: k) = jn (nI c) v w :: k := by
  have key : ∀ c : Nat, -(nI c) < 0 → is_nm (- -(nI c)) = false → -(nI c) ≠ -33 → -(nI c) ≠ -126 → - -(nI c) = nI c → pz_do env (-(nI c)) (w :: v :: k) = jn (nI c) v w :: k := by
    intro c h1 h2 h3 h4 h5
    unfold pz_do
    rw [if_pos h1, if_neg (by rw [h2]; decide), if_neg h3, if_neg h4, h5]
    rfl
  unfold pz_lv at h
  repeat' split at h
  all_goals first | (subst_vars; exact key _ (by decide) (by decide) (by decide) (by decide) (by decide)) | omega
theorem do_not (env : Nat → Int32) (v : Int32) (k : List Int32) : pz_do env (-33) (v :: k) = (if v = 0 then 1 else 0) :: k := rfl
theorem do_neg (env : Nat → Int32) (v : Int32) (k : List Int32) : pz_do env (-126) (v :: k) = (-v) :: k := rfl
theorem do_num (env : Nat → Int32) {n : Nat} (h : n < 2147483648) (k : List Int32) : pz_do env (nI n) k = nI n :: k := by
  unfold pz_do
  rw [if_neg (nI_pos h)]
theorem do_nm (env : Nat → Int32) {c : Nat} (h : pz_nm c = true) (k : List Int32) : pz_do env (-(nI c)) k = env c :: k := by
  have key : ∀ c : Nat, -(nI c) < 0 → is_nm (- -(nI c)) = true → (- -(nI c)).toNatClampNeg = c → pz_do env (-(nI c)) k = env c :: k := by
    intro c h1 h2 h3
    unfold pz_do
    rw [if_pos h1, if_pos h2, h3]
  simp only [pz_nm, Bool.or_eq_true, beq_iff_eq] at h
  rcases h with (((((h | h) | h) | h) | h) | h) | h <;> subst h <;> exact key _ (by decide) (by decide) (by decide)
def p_ref (k i : Nat) : Bool := k == 10 && (i == 19 || i == 21 || i == 22)
def RB (L : Nat) (by_ : Nat → Nat) (μ : am_M) : Prop := (μ.1 10 0 18 = -1 ∧ ∀ j, j < L → μ.1 173 0 j = nI (by_ j)) ∨ ∃ w, w < 4 ∧ μ.1 10 0 18 = nI (120 * w) ∧ ∀ j, j < L → μ.1 176 0 (120 * w + j) = nI (by_ j)
def EN (env : Nat → Int32) (μ : am_M) : Prop := μ.1 183 0 0 = env 116 ∧ μ.1 183 0 1 = env 107 ∧ μ.1 183 0 2 = env 99 ∧ μ.1 183 0 3 = env 112 ∧ μ.1 183 0 4 = env 115 ∧ μ.1 183 0 5 = env 98 ∧ μ.1 183 0 6 = env 110
/-- the reference's place in a text: at p, o opened, no fault -/
def RP (L : Nat) (by_ : Nat → Nat) (env : Nat → Int32) (μ : am_M) (p o : Nat) : Prop := RB L by_ μ ∧ L ≤ 120 ∧ (∀ j, j < L → by_ j < 256) ∧ EN env μ ∧ μ.1 10 0 19 = nI p ∧ p ≤ L ∧ μ.1 10 0 20 = nI L ∧ μ.1 10 0 21 = -1 ∧ μ.1 10 0 22 = nI o
theorem RB.fr {L : Nat} {by_ : Nat → Nat} {μ μ' : am_M} (h : RB L by_ μ) (hf : fr p_ref μ μ') : RB L by_ μ' := by
  rcases h with ⟨h1, h2⟩ | ⟨w, h0, h1, h2⟩
  · exact Or.inl ⟨(hf.1 10 0 18 rfl).trans h1, fun j hj => (hf.1 173 0 j rfl).trans (h2 j hj)⟩
  · exact Or.inr ⟨w, h0, (hf.1 10 0 18 rfl).trans h1, fun j hj => (hf.1 176 0 _ rfl).trans (h2 j hj)⟩
theorem EN.fr {env : Nat → Int32} {μ μ' : am_M} (h : EN env μ) (hf : fr p_ref μ μ') : EN env μ' := by
  obtain ⟨a, b, c, d, e, f, g⟩ := h
  exact ⟨(hf.1 183 0 0 rfl).trans a, (hf.1 183 0 1 rfl).trans b, (hf.1 183 0 2 rfl).trans c, (hf.1 183 0 3 rfl).trans d, (hf.1 183 0 4 rfl).trans e, (hf.1 183 0 5 rfl).trans f, (hf.1 183 0 6 rfl).trans g⟩
theorem RP.fr {L : Nat} {by_ : Nat → Nat} {env : Nat → Int32} {μ μ' : am_M} {p o p' o' : Nat} (h : RP L by_ env μ p o) (hf : fr p_ref μ μ') (h1 : μ'.1 10 0 19 = nI p') (h2 : p' ≤ L) (h3 : μ'.1 10 0 21 = -1) (h4 : μ'.1 10 0 22 = nI o') : RP L by_ env μ' p' o' :=
  ⟨h.1.fr hf, h.2.1, h.2.2.1, h.2.2.2.1.fr hf, h1, h2, (hf.1 10 0 20 rfl).trans h.2.2.2.2.2.2.1, h3, h4⟩
/-- the same, with a fault at p -/
def RF (L : Nat) (by_ : Nat → Nat) (env : Nat → Int32) (μ : am_M) (p : Nat) : Prop := RB L by_ μ ∧ L ≤ 120 ∧ (∀ j, j < L → by_ j < 256) ∧ EN env μ ∧ μ.1 10 0 19 = nI p ∧ p ≤ L ∧ μ.1 10 0 20 = nI L ∧ μ.1 10 0 21 = nI p
theorem RP_fault {L : Nat} {by_ : Nat → Nat} {env : Nat → Int32} {μ μ' : am_M} {p o p' : Nat} (h : RP L by_ env μ p o) (hf : fr p_ref μ μ') (h1 : μ'.1 10 0 19 = nI p') (h2 : p' ≤ L) (h3 : μ'.1 10 0 21 = nI p') : RF L by_ env μ' p' :=
  ⟨h.1.fr hf, h.2.1, h.2.2.1, h.2.2.2.1.fr hf, h1, h2, (hf.1 10 0 20 rfl).trans h.2.2.2.2.2.2.1, h3⟩
theorem RF_fault {L : Nat} {by_ : Nat → Nat} {env : Nat → Int32} {μ μ' : am_M} {p : Nat} (h : RF L by_ env μ p) (hf : fr p_ref μ μ') (h1 : μ'.1 10 0 19 = μ.1 10 0 19) (h3 : μ'.1 10 0 21 = μ.1 10 0 21) : RF L by_ env μ' p :=
  ⟨h.1.fr hf, h.2.1, h.2.2.1, h.2.2.2.1.fr hf, h1.trans h.2.2.2.2.1, h.2.2.2.2.2.1, (hf.1 10 0 20 rfl).trans h.2.2.2.2.2.2.1, h3.trans h.2.2.2.2.2.2.2⟩
theorem byteAt_f (N : Nat) {L : Nat} {by_ : Nat → Nat} {env : Nat → Int32} {μ : am_M} {p : Nat} (h : RF L by_ env μ p) : f_X10_byteAt N μ = some (nI (chL L by_ p), μ) := by
  obtain ⟨h1, h2, h3, h4, h5, h6, h7, h8⟩ := h
  unfold f_X10_byteAt f_X10_byteAt_0 chL
  rw [h5, h7]
  by_cases c : p < L
  · simp (disch := omega) only [nI_leI]
    rw [if_neg (by omega), if_pos c]
    rcases h1 with ⟨q1, q2⟩ | ⟨w, q0, q1, q2⟩
    · rw [q1, if_neg (by decide), gd_nI (by omega) (by omega), q2 p c]
    · rw [q1]
      simp (disch := omega) only [li_0, li_1, li_2, li_3, li_4, li_5, li_6, li_7, li_8, li_9, li_10, li_11, li_12, li_13, li_14, li_15, li_16, li_17, li_18, li_19, li_20, li_21, li_22, li_23, li_24, li_25, li_26, li_27, li_28, li_29, li_30, li_31, li_32, li_33, li_34, li_35, li_36, li_37, li_38, li_39, li_40, li_41, li_42, li_43, li_44, li_45, li_46, li_47, li_48, li_49, li_50, li_51, li_52, li_53, li_54, li_55, li_56, li_57, li_58, li_59, li_60, li_61, li_62, li_63, li_64, li_65, li_66, li_67, li_68, li_69, li_70, li_71, li_72, li_73, li_74, li_75, li_76, li_77, li_78, li_79, li_80, li_81, li_82, li_83, li_84, li_85, li_86, li_87, li_88, li_89, li_90, li_91, li_92, li_93, li_94, li_95, li_96, li_97, li_98, li_99, li_100, li_101, li_102, li_103, li_104, li_105, li_106, li_107, li_108, li_109, li_110, li_111, li_112, li_113, li_114, li_115, li_116, li_117, li_118, li_119, li_120, li_121, li_122, li_123, li_124, li_125, li_126, li_127, li_128, li_129, li_130, li_255, li_259, li_360, li_480, li_900, li_999, li_1000, li_1782, li_1783, li_9999, li_1000000000, nI_leI, nI_add, gd_nI]
      rw [if_pos (by omega), q2 p c]
  · simp (disch := omega) only [nI_leI]
    rw [if_pos (by omega), if_neg c]
    rfl
theorem byteAt_r (N : Nat) {L : Nat} {by_ : Nat → Nat} {env : Nat → Int32} {μ : am_M} {p o : Nat} (h : RP L by_ env μ p o) : f_X10_byteAt N μ = some (nI (chL L by_ p), μ) := by
  obtain ⟨h1, h2, h3, h4, h5, h6, h7, h8, h9⟩ := h
  unfold f_X10_byteAt f_X10_byteAt_0 chL
  rw [h5, h7]
  by_cases c : p < L
  · simp (disch := omega) only [nI_leI]
    rw [if_neg (by omega), if_pos c]
    rcases h1 with ⟨q1, q2⟩ | ⟨w, q0, q1, q2⟩
    · rw [q1, if_neg (by decide), gd_nI (by omega) (by omega), q2 p c]
    · rw [q1]
      simp (disch := omega) only [li_0, li_1, li_2, li_3, li_4, li_5, li_6, li_7, li_8, li_9, li_10, li_11, li_12, li_13, li_14, li_15, li_16, li_17, li_18, li_19, li_20, li_21, li_22, li_23, li_24, li_25, li_26, li_27, li_28, li_29, li_30, li_31, li_32, li_33, li_34, li_35, li_36, li_37, li_38, li_39, li_40, li_41, li_42, li_43, li_44, li_45, li_46, li_47, li_48, li_49, li_50, li_51, li_52, li_53, li_54, li_55, li_56, li_57, li_58, li_59, li_60, li_61, li_62, li_63, li_64, li_65, li_66, li_67, li_68, li_69, li_70, li_71, li_72, li_73, li_74, li_75, li_76, li_77, li_78, li_79, li_80, li_81, li_82, li_83, li_84, li_85, li_86, li_87, li_88, li_89, li_90, li_91, li_92, li_93, li_94, li_95, li_96, li_97, li_98, li_99, li_100, li_101, li_102, li_103, li_104, li_105, li_106, li_107, li_108, li_109, li_110, li_111, li_112, li_113, li_114, li_115, li_116, li_117, li_118, li_119, li_120, li_121, li_122, li_123, li_124, li_125, li_126, li_127, li_128, li_129, li_130, li_255, li_259, li_360, li_480, li_900, li_999, li_1000, li_1782, li_1783, li_9999, li_1000000000, nI_leI, nI_add, gd_nI]
      rw [if_pos (by omega), q2 p c]
  · simp (disch := omega) only [nI_leI]
    rw [if_pos (by omega), if_neg c]
    rfl
theorem chR_lt {L : Nat} {by_ : Nat → Nat} {env : Nat → Int32} {μ : am_M} {p o : Nat} (h : RP L by_ env μ p o) (p' : Nat) : chL L by_ p' < 256 := by
  unfold chL
  by_cases q : p' < L
  · rw [if_pos q]; exact h.2.2.1 p' q
  · rw [if_neg q]; decide
theorem ch_eq {L : Nat} {by_ : Nat → Nat} {env : Nat → Int32} {μ : am_M} {p o : Nat} (h : RP L by_ env μ p o) (p' c : Nat) (hc : c < 256) : (nI (chL L by_ p') = nI c) ↔ chL L by_ p' = c := nI_eq (by have := chR_lt h p'; omega) (by omega)
theorem advR {L : Nat} {by_ : Nat → Nat} {env : Nat → Int32} {μ : am_M} {p o : Nat} (h : RP L by_ env μ p o) (hp : p < L) : RP L by_ env (am_ui μ 10 0 19 (μ.1 10 0 19 + nI 1)) (p + 1) o ∧ fr p_ref μ (am_ui μ 10 0 19 (μ.1 10 0 19 + nI 1)) := by
  have hf : fr p_ref μ (am_ui μ 10 0 19 (μ.1 10 0 19 + nI 1)) := fr.rf.ui rfl
  obtain ⟨-, -, -, -, h5, -, -, h8, h9⟩ := id h
  exact ⟨h.fr hf (by simp [ui1, h5, nI_add]) hp (by simp [ui1, h8]) (by simp [ui1, h9]), hf⟩
theorem takes_r (N : Nat) {L : Nat} {by_ : Nat → Nat} {env : Nat → Int32} {μ : am_M} {p o : Nat} (h : RP L by_ env μ p o) (c : Nat) (hc : c < 256) : f_X10_takes N (nI c) μ = if chL L by_ p = c then some (nI 1, am_ui μ 10 0 19 (μ.1 10 0 19 + nI 1)) else some (nI 0, μ) := by
  unfold f_X10_takes f_X10_takes_0
  rw [h.2.2.2.2.2.2.2.1, if_neg (by decide), byteAt_r N h, bd_some]
  simp only [ch_eq h p c hc, li_0, li_1, li_2, li_3, li_4, li_5, li_6, li_7, li_8, li_9, li_10, li_11, li_12, li_13, li_14, li_15, li_16, li_17, li_18, li_19, li_20, li_21, li_22, li_23, li_24, li_25, li_26, li_27, li_28, li_29, li_30, li_31, li_32, li_33, li_34, li_35, li_36, li_37, li_38, li_39, li_40, li_41, li_42, li_43, li_44, li_45, li_46, li_47, li_48, li_49, li_50, li_51, li_52, li_53, li_54, li_55, li_56, li_57, li_58, li_59, li_60, li_61, li_62, li_63, li_64, li_65, li_66, li_67, li_68, li_69, li_70, li_71, li_72, li_73, li_74, li_75, li_76, li_77, li_78, li_79, li_80, li_81, li_82, li_83, li_84, li_85, li_86, li_87, li_88, li_89, li_90, li_91, li_92, li_93, li_94, li_95, li_96, li_97, li_98, li_99, li_100, li_101, li_102, li_103, li_104, li_105, li_106, li_107, li_108, li_109, li_110, li_111, li_112, li_113, li_114, li_115, li_116, li_117, li_118, li_119, li_120, li_121, li_122, li_123, li_124, li_125, li_126, li_127, li_128, li_129, li_130, li_255, li_259, li_360, li_480, li_900, li_999, li_1000, li_1782, li_1783, li_9999, li_1000000000, am_nm, z_1, z_0]
theorem takes_f (N : Nat) {μ : am_M} {q : Nat} (c : Int32) (h : μ.1 10 0 21 = nI q) (hq : q < 2147483648) : f_X10_takes N c μ = some (nI 0, μ) := by
  unfold f_X10_takes f_X10_takes_0
  rw [h, if_pos (nI_pos' hq), li_0, z_0]
theorem fails_r (N : Nat) {L : Nat} {by_ : Nat → Nat} {env : Nat → Int32} {μ : am_M} {p o : Nat} (h : RP L by_ env μ p o) : f_X10_fails N μ = some (nI 0, am_ui μ 10 0 21 (nI p)) := by
  unfold f_X10_fails f_X10_fails_0
  rw [h.2.2.2.2.2.2.2.1, if_neg (by decide), h.2.2.2.2.1]
  rfl
theorem fails_f (N : Nat) {μ : am_M} {q : Nat} (h : μ.1 10 0 21 = nI q) (hq : q < 2147483648) : f_X10_fails N μ = some (nI 0, am_ui μ 10 0 21 (nI q)) := by
  unfold f_X10_fails f_X10_fails_0
  rw [h, if_pos (nI_pos' hq)]
  rfl
def re_C (L : Nat) (by_ : Nat → Nat) (env : Nat → Int32) (o : Nat) (v : Int32) (μ : am_M) (R : pz_R) : Prop := (R.1 = true → RP L by_ env μ R.2.1 o ∧ ∀ k, pz_ev env R.2.2 k = v :: k) ∧ (R.1 = false → RF L by_ env μ R.2.1)
def re_E (L : Nat) (by_ : Nat → Nat) (env : Nat → Int32) (o : Nat) (x : Option (Int32 × am_M)) (μ : am_M) (R : pz_R) : Prop := ∃ (v : Int32) (μ' : am_M), x = some (v, μ') ∧ fr p_ref μ μ' ∧ re_C L by_ env o v μ' R
def re_S (L : Nat) (by_ : Nat → Nat) (env : Nat → Int32) (o : Nat) (g : am_M → Option (Int32 × am_M)) (sub : Nat → pz_R) : Prop := ∀ (q : Nat) (μ : am_M), RP L by_ env μ q o → re_E L by_ env o (g μ) μ (sub q)
/-- one turn of a joining loop, as the steps see it -/
theorem re_turn {L : Nat} {by_ : Nat → Nat} {env : Nat → Int32} {o : Nat} {r R : pz_R} {v w : Int32} {c lev : Nat} {μ' : am_M} (hr : ∀ k, pz_ev env r.2.2 k = v :: k) (hR : re_C L by_ env o w μ' R) (hc : pz_lv c = lev) (hl : lev < 5) : re_C L by_ env o (jn (nI c) v w) μ' (R.1, (R.2.1, (r.2.2 ++ R.2.2) ++ [-(nI c)])) := by
  refine ⟨fun ht => ⟨(hR.1 ht).1, fun k => ?_⟩, fun hf => hR.2 hf⟩
  rw [ev_app, ev_app, hr, (hR.1 ht).2, ev_one, do_sign env hc hl]
