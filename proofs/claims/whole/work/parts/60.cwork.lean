/-! the class works steps out, on its stack -/
def p_ev (k i : Nat) : Bool := k == 68 || (k == 4 && i == 5)
def SK (μ : am_M) (k : List Int32) : Prop := μ.1 4 0 5 = nI k.length ∧ ∀ j, j < k.length → μ.1 68 0 (k.length - 1 - j) = k.getD j 0
def EK (env : Nat → Int32) (μ : am_M) : Prop := ∀ c, pz_nm c = true → μ.1 67 0 c = env c
theorem EK.of {env : Nat → Int32} {μ μ' : am_M} (h : EK env μ) (hf : fr p_ev μ μ') : EK env μ' := fun c hc => (hf.1 67 0 c rfl).trans (h c hc)
theorem pop_c (N : Nat) {μ : am_M} {k : List Int32} (h : SK μ k) (hk : k.length ≤ 121) : ∃ μ', f_X8_pop N μ = some (k.headD 0, μ') ∧ SK μ' k.tail ∧ fr p_ev μ μ' := by
  unfold f_X8_pop f_X8_pop_0
  cases k with
  | nil =>
    rw [h.1, if_neg (by decide)]
    exact ⟨μ, rfl, h, fr.rf⟩
  | cons x k =>
    obtain ⟨h1, h2⟩ := h
    have h0 := h2 0 (by simp)
    simp only [List.length_cons, Nat.add_sub_cancel, Nat.sub_zero, List.getD_cons_zero] at h0 h1 hk
    rw [h1, if_pos (by rw [li_0, nI_ltI (by omega) (by omega)]; omega)]
    simp only [am_nm, nI_pred]
    refine ⟨am_ui μ 4 0 5 (nI k.length), ?_, ⟨by simp [ui1], fun j hj => ?_⟩, fr.rf.ui rfl⟩
    · have e : (am_ui μ 4 0 5 (nI k.length)).1 4 0 5 = nI k.length := by simp [ui1]
      rw [e, gd_nI (by omega) (by omega)]
      simp [ui1, h0]
    · have := h2 (j + 1) (by simp at hj ⊢; omega)
      simp only [List.tail_cons] at hj ⊢
      simp only [List.length_cons, List.getD_cons_succ] at this
      simp only [ui1]
      rw [if_neg (by simp)]
      rw [show k.length - 1 - j = k.length + 1 - 1 - (j + 1) by omega]
      exact this
theorem push_c (N : Nat) {μ : am_M} {k : List Int32} (h : SK μ k) (hk : k.length < 121) (x : Int32) : ∃ μ', f_X8_push N x μ = some ((), μ') ∧ SK μ' (x :: k) ∧ fr p_ev μ μ' := by
  unfold f_X8_push f_X8_push_0
  obtain ⟨h1, h2⟩ := h
  rw [h1, if_neg (by rw [li_121, nI_leI (by omega) (by omega)]; omega)]
  simp (disch := omega) only [gd_nI, am_nm]
  refine ⟨_, rfl, ⟨?_, fun j hj => ?_⟩, (fr.rf.ui rfl).ui rfl⟩
  · simp [ui1, h1, nI_1]
  · simp only [List.length_cons] at hj ⊢
    simp only [ui1]
    rw [if_neg (by simp)]
    cases j with
    | zero => simp
    | succ j =>
      rw [if_neg (by omega), show k.length + 1 - 1 - (j + 1) = k.length - 1 - j by omega, h2 j (by omega)]
      simp
theorem joined_c (N : Nat) (c a b : Int32) (μ : am_M) : f_X8_joined N c a b μ = some (jn c a b, μ) := by
  unfold f_X8_joined f_X8_joined_0 f_X8_joined_100 jn
  by_cases h37 : c = 37
  · rw [if_pos h37, if_pos h37]
    by_cases d : b = 0
    · rw [if_pos d, if_pos d]
    · rw [if_neg d, if_neg d]; unfold am_dv; rw [if_neg d]
  rw [if_neg h37, if_neg h37]
  by_cases h38 : c = 38
  · rw [if_pos h38, if_pos h38]
    by_cases d : a = 0
    · rw [if_pos d, if_pos d]
    · rw [if_neg d, if_neg d]
      by_cases d2 : b = 0
      · rw [if_pos d2, if_pos d2]
      · rw [if_neg d2, if_neg d2]
  rw [if_neg h38, if_neg h38]
  by_cases h42 : c = 42
  · rw [if_pos h42, if_pos h42]
  rw [if_neg h42, if_neg h42]
  by_cases h43 : c = 43
  · rw [if_pos h43, if_pos h43]
  rw [if_neg h43, if_neg h43]
  by_cases h45 : c = 45
  · rw [if_pos h45, if_pos h45]
  rw [if_neg h45, if_neg h45]
  by_cases h47 : c = 47
  · rw [if_pos h47, if_pos h47]
    by_cases d : b = 0
    · rw [if_pos d, if_pos d]
    · rw [if_neg d, if_neg d]; unfold am_dv; rw [if_neg d]
  rw [if_neg h47, if_neg h47]
  by_cases h60 : c = 60
  · rw [if_pos h60, if_pos h60]
    by_cases d : b ≤ a
    · rw [if_pos d, if_pos d]
    · rw [if_neg d, if_neg d]
  rw [if_neg h60, if_neg h60]
  by_cases h61 : c = 61
  · rw [if_pos h61, if_pos h61]
    by_cases d : a = b
    · rw [if_pos d, if_pos d]
    · rw [if_neg d, if_neg d]
  rw [if_neg h61, if_neg h61]
  by_cases h62 : c = 62
  · rw [if_pos h62, if_pos h62]
    by_cases d : a ≤ b
    · rw [if_pos d, if_pos d]
    · rw [if_neg d, if_neg d]
  rw [if_neg h62, if_neg h62]
  by_cases h124 : c = 124
  · rw [if_pos h124, if_pos h124]
    by_cases d : a = 0
    · rw [if_pos d, if_pos d]
      by_cases d2 : b = 0
      · rw [if_pos d2, if_pos d2]
      · rw [if_neg d2, if_neg d2]
    · rw [if_neg d, if_neg d]
  rw [if_neg h124, if_neg h124]
theorem is_nm_of {x : Int32} (h : is_nm x = true) : ∃ c, c < 128 ∧ pz_nm c = true ∧ x = nI c := by
  unfold is_nm at h
  by_cases h98 : x = 98
  · exact ⟨98, by decide, by decide, by rw [h98]; decide⟩
  rw [if_neg h98] at h
  by_cases h99 : x = 99
  · exact ⟨99, by decide, by decide, by rw [h99]; decide⟩
  rw [if_neg h99] at h
  by_cases h100 : x = 100
  · rw [if_pos h100] at h; cases h
  rw [if_neg h100] at h
  by_cases h101 : x = 101
  · rw [if_pos h101] at h; cases h
  rw [if_neg h101] at h
  by_cases h102 : x = 102
  · rw [if_pos h102] at h; cases h
  rw [if_neg h102] at h
  by_cases h103 : x = 103
  · rw [if_pos h103] at h; cases h
  rw [if_neg h103] at h
  by_cases h104 : x = 104
  · rw [if_pos h104] at h; cases h
  rw [if_neg h104] at h
  by_cases h105 : x = 105
  · rw [if_pos h105] at h; cases h
  rw [if_neg h105] at h
  by_cases h106 : x = 106
  · rw [if_pos h106] at h; cases h
  rw [if_neg h106] at h
  by_cases h107 : x = 107
  · exact ⟨107, by decide, by decide, by rw [h107]; decide⟩
  rw [if_neg h107] at h
  by_cases h108 : x = 108
  · rw [if_pos h108] at h; cases h
  rw [if_neg h108] at h
  by_cases h109 : x = 109
  · rw [if_pos h109] at h; cases h
  rw [if_neg h109] at h
  by_cases h110 : x = 110
  · exact ⟨110, by decide, by decide, by rw [h110]; decide⟩
  rw [if_neg h110] at h
  by_cases h111 : x = 111
  · rw [if_pos h111] at h; cases h
  rw [if_neg h111] at h
  by_cases h112 : x = 112
  · exact ⟨112, by decide, by decide, by rw [h112]; decide⟩
  rw [if_neg h112] at h
  by_cases h113 : x = 113
  · rw [if_pos h113] at h; cases h
  rw [if_neg h113] at h
  by_cases h114 : x = 114
  · rw [if_pos h114] at h; cases h
  rw [if_neg h114] at h
  by_cases h115 : x = 115
  · exact ⟨115, by decide, by decide, by rw [h115]; decide⟩
  rw [if_neg h115] at h
  by_cases h116 : x = 116
  · exact ⟨116, by decide, by decide, by rw [h116]; decide⟩
  rw [if_neg h116] at h
  cases h
theorem b2_00 (b : Bool) : (b2 b = 0) ↔ b = false := by cases b; exact ⟨fun _ => rfl, fun _ => rfl⟩; exact ⟨fun h => absurd h (by decide), fun h => by cases h⟩
theorem pz_do_len (env : Nat → Int32) (s : Int32) (k : List Int32) : (pz_do env s k).length ≤ k.length + 1 := by
  unfold pz_do
  repeat' split
  all_goals simp only [List.length_cons, List.length_tail]
  all_goals omega
theorem doStep_c (N : Nat) {env : Nat → Int32} {μ : am_M} {k : List Int32} (h : SK μ k) (hk : k.length < 121) (hE : EK env μ) (s : Int32) : ∃ μ', f_X8_doStep N s μ = some ((), μ') ∧ SK μ' (pz_do env s k) ∧ fr p_ev μ μ' := by
  unfold f_X8_doStep f_X8_doStep_0 f_X8_doStep_53 pz_do
  by_cases c1 : s < 0
  · rw [if_pos c1, if_pos c1, isName_c, bd_some]
    simp only [b2_00]
    cases c2 : is_nm (-s) with
    | true =>
      rw [if_neg (by decide), if_pos rfl]
      obtain ⟨c, hc, hn, hx⟩ := is_nm_of c2
      rw [hx, nI_clamp (by omega)]
      simp (disch := omega) only [gd_nI]
      obtain ⟨μ1, e1, e2, e3⟩ := push_c N h hk (μ.1 67 0 c)
      rw [e1, bd_some]
      rw [hE c hn] at e2
      exact ⟨μ1, rfl, e2, e3⟩
    | false =>
      rw [if_pos rfl, if_neg (show ¬ (false = true) by decide)]
      obtain ⟨μ1, e1, e2, e3⟩ := pop_c N h (by omega)
      have ht : k.tail.length < 121 := by rw [List.length_tail]; omega
      by_cases c3 : s = -33
      · rw [if_pos c3, if_pos c3, e1, bd_some]
        by_cases d : k.headD 0 = 0
        · rw [if_pos d, if_pos d]
          obtain ⟨μ2, g1, g2, g3⟩ := push_c N e2 ht 1
          rw [g1]; exact ⟨μ2, rfl, g2, e3.tr g3⟩
        · rw [if_neg d, if_neg d]
          obtain ⟨μ2, g1, g2, g3⟩ := push_c N e2 ht 0
          rw [g1]; exact ⟨μ2, rfl, g2, e3.tr g3⟩
      · rw [if_neg c3, if_neg c3]
        by_cases c4 : s = -126
        · rw [if_pos c4, if_pos c4, e1, bd_some]
          obtain ⟨μ2, g1, g2, g3⟩ := push_c N e2 ht (-(k.headD 0))
          rw [g1]; exact ⟨μ2, rfl, g2, e3.tr g3⟩
        · rw [if_neg c4, if_neg c4, e1, bd_some]
          obtain ⟨μ2, g1, g2, g3⟩ := pop_c N e2 (by omega)
          have ht2 : k.tail.tail.length < 121 := by rw [List.length_tail]; omega
          obtain ⟨μ3, k1, k2, k3⟩ := push_c N g2 ht2 (jn (-s) (k.tail.headD 0) (k.headD 0))
          rw [g1, bd_some, joined_c, bd_some, k1]
          exact ⟨μ3, rfl, k2, (e3.tr g3).tr k3⟩
  · rw [if_neg c1, if_neg c1]
    obtain ⟨μ1, e1, e2, e3⟩ := push_c N h hk s
    rw [e1]; exact ⟨μ1, rfl, e2, e3⟩
theorem cw_lp (N : Nat) {env : Nat → Int32} {st : List Int32} {w : Nat} (hw : w < 4) (hst : st.length ≤ 121) {μ0 : am_M} (hz : μ0.1 65 0 w = nI st.length) (hs : ∀ j, j < st.length → μ0.1 364 w j = st.getD j 0) (hE : EK env μ0) :
    ∀ (n m i : Nat) (ps : Bool) (k : List Int32) (μ : am_M), i + n = st.length → n + 1 ≤ m → k.length ≤ i → fr p_ev μ0 μ → SK μ k → ∃ μ', f_X8_workOut_25_lp N m (nI w) (b2 ps) (nI i) μ = some (wo env (st.drop i) ps k, μ') ∧ fr p_ev μ0 μ'
  | n, 0, i, ps, k, μ, h1, h2, h3, h4, h5 => by omega
  | n, m + 1, i, ps, k, μ, h1, h2, h3, h4, h5 => by
    unfold f_X8_workOut_25_lp f_X8_workOut_25 f_X8_workOut_85 f_X8_workOut_99
    have e65 : μ.1 65 0 w = nI st.length := (h4.1 65 0 w rfl).trans hz
    simp (disch := omega) only [gd_nI, e65, nI_leI]
    cases n with
    | zero =>
      rw [if_pos (by omega), List.drop_eq_nil_of_le (by omega)]
      exact ⟨μ, rfl, h4⟩
    | succ n =>
      rw [if_neg (by omega)]
      simp (disch := omega) only [gd_nI, am_nm, nI_1, b2_00]
      have hi : i < st.length := by omega
      have e364 : μ.1 364 w i = st[i] := by
        rw [h4.1 364 w i rfl, hs i hi, List.getD_eq_getElem?_getD, List.getElem?_eq_getElem hi]; rfl
      have hd : st.drop i = st[i] :: st.drop (i + 1) := (List.getElem_cons_drop hi).symm
      rw [e364, hd]
      obtain ⟨s, hs'⟩ : ∃ s, s = st[i] := ⟨_, rfl⟩
      rw [← hs']
      obtain ⟨μ1, e1, e2, e3⟩ := pop_c N h5 (by omega)
      have e59 : (-nI 59 : Int32) = -59 := by decide
      unfold wo
      by_cases c1 : s = -59
      · rw [if_pos c1, if_pos c1]
        cases ps with
        | false =>
          rw [if_pos rfl, if_pos rfl, e1, bd_some]
          exact ⟨μ1, rfl, h4.tr e3⟩
        | true =>
          rw [if_neg (by decide), if_neg (by decide)]
          exact cw_lp N hw hst hz hs hE n m (i + 1) false k μ (by omega) (by omega) (by omega) h4 h5
      · rw [if_neg c1, if_neg c1]
        by_cases c2 : s = -63
        · rw [if_pos c2, if_pos c2, e1, bd_some]
          have ih := fun ps => cw_lp N hw hst hz hs hE n m (i + 1) ps k.tail μ1 (by omega) (by omega) (by rw [List.length_tail]; omega) (h4.tr e3) e2
          by_cases d : k.headD 0 = 0
          · rw [if_pos d, decide_eq_true d]
            exact ih true
          · rw [if_neg d, decide_eq_false d]
            exact ih false
        · rw [if_neg c2, if_neg c2]
          cases ps with
          | false =>
            rw [if_pos rfl, if_pos rfl]
            obtain ⟨μ2, g1, g2, g3⟩ := doStep_c N h5 (by omega) (hE.of h4) s
            rw [g1, bd_some]
            exact cw_lp N hw hst hz hs hE n m (i + 1) false _ μ2 (by omega) (by omega) (by have := pz_do_len env s k; omega) (h4.tr g3) g2
          | true =>
            rw [if_neg (by decide), if_neg (by decide)]
            exact cw_lp N hw hst hz hs hE n m (i + 1) true k μ (by omega) (by omega) (by omega) h4 h5
/-- workOut of the class -/
theorem work_c (N : Nat) (hN : 130 ≤ N) {env : Nat → Int32} {st : List Int32} {w W : Nat} (hw : w < W) (hW : W ≤ 4) (hst : st.length ≤ 121) {μ : am_M} (hc : μ.1 4 0 2 = nI W) (hz : μ.1 65 0 w = nI st.length) (hs : ∀ j, j < st.length → μ.1 364 w j = st.getD j 0) (hE : EK env μ) : ∃ μ', f_X8_workOut N (nI w) μ = some (wo env st false [], μ') ∧ fr p_ev μ μ' := by
  unfold f_X8_workOut f_X8_workOut_0
  rw [hc, w_cls, bd_some]
  simp (disch := omega) only [li_0, li_1, li_2, li_3, li_4, li_5, li_6, li_7, li_8, li_9, li_10, li_11, li_12, li_13, li_14, li_15, li_16, li_17, li_18, li_19, li_20, li_21, li_22, li_23, li_24, li_25, li_26, li_27, li_28, li_29, li_30, li_31, li_32, li_33, li_34, li_35, li_36, li_37, li_38, li_39, li_40, li_41, li_42, li_43, li_44, li_45, li_46, li_47, li_48, li_49, li_50, li_51, li_52, li_53, li_54, li_55, li_56, li_57, li_58, li_59, li_60, li_61, li_62, li_63, li_64, li_65, li_66, li_67, li_68, li_69, li_70, li_71, li_72, li_73, li_74, li_75, li_76, li_77, li_78, li_79, li_80, li_81, li_82, li_83, li_84, li_85, li_86, li_87, li_88, li_89, li_90, li_91, li_92, li_93, li_94, li_95, li_96, li_97, li_98, li_99, li_100, li_101, li_102, li_103, li_104, li_105, li_106, li_107, li_108, li_109, li_110, li_111, li_112, li_113, li_114, li_115, li_116, li_117, li_118, li_119, li_120, li_121, li_122, li_123, li_124, li_125, li_126, li_127, li_128, li_129, li_130, li_255, li_259, li_360, li_480, li_900, li_999, li_1000, li_1782, li_1783, li_9999, li_1000000000, pk_sub, nI_leI, b_eq0]
  rw [if_neg (by omega)]
  simp only [am_nm]
  have hF : fr p_ev μ (am_ui μ 4 0 5 (nI 0)) := fr.rf.ui rfl
  obtain ⟨μ', e1, e2⟩ := cw_lp N (st := st) (w := w) (by omega) hst ((hF.1 65 0 w rfl).trans hz) (fun j hj => (hF.1 364 w j rfl).trans (hs j hj)) (hE.of hF) st.length N 0 false [] _ (by omega) (by omega) (by simp) fr.rf ⟨by simp [ui1], fun j hj => by simp at hj⟩
  exact ⟨μ', e1, hF.tr e2⟩
