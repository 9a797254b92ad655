/-! frames: what a stretch may change -/
theorem gD_l {α : Type} {a b : List α} {i : Nat} {d : α} (h : i < a.length) : (a ++ b).getD i d = a.getD i d := by
  rw [List.getD_eq_getElem?_getD, List.getD_eq_getElem?_getD, List.getElem?_append_left h]
theorem gD_r {α : Type} {a b : List α} {i : Nat} {d : α} (h : a.length ≤ i) : (a ++ b).getD i d = b.getD (i - a.length) d := by
  rw [List.getD_eq_getElem?_getD, List.getD_eq_getElem?_getD, List.getElem?_append_right h]
def fr (P : Nat → Nat → Bool) (μ μ' : am_M) : Prop := (∀ k r i, P k i = false → μ'.1 k r i = μ.1 k r i) ∧ μ'.2 = μ.2
theorem fr.rf {P : Nat → Nat → Bool} {μ : am_M} : fr P μ μ := ⟨fun _ _ _ _ => rfl, rfl⟩
theorem fr.tr {P : Nat → Nat → Bool} {μ μ1 μ2 : am_M} (h : fr P μ μ1) (h2 : fr P μ1 μ2) : fr P μ μ2 := ⟨fun k r i q => (h2.1 k r i q).trans (h.1 k r i q), h2.2.trans h.2⟩
theorem fr.mono {P Q : Nat → Nat → Bool} {μ μ1 : am_M} (h : fr P μ μ1) (hq : ∀ k i, Q k i = false → P k i = false) : fr Q μ μ1 := ⟨fun k r i q => h.1 k r i (hq k i q), h.2⟩
theorem fr.ui {P : Nat → Nat → Bool} {μ μ1 : am_M} (h : fr P μ μ1) {k r i : Nat} {x : Int32} (hp : P k i = true) : fr P μ (am_ui μ1 k r i x) := by
  refine ⟨fun a b c q => ?_, h.2⟩
  rw [ui1, if_neg (fun e => by rw [e.1, e.2.2, hp] at q; cases q)]
  exact h.1 a b c q
def b2 (b : Bool) : Int32 := if b = true then nI 1 else nI 0
theorem b2_z (b : Bool) (μ : am_M) : am_z (b2 b) μ = some (b2 b, μ) := by cases b; exact z_0 μ; exact z_1 μ
theorem b2_0 (b : Bool) : (b2 b = nI 0) ↔ b = false := by cases b; exact ⟨fun _ => rfl, fun _ => rfl⟩; exact ⟨fun h => absurd h (by decide), fun h => by cases h⟩
def p_tape (k i : Nat) : Bool := (k == 3 && (i == 2 || i == 4)) || k == 51
/-- the class's tape: L bytes, read up to p, w steps written -/
def TP (L : Nat) (by_ : Nat → Nat) (μ : am_M) (p w : Nat) : Prop := μ.1 3 0 1 = nI L ∧ L ≤ 120 ∧ (∀ j, j < L → μ.1 48 0 j = nI (by_ j) ∧ by_ j < 256) ∧ μ.1 3 0 2 = nI p ∧ p ≤ L ∧ μ.1 3 0 4 = nI w ∧ w ≤ 121
def SP (μ : am_M) (w : Nat) (μ' : am_M) (w' : Nat) (st : List Int32) : Prop := w + st.length ≤ 121 → w' = w + st.length ∧ ∀ j, j < w' → μ'.1 51 0 j = if j < w then μ.1 51 0 j else st.getD (j - w) 0
theorem SP.rf {μ : am_M} {w : Nat} : SP μ w μ w [] := fun _ => ⟨rfl, fun j hj => by rw [if_pos hj]⟩
theorem SP.tr {μ μ1 μ2 : am_M} {w w1 w2 : Nat} {s1 s2 : List Int32} (h1 : SP μ w μ1 w1 s1) (h2 : SP μ1 w1 μ2 w2 s2) : SP μ w μ2 w2 (s1 ++ s2) := by
  intro hl
  rw [List.length_append] at hl ⊢
  obtain ⟨a1, a2⟩ := h1 (by omega)
  obtain ⟨b1, b2⟩ := h2 (by omega)
  refine ⟨by omega, fun j hj => ?_⟩
  rw [b2 j hj]
  by_cases c : j < w1
  · rw [if_pos c, a2 j c]
    by_cases c2 : j < w
    · rw [if_pos c2, if_pos c2]
    · rw [if_neg c2, if_neg c2, gD_l (by omega)]
  · rw [if_neg c, if_neg (by omega), gD_r (by omega)]
    congr 1
    omega
def chL (L : Nat) (by_ : Nat → Nat) (p : Nat) : Nat := if p < L then by_ p else 0
theorem chL_0 {L : Nat} {by_ : Nat → Nat} : ∀ p, L ≤ p → chL L by_ p = 0 := fun p h => if_neg (by omega)
/-- what here() gives -/
def hvL (L : Nat) (by_ : Nat → Nat) (p : Nat) : Int32 := if p < L then nI (by_ p) else -1
theorem here_c (N : Nat) {L : Nat} {by_ : Nat → Nat} {μ : am_M} {p w : Nat} (h : TP L by_ μ p w) : f_X6_here N μ = some (hvL L by_ p, μ) := by
  obtain ⟨h1, h2, h3, h4, h5, h6, h7⟩ := h
  unfold f_X6_here f_X6_here_0 hvL
  rw [h1, h4]
  by_cases c : p < L
  · simp (disch := omega) only [li_0, li_1, li_2, li_3, li_4, li_5, li_6, li_7, li_8, li_9, li_10, li_11, li_12, li_13, li_14, li_15, li_16, li_17, li_18, li_19, li_20, li_21, li_22, li_23, li_24, li_25, li_26, li_27, li_28, li_29, li_30, li_31, li_32, li_33, li_34, li_35, li_36, li_37, li_38, li_39, li_40, li_41, li_42, li_43, li_44, li_45, li_46, li_47, li_48, li_49, li_50, li_51, li_52, li_53, li_54, li_55, li_56, li_57, li_58, li_59, li_60, li_61, li_62, li_63, li_64, li_65, li_66, li_67, li_68, li_69, li_70, li_71, li_72, li_73, li_74, li_75, li_76, li_77, li_78, li_79, li_80, li_81, li_82, li_83, li_84, li_85, li_86, li_87, li_88, li_89, li_90, li_91, li_92, li_93, li_94, li_95, li_96, li_97, li_98, li_99, li_100, li_101, li_102, li_103, li_104, li_105, li_106, li_107, li_108, li_109, li_110, li_111, li_112, li_113, li_114, li_115, li_116, li_117, li_118, li_119, li_120, li_121, li_122, li_123, li_124, li_125, li_126, li_127, li_128, li_129, li_130, li_255, li_259, li_360, li_480, li_900, li_999, li_1000, li_1782, li_1783, li_9999, li_1000000000, nI_leI, gd_nI]
    rw [if_neg (by omega), if_neg (by omega), if_pos c, (h3 p c).1]
  · simp (disch := omega) only [li_0, li_1, li_2, li_3, li_4, li_5, li_6, li_7, li_8, li_9, li_10, li_11, li_12, li_13, li_14, li_15, li_16, li_17, li_18, li_19, li_20, li_21, li_22, li_23, li_24, li_25, li_26, li_27, li_28, li_29, li_30, li_31, li_32, li_33, li_34, li_35, li_36, li_37, li_38, li_39, li_40, li_41, li_42, li_43, li_44, li_45, li_46, li_47, li_48, li_49, li_50, li_51, li_52, li_53, li_54, li_55, li_56, li_57, li_58, li_59, li_60, li_61, li_62, li_63, li_64, li_65, li_66, li_67, li_68, li_69, li_70, li_71, li_72, li_73, li_74, li_75, li_76, li_77, li_78, li_79, li_80, li_81, li_82, li_83, li_84, li_85, li_86, li_87, li_88, li_89, li_90, li_91, li_92, li_93, li_94, li_95, li_96, li_97, li_98, li_99, li_100, li_101, li_102, li_103, li_104, li_105, li_106, li_107, li_108, li_109, li_110, li_111, li_112, li_113, li_114, li_115, li_116, li_117, li_118, li_119, li_120, li_121, li_122, li_123, li_124, li_125, li_126, li_127, li_128, li_129, li_130, li_255, li_259, li_360, li_480, li_900, li_999, li_1000, li_1782, li_1783, li_9999, li_1000000000, nI_leI]
    rw [if_pos (by omega), if_neg c]
theorem hv_eq {L : Nat} {by_ : Nat → Nat} {μ : am_M} {p w : Nat} (h : TP L by_ μ p w) {c : Nat} (hc : c < 256) (h0 : c ≠ 0) : (hvL L by_ p = nI c) ↔ chL L by_ p = c := by
  unfold hvL chL
  by_cases q : p < L
  · rw [if_pos q, if_pos q, nI_eq (by have := (h.2.2.1 p q).2; omega) (by omega)]
  · rw [if_neg q, if_neg q]
    exact ⟨fun e => absurd (nI_pos' (n := c) (by omega)) (by rw [← e]; decide), fun e => absurd e.symm h0⟩
theorem ch_lt {L : Nat} {by_ : Nat → Nat} {μ : am_M} {p w : Nat} (h : TP L by_ μ p w) (p' : Nat) : chL L by_ p' < 256 := by
  unfold chL
  by_cases q : p' < L
  · rw [if_pos q]; exact (h.2.2.1 p' q).2
  · rw [if_neg q]; decide
theorem hv_rng {L : Nat} {by_ : Nat → Nat} {μ : am_M} {p w : Nat} (h : TP L by_ μ p w) : (nI 48 ≤ hvL L by_ p ∧ hvL L by_ p ≤ nI 57) ↔ (48 ≤ chL L by_ p ∧ chL L by_ p ≤ 57) := by
  unfold hvL chL
  by_cases q : p < L
  · have := (h.2.2.1 p q).2
    rw [if_pos q, if_pos q, nI_leI (by omega) (by omega), nI_leI (by omega) (by omega)]
  · rw [if_neg q, if_neg q]
    exact ⟨fun e => absurd e.1 (by decide), fun e => absurd e.1 (by omega)⟩
theorem hv_nI {L : Nat} {by_ : Nat → Nat} {p : Nat} (h : chL L by_ p ≠ 0) : hvL L by_ p = nI (chL L by_ p) := by
  unfold hvL chL at *
  by_cases q : p < L
  · rw [if_pos q, if_pos q]
  · rw [if_neg q] at h; exact absurd rfl h
def is_nm (x : Int32) : Bool := if x = 98 then true else if x = 99 then true else if x = 100 then false else if x = 101 then false else if x = 102 then false else if x = 103 then false else if x = 104 then false else if x = 105 then false else if x = 106 then false else if x = 107 then true else if x = 108 then false else if x = 109 then false else if x = 110 then true else if x = 111 then false else if x = 112 then true else if x = 113 then false else if x = 114 then false else if x = 115 then true else if x = 116 then true else false
set_option maxHeartbeats 1000000 in
theorem isName_c (N : Nat) (x : Int32) (μ : am_M) : f_X6_isName N x μ = some (b2 (is_nm x), μ) := by
  unfold f_X6_isName f_X6_isName_0 is_nm
  by_cases h98 : x = 98
  · rw [if_pos h98, if_pos h98]; exact z_1 μ
  rw [if_neg h98, if_neg h98]
  by_cases h99 : x = 99
  · rw [if_pos h99, if_pos h99]; exact z_1 μ
  rw [if_neg h99, if_neg h99]
  by_cases h100 : x = 100
  · rw [if_pos h100, if_pos h100]; exact z_0 μ
  rw [if_neg h100, if_neg h100]
  by_cases h101 : x = 101
  · rw [if_pos h101, if_pos h101]; exact z_0 μ
  rw [if_neg h101, if_neg h101]
  by_cases h102 : x = 102
  · rw [if_pos h102, if_pos h102]; exact z_0 μ
  rw [if_neg h102, if_neg h102]
  by_cases h103 : x = 103
  · rw [if_pos h103, if_pos h103]; exact z_0 μ
  rw [if_neg h103, if_neg h103]
  by_cases h104 : x = 104
  · rw [if_pos h104, if_pos h104]; exact z_0 μ
  rw [if_neg h104, if_neg h104]
  by_cases h105 : x = 105
  · rw [if_pos h105, if_pos h105]; exact z_0 μ
  rw [if_neg h105, if_neg h105]
  by_cases h106 : x = 106
  · rw [if_pos h106, if_pos h106]; exact z_0 μ
  rw [if_neg h106, if_neg h106]
  by_cases h107 : x = 107
  · rw [if_pos h107, if_pos h107]; exact z_1 μ
  rw [if_neg h107, if_neg h107]
  by_cases h108 : x = 108
  · rw [if_pos h108, if_pos h108]; exact z_0 μ
  rw [if_neg h108, if_neg h108]
  by_cases h109 : x = 109
  · rw [if_pos h109, if_pos h109]; exact z_0 μ
  rw [if_neg h109, if_neg h109]
  by_cases h110 : x = 110
  · rw [if_pos h110, if_pos h110]; exact z_1 μ
  rw [if_neg h110, if_neg h110]
  by_cases h111 : x = 111
  · rw [if_pos h111, if_pos h111]; exact z_0 μ
  rw [if_neg h111, if_neg h111]
  by_cases h112 : x = 112
  · rw [if_pos h112, if_pos h112]; exact z_1 μ
  rw [if_neg h112, if_neg h112]
  by_cases h113 : x = 113
  · rw [if_pos h113, if_pos h113]; exact z_0 μ
  rw [if_neg h113, if_neg h113]
  by_cases h114 : x = 114
  · rw [if_pos h114, if_pos h114]; exact z_0 μ
  rw [if_neg h114, if_neg h114]
  by_cases h115 : x = 115
  · rw [if_pos h115, if_pos h115]; exact z_1 μ
  rw [if_neg h115, if_neg h115]
  by_cases h116 : x = 116
  · rw [if_pos h116, if_pos h116]; exact z_1 μ
  rw [if_neg h116, if_neg h116]
  exact z_0 μ
theorem nm_nI : ∀ c, c < 256 → is_nm (nI c) = pz_nm c := by decide +kernel
theorem isName_h (N : Nat) {L : Nat} {by_ : Nat → Nat} {μ : am_M} {p w : Nat} (h : TP L by_ μ p w) : f_X6_isName N (hvL L by_ p) μ = some (b2 (pz_nm (chL L by_ p)), μ) := by
  rw [isName_c]
  by_cases c : chL L by_ p = 0
  · have e : is_nm (hvL L by_ p) = pz_nm (chL L by_ p) := by
      unfold hvL chL at *
      by_cases q : p < L
      · rw [if_pos q] at c ⊢; rw [if_pos q, c]; decide
      · rw [if_neg q, if_neg q]; decide
    rw [e]
  · rw [hv_nI c, nm_nI _ (ch_lt h p)]
def lv_of (x : Int32) : Int32 := if x = 37 then 4 else if x = 38 then 1 else if x = 42 then 4 else if x = 43 then 3 else if x = 45 then 3 else if x = 47 then 4 else if x = 60 then 2 else if x = 61 then 2 else if x = 62 then 2 else if x = 124 then 0 else -1
theorem levelOf_c (N : Nat) (x : Int32) (μ : am_M) : f_X6_levelOf N x μ = some (lv_of x, μ) := by
  unfold f_X6_levelOf f_X6_levelOf_0 lv_of
  repeat' split
  all_goals rfl
theorem lv_nI : ∀ lev, lev < 5 → ∀ c, c < 256 → ((lv_of (nI c) = nI lev) ↔ pz_lv c = lev) := by decide +kernel
theorem lv_h {L : Nat} {by_ : Nat → Nat} {μ : am_M} {p w : Nat} (h : TP L by_ μ p w) {lev : Nat} (hl : lev < 5) : (lv_of (hvL L by_ p) = nI lev) ↔ pz_lv (chL L by_ p) = lev := by
  by_cases c : chL L by_ p = 0
  · have e : lv_of (hvL L by_ p) = -1 := by
      unfold hvL chL at *
      by_cases q : p < L
      · rw [if_pos q] at c ⊢; rw [c]; decide
      · rw [if_neg q]; decide
    rw [e, c]
    exact ⟨fun q => absurd (nI_pos' (n := lev) (by omega)) (by rw [← q]; decide), fun q => by have : pz_lv 0 = 9 := rfl; omega⟩
  · rw [hv_nI c, lv_nI lev hl _ (ch_lt h p)]
theorem write_c (N : Nat) {L : Nat} {by_ : Nat → Nat} {μ : am_M} {p w : Nat} (h : TP L by_ μ p w) (x : Int32) : ∃ (μ' : am_M) (w' : Nat), f_X6_write N x μ = some ((), μ') ∧ fr p_tape μ μ' ∧ TP L by_ μ' p w' ∧ SP μ w μ' w' [x] := by
  obtain ⟨h1, h2, h3, h4, h5, h6, h7⟩ := h
  unfold f_X6_write f_X6_write_0
  rw [h6]
  by_cases c : w < 121
  · refine ⟨am_ui (am_ui μ 51 0 w x) 3 0 4 (nI (w + 1)), w + 1, ?_, (fr.rf.ui rfl).ui rfl, ⟨?_, h2, ?_, ?_, h5, ?_, c⟩, ?_⟩
    · simp (disch := omega) only [li_0, li_1, li_2, li_3, li_4, li_5, li_6, li_7, li_8, li_9, li_10, li_11, li_12, li_13, li_14, li_15, li_16, li_17, li_18, li_19, li_20, li_21, li_22, li_23, li_24, li_25, li_26, li_27, li_28, li_29, li_30, li_31, li_32, li_33, li_34, li_35, li_36, li_37, li_38, li_39, li_40, li_41, li_42, li_43, li_44, li_45, li_46, li_47, li_48, li_49, li_50, li_51, li_52, li_53, li_54, li_55, li_56, li_57, li_58, li_59, li_60, li_61, li_62, li_63, li_64, li_65, li_66, li_67, li_68, li_69, li_70, li_71, li_72, li_73, li_74, li_75, li_76, li_77, li_78, li_79, li_80, li_81, li_82, li_83, li_84, li_85, li_86, li_87, li_88, li_89, li_90, li_91, li_92, li_93, li_94, li_95, li_96, li_97, li_98, li_99, li_100, li_101, li_102, li_103, li_104, li_105, li_106, li_107, li_108, li_109, li_110, li_111, li_112, li_113, li_114, li_115, li_116, li_117, li_118, li_119, li_120, li_121, li_122, li_123, li_124, li_125, li_126, li_127, li_128, li_129, li_130, li_255, li_259, li_360, li_480, li_900, li_999, li_1000, li_1782, li_1783, li_9999, li_1000000000, nI_leI, gd_nI, am_nm]
      rw [if_neg (by omega)]
      simp [ui1, h6, nI_1, li_1, nI_add]
    · simp [ui1, h1]
    · intro j hj; simp [ui1]; exact h3 j hj
    · simp [ui1, h4]
    · simp [ui1]
    · intro _
      refine ⟨rfl, fun j hj => ?_⟩
      by_cases c2 : j < w
      · rw [if_pos c2]; simp [ui1]; omega
      · rw [if_neg c2]
        have : j = w := by omega
        subst this
        simp [ui1]
  · refine ⟨μ, w, ?_, fr.rf, ⟨h1, h2, h3, h4, h5, h6, h7⟩, ?_⟩
    · simp (disch := omega) only [li_0, li_1, li_2, li_3, li_4, li_5, li_6, li_7, li_8, li_9, li_10, li_11, li_12, li_13, li_14, li_15, li_16, li_17, li_18, li_19, li_20, li_21, li_22, li_23, li_24, li_25, li_26, li_27, li_28, li_29, li_30, li_31, li_32, li_33, li_34, li_35, li_36, li_37, li_38, li_39, li_40, li_41, li_42, li_43, li_44, li_45, li_46, li_47, li_48, li_49, li_50, li_51, li_52, li_53, li_54, li_55, li_56, li_57, li_58, li_59, li_60, li_61, li_62, li_63, li_64, li_65, li_66, li_67, li_68, li_69, li_70, li_71, li_72, li_73, li_74, li_75, li_76, li_77, li_78, li_79, li_80, li_81, li_82, li_83, li_84, li_85, li_86, li_87, li_88, li_89, li_90, li_91, li_92, li_93, li_94, li_95, li_96, li_97, li_98, li_99, li_100, li_101, li_102, li_103, li_104, li_105, li_106, li_107, li_108, li_109, li_110, li_111, li_112, li_113, li_114, li_115, li_116, li_117, li_118, li_119, li_120, li_121, li_122, li_123, li_124, li_125, li_126, li_127, li_128, li_129, li_130, li_255, li_259, li_360, li_480, li_900, li_999, li_1000, li_1782, li_1783, li_9999, li_1000000000, nI_leI]
      rw [if_pos (by omega)]
    · intro q; simp at q; omega
theorem adv_c {L : Nat} {by_ : Nat → Nat} {μ : am_M} {p w : Nat} (h : TP L by_ μ p w) (hp : p < L) : TP L by_ (am_ui μ 3 0 2 (μ.1 3 0 2 + 1)) (p + 1) w ∧ fr p_tape μ (am_ui μ 3 0 2 (μ.1 3 0 2 + 1)) ∧ SP μ w (am_ui μ 3 0 2 (μ.1 3 0 2 + 1)) w [] := by
  obtain ⟨h1, h2, h3, h4, h5, h6, h7⟩ := h
  refine ⟨⟨?_, h2, ?_, ?_, hp, ?_, h7⟩, fr.rf.ui rfl, ?_⟩
  · simp [ui1, h1]
  · intro j hj; simp [ui1]; exact h3 j hj
  · simp [ui1, h4, nI_1]
  · simp [ui1, h6]
  · intro _
    refine ⟨rfl, fun j hj => ?_⟩
    rw [if_pos hj]; simp [ui1]
theorem num_lp (N : Nat) {L : Nat} {by_ : Nat → Nat} : ∀ (n m v t : Nat) (μ : am_M) (p w : Nat), n + t = 4 → n + 1 ≤ m → v + 1 ≤ 10 ^ t → TP L by_ μ p w → ∃ (μ' : am_M) (w' : Nat), f_X6_readNumber_4_lp N m (nI v) (nI t) μ = some ((), μ') ∧ fr p_tape μ μ' ∧ TP L by_ μ' (pz_dg (chL L by_) n v p).2 w' ∧ SP μ w μ' w' [nI (pz_dg (chL L by_) n v p).1]
  | n, m + 1, v, t, μ, p, w, ht, hm, hv, h => by
    unfold f_X6_readNumber_4_lp f_X6_readNumber_4
    cases n with
    | zero =>
      simp (disch := omega) only [li_0, li_1, li_2, li_3, li_4, li_5, li_6, li_7, li_8, li_9, li_10, li_11, li_12, li_13, li_14, li_15, li_16, li_17, li_18, li_19, li_20, li_21, li_22, li_23, li_24, li_25, li_26, li_27, li_28, li_29, li_30, li_31, li_32, li_33, li_34, li_35, li_36, li_37, li_38, li_39, li_40, li_41, li_42, li_43, li_44, li_45, li_46, li_47, li_48, li_49, li_50, li_51, li_52, li_53, li_54, li_55, li_56, li_57, li_58, li_59, li_60, li_61, li_62, li_63, li_64, li_65, li_66, li_67, li_68, li_69, li_70, li_71, li_72, li_73, li_74, li_75, li_76, li_77, li_78, li_79, li_80, li_81, li_82, li_83, li_84, li_85, li_86, li_87, li_88, li_89, li_90, li_91, li_92, li_93, li_94, li_95, li_96, li_97, li_98, li_99, li_100, li_101, li_102, li_103, li_104, li_105, li_106, li_107, li_108, li_109, li_110, li_111, li_112, li_113, li_114, li_115, li_116, li_117, li_118, li_119, li_120, li_121, li_122, li_123, li_124, li_125, li_126, li_127, li_128, li_129, li_130, li_255, li_259, li_360, li_480, li_900, li_999, li_1000, li_1782, li_1783, li_9999, li_1000000000, nI_leI]
      rw [if_pos (by omega)]
      unfold f_X6_readNumber_52
      obtain ⟨μ1, w1, e1, e2, e3, e4⟩ := write_c N h (nI v)
      rw [e1]
      exact ⟨μ1, w1, rfl, e2, e3, e4⟩
    | succ n =>
      simp (disch := omega) only [li_0, li_1, li_2, li_3, li_4, li_5, li_6, li_7, li_8, li_9, li_10, li_11, li_12, li_13, li_14, li_15, li_16, li_17, li_18, li_19, li_20, li_21, li_22, li_23, li_24, li_25, li_26, li_27, li_28, li_29, li_30, li_31, li_32, li_33, li_34, li_35, li_36, li_37, li_38, li_39, li_40, li_41, li_42, li_43, li_44, li_45, li_46, li_47, li_48, li_49, li_50, li_51, li_52, li_53, li_54, li_55, li_56, li_57, li_58, li_59, li_60, li_61, li_62, li_63, li_64, li_65, li_66, li_67, li_68, li_69, li_70, li_71, li_72, li_73, li_74, li_75, li_76, li_77, li_78, li_79, li_80, li_81, li_82, li_83, li_84, li_85, li_86, li_87, li_88, li_89, li_90, li_91, li_92, li_93, li_94, li_95, li_96, li_97, li_98, li_99, li_100, li_101, li_102, li_103, li_104, li_105, li_106, li_107, li_108, li_109, li_110, li_111, li_112, li_113, li_114, li_115, li_116, li_117, li_118, li_119, li_120, li_121, li_122, li_123, li_124, li_125, li_126, li_127, li_128, li_129, li_130, li_255, li_259, li_360, li_480, li_900, li_999, li_1000, li_1782, li_1783, li_9999, li_1000000000, nI_leI, here_c N h, bd_some, w_cls]
      rw [if_neg (by omega)]
      by_cases c : 48 ≤ chL L by_ p ∧ chL L by_ p ≤ 57
      · have hp := pz_lt (p := p) (chL_0 (L := L) (by_ := by_)) (by omega)
        have hv4 : 10 ^ t ≤ 1000 := by
          have : t ≤ 3 := by omega
          exact Nat.le_trans (Nat.pow_le_pow_right (by decide) this) (by decide)
        obtain ⟨a1, a2, a3⟩ := adv_c h hp
        rw [if_pos ((hv_rng h).mpr c), if_neg (by decide), hv_nI (by omega)]
        have ev : nI v * nI 10 + nI (chL L by_ p) - nI 48 = nI (v * 10 + (chL L by_ p - 48)) := by
          have hc := ch_lt h p
          rw [pk_mul, nI_add, pk_sub (by omega)]
          congr 1; omega
        simp only [am_nm, li_48, li_10, ev, li_1, nI_add] at a1 a2 a3 ⊢
        have e10 : 10 ^ (t + 1) = 10 ^ t * 10 := Nat.pow_succ ..
        obtain ⟨μ1, w1, e1, e2, e3, e4⟩ := num_lp N n m (v * 10 + (chL L by_ p - 48)) (t + 1) _ (p + 1) w (by omega) (by omega) (by omega) a1
        refine ⟨μ1, w1, e1, a2.tr e2, ?_, ?_⟩
        · unfold pz_dg; rw [if_pos c]; exact e3
        · have := a3.tr e4
          unfold pz_dg; rw [if_pos c]; exact this
      · rw [if_neg (fun q => c ((hv_rng h).mp q)), if_pos rfl]
        unfold f_X6_readNumber_52
        obtain ⟨μ1, w1, e1, e2, e3, e4⟩ := write_c N h (nI v)
        rw [e1]
        refine ⟨μ1, w1, rfl, e2, ?_, ?_⟩
        · unfold pz_dg; rw [if_neg c]; exact e3
        · unfold pz_dg; rw [if_neg c]; exact e4
  | n, 0, v, t, μ, p, w, ht, hm, hv, h => by omega
