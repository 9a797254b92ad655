/-! what stands, as numbers; both sides' worth of one -/
abbrev tx_T : Type := Nat × (Nat → Nat)
def tx_s (x : tx_T) : List Int32 := (pz_t (chL x.1 x.2)).2.2
def tx_ok (x : tx_T) : Prop := x.1 ≤ 120 ∧ (∀ j, j < x.1 → x.2 j < 256) ∧ ((pz_t (chL x.1 x.2)).1 && (pz_t (chL x.1 x.2)).2.1 == x.1) = true
theorem tx_len {x : tx_T} (h : tx_ok x) : (tx_s x).length ≤ 121 := by
  have h1 := h.2.2
  simp only [Bool.and_eq_true] at h1
  have := (pz_t_ok (chL_0 (L := x.1) (by_ := x.2))).2 h1.1
  have := h.1
  unfold tx_s
  omega
def BD (T S : Nat) (a : Nat → Nat → Nat) (W : Nat) : Prop := T ≤ 6 ∧ S ≤ 5 ∧ W ≤ 4 ∧ (∀ i, a 0 i ≤ 999 ∧ a 1 i ≤ 99 ∧ a 2 i ≤ 99 ∧ a 3 i ≤ 99 ∧ a 4 i ≤ 99 ∧ a 5 i ≤ 99 ∧ a 6 i ≤ 99 ∧ a 7 i ≤ 3) ∧ (∀ s, s < S → 1 ≤ a 4 s ∧ a 8 s < W)
/-- the class's side -/
def Cv (μ : am_M) (T S : Nat) (a : Nat → Nat → Nat) (W : Nat) (tx : Nat → tx_T) : Prop := BD T S a W ∧ μ.1 1 0 1 = nI T ∧ μ.1 1 0 2 = nI S ∧ μ.1 4 0 2 = nI W ∧ (∀ c i, c ≤ 3 → i < T → μ.1 316 c i = nI (a c i)) ∧ (∀ c i, 4 ≤ c → c ≤ 8 → i < S → μ.1 316 c i = nI (a c i)) ∧ (∀ w, w < W → tx_ok (tx w) ∧ μ.1 65 0 w = nI (tx_s (tx w)).length ∧ ∀ j, j < (tx_s (tx w)).length → μ.1 364 w j = (tx_s (tx w)).getD j 0) ∧ (∀ t, t < 6 → μ.1 384 t 0 = nI 0)
def p_C (k i : Nat) : Bool := k == 5 || k == 6 || k == 7 || k == 67 || k == 68 || k == 82 || k == 83 || (k == 384 && i != 0) || k == 85 || k == 98 || k == 100 || k == 114 || (k == 4 && i == 5) || (k == 8 && (i == 4 || i == 5)) || (k == 3 && (i == 2 || i == 4)) || k == 51
theorem Cv.of {μ μ' : am_M} {T S : Nat} {a : Nat → Nat → Nat} {W : Nat} {tx : Nat → tx_T} (h : Cv μ T S a W tx) (hf : fr p_C μ μ') : Cv μ' T S a W tx := by
  obtain ⟨h1, h2, h3, h4, h5, h6, h7, h8⟩ := h
  exact ⟨h1, (hf.1 1 0 1 rfl).trans h2, (hf.1 1 0 2 rfl).trans h3, (hf.1 4 0 2 rfl).trans h4, fun c i hc hi => (hf.1 316 c i rfl).trans (h5 c i hc hi), fun c i hc hc2 hi => (hf.1 316 c i rfl).trans (h6 c i hc hc2 hi), fun w hw => ⟨(h7 w hw).1, (hf.1 65 0 w rfl).trans (h7 w hw).2.1, fun j hj => (hf.1 364 w j rfl).trans ((h7 w hw).2.2 j hj)⟩, fun t ht => (hf.1 384 t 0 rfl).trans (h8 t ht)⟩
/-- the reference's side -/
def Rv (μ : am_M) (T S : Nat) (a : Nat → Nat → Nat) (W : Nat) (tx : Nat → tx_T) : Prop := BD T S a W ∧ μ.1 10 0 6 = nI T ∧ μ.1 10 0 8 = nI S ∧ μ.1 10 0 15 = nI W ∧ (∀ i, i < T → μ.1 160 0 i = nI (a 0 i) ∧ μ.1 160 0 (6 + i) = nI (a 1 i) ∧ μ.1 160 0 (12 + i) = nI (a 2 i) ∧ μ.1 167 0 i = nI (a 3 i)) ∧ (∀ s, s < S → μ.1 169 0 s = nI (a 4 s) ∧ μ.1 160 0 (18 + s) = nI (a 5 s) ∧ μ.1 160 0 (23 + s) = nI (a 6 s) ∧ μ.1 170 0 s = nI (a 7 s) ∧ μ.1 171 0 s = nI (a 8 s)) ∧ (∀ w, w < W → tx_ok (tx w) ∧ μ.1 177 0 w = nI (tx w).1 ∧ ∀ j, j < (tx w).1 → μ.1 176 0 (120 * w + j) = nI ((tx w).2 j)) ∧ μ.1 10 0 29 = nI 100
def p_R (k i : Nat) : Bool := (k == 10 && (i == 18 || i == 19 || i == 20 || i == 21 || i == 22 || i == 26 || i == 27 || i == 28 || i == 30 || i == 31 || i == 32 || i == 35 || i == 36 || i == 37 || i == 38 || i == 42 || i == 43 || i == 49 || i == 50)) || k == 183 || k == 184 || k == 185 || k == 193 || k == 194 || k == 199 || k == 200 || k == 201 || k == 204
theorem Rv.of {μ μ' : am_M} {T S : Nat} {a : Nat → Nat → Nat} {W : Nat} {tx : Nat → tx_T} (h : Rv μ T S a W tx) (hf : fr p_R μ μ') : Rv μ' T S a W tx := by
  obtain ⟨h1, h2, h3, h4, h5, h6, h7, h8⟩ := h
  exact ⟨h1, (hf.1 10 0 6 rfl).trans h2, (hf.1 10 0 8 rfl).trans h3, (hf.1 10 0 15 rfl).trans h4, fun i hi => ⟨(hf.1 160 0 i rfl).trans (h5 i hi).1, (hf.1 160 0 _ rfl).trans (h5 i hi).2.1, (hf.1 160 0 _ rfl).trans (h5 i hi).2.2.1, (hf.1 167 0 i rfl).trans (h5 i hi).2.2.2⟩, fun s hs => ⟨(hf.1 169 0 s rfl).trans (h6 s hs).1, (hf.1 160 0 _ rfl).trans (h6 s hs).2.1, (hf.1 160 0 _ rfl).trans (h6 s hs).2.2.1, (hf.1 170 0 s rfl).trans (h6 s hs).2.2.2.1, (hf.1 171 0 s rfl).trans (h6 s hs).2.2.2.2⟩, fun w hw => ⟨(h7 w hw).1, (hf.1 177 0 w rfl).trans (h7 w hw).2.1, fun j hj => (hf.1 176 0 _ rfl).trans ((h7 w hw).2.2 j hj)⟩, (hf.1 10 0 29 rfl).trans h8⟩
/-! the worth of one -/
def en (s b n t k c p : Nat) : Nat → Int32 := fun z => if z = 115 then nI s else if z = 98 then nI b else if z = 110 then nI n else if z = 116 then nI t else if z = 107 then nI k else if z = 99 then nI c else nI p
def cl9 (v : Int32) : Nat := if v < 0 then 0 else if v ≤ 999 then v.toNatClampNeg else 999
theorem cl9_le (v : Int32) : cl9 v ≤ 999 := by
  unfold cl9
  by_cases c : v < 0
  · rw [if_pos c]; decide
  · rw [if_neg c]
    by_cases d : v ≤ 999
    · rw [if_pos d]
      obtain ⟨j, hj, e⟩ := nI_of c
      rw [e, nI_clamp hj]
      rw [e, li_999, nI_leI hj (by decide)] at d
      exact d
    · rw [if_neg d]; decide
theorem cl9_nI (v : Int32) (h0 : ¬ v < 0) (h : v ≤ 999) : nI (cl9 v) = v := by
  unfold cl9
  rw [if_neg h0, if_pos h]
  obtain ⟨j, hj, e⟩ := nI_of h0
  rw [e, nI_clamp hj]
def wv (x : tx_T) (s b n t k c p : Nat) : Nat := cl9 (wo (en s b n t k c p) (tx_s x) false [])
def p_wo (k i : Nat) : Bool := k == 67 || k == 68 || (k == 4 && i == 5)
theorem name_c (N : Nat) {c : Nat} (hc : c < 128) (v : Int32) (μ : am_M) : f_X8_name N (nI c) v μ = some ((), am_ui μ 67 0 c v) := by
  unfold f_X8_name f_X8_name_0
  rw [if_neg (by rw [li_128, nI_leI (by omega) (by omega)]; omega)]
  simp (disch := omega) only [gd_nI, am_nm]
def TC (μ : am_M) (T : Nat) (c p : Nat → Nat) : Prop := ∀ t, t < T → μ.1 82 0 t = nI (c t) ∧ μ.1 83 0 t = nI (p t)
theorem TC.of {P : Nat → Nat → Bool} {μ μ' : am_M} {T : Nat} {c p : Nat → Nat} (h : TC μ T c p) (hf : fr P μ μ') (h1 : ∀ i, P 82 i = false) (h2 : ∀ i, P 83 i = false) : TC μ' T c p := fun t ht => ⟨(hf.1 82 0 t (h1 t)).trans (h t ht).1, (hf.1 83 0 t (h2 t)).trans (h t ht).2⟩
theorem coinOf_c (N : Nat) {t : Nat} (ht : t < 6) (μ : am_M) : f_X7_coinOf N (nI t) μ = some (μ.1 82 0 t, μ) := by
  unfold f_X7_coinOf f_X7_coinOf_0
  simp (disch := omega) only [w_cls, bd_some, li_0, li_1, li_2, li_3, li_4, li_5, li_6, li_7, li_8, li_9, li_10, li_11, li_12, li_13, li_14, li_15, li_16, li_17, li_18, li_19, li_20, li_21, li_22, li_23, li_24, li_25, li_26, li_27, li_28, li_29, li_30, li_31, li_32, li_33, li_34, li_35, li_36, li_37, li_38, li_39, li_40, li_41, li_42, li_43, li_44, li_45, li_46, li_47, li_48, li_49, li_50, li_51, li_52, li_53, li_54, li_55, li_56, li_57, li_58, li_59, li_60, li_61, li_62, li_63, li_64, li_65, li_66, li_67, li_68, li_69, li_70, li_71, li_72, li_73, li_74, li_75, li_76, li_77, li_78, li_79, li_80, li_81, li_82, li_83, li_84, li_85, li_86, li_87, li_88, li_89, li_90, li_91, li_92, li_93, li_94, li_95, li_96, li_97, li_98, li_99, li_100, li_101, li_102, li_103, li_104, li_105, li_106, li_107, li_108, li_109, li_110, li_111, li_112, li_113, li_114, li_115, li_116, li_117, li_118, li_119, li_120, li_121, li_122, li_123, li_124, li_125, li_126, li_127, li_128, li_129, li_130, li_255, li_259, li_360, li_480, li_900, li_999, li_1000, li_1782, li_1783, li_9999, li_1000000000, b_eq0, nI_leI, gd_nI]
  rw [if_neg (by omega)]
theorem pointsOf_c (N : Nat) {t : Nat} (ht : t < 6) (μ : am_M) : f_X7_pointsOf N (nI t) μ = some (μ.1 83 0 t, μ) := by
  unfold f_X7_pointsOf f_X7_pointsOf_0
  simp (disch := omega) only [w_cls, bd_some, li_0, li_1, li_2, li_3, li_4, li_5, li_6, li_7, li_8, li_9, li_10, li_11, li_12, li_13, li_14, li_15, li_16, li_17, li_18, li_19, li_20, li_21, li_22, li_23, li_24, li_25, li_26, li_27, li_28, li_29, li_30, li_31, li_32, li_33, li_34, li_35, li_36, li_37, li_38, li_39, li_40, li_41, li_42, li_43, li_44, li_45, li_46, li_47, li_48, li_49, li_50, li_51, li_52, li_53, li_54, li_55, li_56, li_57, li_58, li_59, li_60, li_61, li_62, li_63, li_64, li_65, li_66, li_67, li_68, li_69, li_70, li_71, li_72, li_73, li_74, li_75, li_76, li_77, li_78, li_79, li_80, li_81, li_82, li_83, li_84, li_85, li_86, li_87, li_88, li_89, li_90, li_91, li_92, li_93, li_94, li_95, li_96, li_97, li_98, li_99, li_100, li_101, li_102, li_103, li_104, li_105, li_106, li_107, li_108, li_109, li_110, li_111, li_112, li_113, li_114, li_115, li_116, li_117, li_118, li_119, li_120, li_121, li_122, li_123, li_124, li_125, li_126, li_127, li_128, li_129, li_130, li_255, li_259, li_360, li_480, li_900, li_999, li_1000, li_1782, li_1783, li_9999, li_1000000000, b_eq0, nI_leI, gd_nI]
  rw [if_neg (by omega)]
theorem clamp_c (v : Int32) : (if 0 < (if v < 999 then v else 999) then (if v < 999 then v else 999) else 0 : Int32) = nI (cl9 v) := by
  unfold cl9
  by_cases c : v < 0
  · have h1 : v < 999 := Int32.lt_trans c (by decide)
    rw [if_pos c, if_pos h1, if_neg (fun q => absurd (Int32.lt_trans q c) (by decide))]; rfl
  · rw [if_neg c]
    obtain ⟨j, hj, e⟩ := nI_of c
    rw [e, li_999, li_0, nI_clamp hj]
    have hd : (nI j < nI 999) ↔ j < 999 := nI_ltI hj (by decide)
    have hle : (nI j ≤ nI 999) ↔ j ≤ 999 := nI_leI hj (by decide)
    have h0 : (nI 0 < nI j) ↔ 0 < j := nI_ltI (by decide) hj
    simp only [hd, hle]
    by_cases d : j < 999
    · simp only [if_pos d, h0, if_pos (show j ≤ 999 by omega)]
      by_cases z : 0 < j
      · simp only [if_pos z]
      · simp only [if_neg z]
        congr 1; omega
    · simp only [if_neg d]
      rw [if_pos (by decide)]
      by_cases z : j ≤ 999
      · rw [if_pos z]; congr 1; omega
      · rw [if_neg z]
theorem worth_c (N : Nat) (hN : 130 ≤ N) {μ : am_M} {T S : Nat} {a : Nat → Nat → Nat} {W : Nat} {tx : Nat → tx_T} (h : Cv μ T S a W tx) {c p : Nat → Nat} (hT : TC μ T c p) {s t k : Nat} (hs : s < S) (ht : t < T) :
    ∃ μ', f_X7_worthOf N (nI s) (nI t) (nI k) μ = some (nI (wv (tx (a 8 s)) s (a 7 s) T t k (c t) (p t)), μ') ∧ fr p_wo μ μ' := by
  obtain ⟨h1, h2, h3, h4, h5, h6, h7, h8⟩ := h
  obtain ⟨b1, b2', b3, b4, b5⟩ := h1
  have hw := (b5 s hs).2
  unfold f_X7_worthOf f_X7_worthOf_0
  simp (disch := omega) only [li_0, li_1, li_2, li_3, li_4, li_5, li_6, li_7, li_8, li_9, li_10, li_11, li_12, li_13, li_14, li_15, li_16, li_17, li_18, li_19, li_20, li_21, li_22, li_23, li_24, li_25, li_26, li_27, li_28, li_29, li_30, li_31, li_32, li_33, li_34, li_35, li_36, li_37, li_38, li_39, li_40, li_41, li_42, li_43, li_44, li_45, li_46, li_47, li_48, li_49, li_50, li_51, li_52, li_53, li_54, li_55, li_56, li_57, li_58, li_59, li_60, li_61, li_62, li_63, li_64, li_65, li_66, li_67, li_68, li_69, li_70, li_71, li_72, li_73, li_74, li_75, li_76, li_77, li_78, li_79, li_80, li_81, li_82, li_83, li_84, li_85, li_86, li_87, li_88, li_89, li_90, li_91, li_92, li_93, li_94, li_95, li_96, li_97, li_98, li_99, li_100, li_101, li_102, li_103, li_104, li_105, li_106, li_107, li_108, li_109, li_110, li_111, li_112, li_113, li_114, li_115, li_116, li_117, li_118, li_119, li_120, li_121, li_122, li_123, li_124, li_125, li_126, li_127, li_128, li_129, li_130, li_255, li_259, li_360, li_480, li_900, li_999, li_1000, li_1782, li_1783, li_9999, li_1000000000, name_c, bd_some, at_cls, coinOf_c, pointsOf_c]
  simp only [ui1]
  simp only [Nat.reduceEqDiff, false_and, if_false, h2, (hT t ht).1, (hT t ht).2, h6 7 s (by omega) (by omega) hs, h6 8 s (by omega) (by omega) hs]
  obtain ⟨μ7, e7⟩ : ∃ μ7, μ7 = am_ui (am_ui (am_ui (am_ui (am_ui (am_ui (am_ui μ 67 0 115 (nI s)) 67 0 98 (nI (a 7 s))) 67 0 110 (nI T)) 67 0 116 (nI t)) 67 0 107 (nI k)) 67 0 99 (nI (c t))) 67 0 112 (nI (p t)) := ⟨_, rfl⟩
  have hF : fr p_wo μ μ7 := by rw [e7]; exact ((((((fr.rf.ui rfl).ui rfl).ui rfl).ui rfl).ui rfl).ui rfl).ui rfl
  rw [← e7]
  obtain ⟨t1, t2, t3⟩ := h7 (a 8 s) hw
  have hE : EK (en s (a 7 s) T t k (c t) (p t)) μ7 := by
    intro z hz
    simp only [pz_nm, Bool.or_eq_true, beq_iff_eq] at hz
    rcases hz with (((((q | q) | q) | q) | q) | q) | q <;> subst q <;> rw [e7] <;> simp [ui1, en]
  obtain ⟨μ', g1, g2⟩ := work_c N hN (env := en s (a 7 s) T t k (c t) (p t)) (st := tx_s (tx (a 8 s))) (w := a 8 s) (W := W) hw b3 (tx_len t1) ((hF.1 4 0 2 rfl).trans h4) ((hF.1 65 0 _ rfl).trans t2) (fun j hj => (hF.1 364 _ j rfl).trans (t3 j hj)) hE
  rw [g1]
  simp only [bd_some, am_nm]
  refine ⟨μ', ?_, hF.tr (g2.mono (fun k i h => by simp only [p_wo, p_ev, Bool.or_eq_false_iff] at h ⊢; exact ⟨h.1.2, h.2⟩))⟩
  have := clamp_c (wo (en s (a 7 s) T t k (c t) (p t)) (tx_s (tx (a 8 s))) false [])
  simp only [li_0, li_1, li_2, li_3, li_4, li_5, li_6, li_7, li_8, li_9, li_10, li_11, li_12, li_13, li_14, li_15, li_16, li_17, li_18, li_19, li_20, li_21, li_22, li_23, li_24, li_25, li_26, li_27, li_28, li_29, li_30, li_31, li_32, li_33, li_34, li_35, li_36, li_37, li_38, li_39, li_40, li_41, li_42, li_43, li_44, li_45, li_46, li_47, li_48, li_49, li_50, li_51, li_52, li_53, li_54, li_55, li_56, li_57, li_58, li_59, li_60, li_61, li_62, li_63, li_64, li_65, li_66, li_67, li_68, li_69, li_70, li_71, li_72, li_73, li_74, li_75, li_76, li_77, li_78, li_79, li_80, li_81, li_82, li_83, li_84, li_85, li_86, li_87, li_88, li_89, li_90, li_91, li_92, li_93, li_94, li_95, li_96, li_97, li_98, li_99, li_100, li_101, li_102, li_103, li_104, li_105, li_106, li_107, li_108, li_109, li_110, li_111, li_112, li_113, li_114, li_115, li_116, li_117, li_118, li_119, li_120, li_121, li_122, li_123, li_124, li_125, li_126, li_127, li_128, li_129, li_130, li_255, li_259, li_360, li_480, li_900, li_999, li_1000, li_1782, li_1783, li_9999, li_1000000000] at this
  rw [this]
  rfl
def p_wr (k i : Nat) : Bool := k == 183 || (k == 10 && (i == 18 || i == 19 || i == 20 || i == 21 || i == 22))
theorem am_nme {β γ : Type} (v : β) (k : β → γ) : am_nm v k = k v := by
  have h : am_nm v k = k v := rfl
  exact (Eq.trans h (Eq.refl _))
theorem gdl_0 {γ : Type} {n : Nat} {k : Nat → Option γ} (h : 0 < n) : am_gd 0 n k = k 0 := by rw [li_0]; exact gd_nI h (by decide)
theorem gdl_1 {γ : Type} {n : Nat} {k : Nat → Option γ} (h : 1 < n) : am_gd 1 n k = k 1 := by rw [li_1]; exact gd_nI h (by decide)
theorem gdl_2 {γ : Type} {n : Nat} {k : Nat → Option γ} (h : 2 < n) : am_gd 2 n k = k 2 := by rw [li_2]; exact gd_nI h (by decide)
theorem gdl_3 {γ : Type} {n : Nat} {k : Nat → Option γ} (h : 3 < n) : am_gd 3 n k = k 3 := by rw [li_3]; exact gd_nI h (by decide)
theorem gdl_4 {γ : Type} {n : Nat} {k : Nat → Option γ} (h : 4 < n) : am_gd 4 n k = k 4 := by rw [li_4]; exact gd_nI h (by decide)
theorem gdl_5 {γ : Type} {n : Nat} {k : Nat → Option γ} (h : 5 < n) : am_gd 5 n k = k 5 := by rw [li_5]; exact gd_nI h (by decide)
theorem gdl_6 {γ : Type} {n : Nat} {k : Nat → Option γ} (h : 6 < n) : am_gd 6 n k = k 6 := by rw [li_6]; exact gd_nI h (by decide)
theorem gdp_6 {γ : Type} {n t : Nat} {k : Nat → Option γ} (h : 6 + t < n) (hn : 6 + t < 2147483648) : am_gd (6 + nI t) n k = k (6 + t) := by rw [li_6, nI_add]; exact gd_nI h hn
theorem gdp_12 {γ : Type} {n t : Nat} {k : Nat → Option γ} (h : 12 + t < n) (hn : 12 + t < 2147483648) : am_gd (12 + nI t) n k = k (12 + t) := by rw [li_12, nI_add]; exact gd_nI h hn
theorem gdp_18 {γ : Type} {n t : Nat} {k : Nat → Option γ} (h : 18 + t < n) (hn : 18 + t < 2147483648) : am_gd (18 + nI t) n k = k (18 + t) := by rw [li_18, nI_add]; exact gd_nI h hn
theorem gdp_23 {γ : Type} {n t : Nat} {k : Nat → Option γ} (h : 23 + t < n) (hn : 23 + t < 2147483648) : am_gd (23 + nI t) n k = k (23 + t) := by rw [li_23, nI_add]; exact gd_nI h hn
theorem worth_r (N : Nat) (hN : 130 ≤ N) {μ : am_M} {T S : Nat} {a : Nat → Nat → Nat} {W : Nat} {tx : Nat → tx_T} (h : Rv μ T S a W tx) {s t k : Nat} (hs : s < S) (ht : t < T) :
    ∃ μ', f_X10_worthOf N (nI s) (nI t) (nI k) μ = some (nI (wv (tx (a 8 s)) s (a 7 s) T t k (a 1 t) (a 2 t)), μ') ∧ fr p_wr μ μ' := by
  obtain ⟨h1, h2, h3, h4, h5, h6, h7, h8⟩ := h
  obtain ⟨b1, b2', b3, b4, b5⟩ := h1
  have hw := (b5 s hs).2
  obtain ⟨s1, s2, s3, s4, s5⟩ := h6 s hs
  obtain ⟨q1, q2, q3, q4⟩ := h5 t ht
  unfold f_X10_worthOf f_X10_worthOf_0
  simp (disch := omega) only [↓gdl_0, ↓gdl_1, ↓gdl_2, ↓gdl_3, ↓gdl_4, ↓gdl_5, ↓gdl_6, ↓gdp_6, ↓gdp_12, ↓am_nme, ↓gd_nI]
  simp only [ui1]
  simp only [Nat.reduceEqDiff, false_and, if_false, q2, q3, h2, s4, s5]
  obtain ⟨μ7, e7⟩ : ∃ μ7, μ7 = am_ui (am_ui (am_ui (am_ui (am_ui (am_ui (am_ui μ 183 0 0 (nI t)) 183 0 1 (nI k)) 183 0 2 (nI (a 1 t))) 183 0 3 (nI (a 2 t))) 183 0 4 (nI s)) 183 0 5 (nI (a 7 s))) 183 0 6 (nI T) := ⟨_, rfl⟩
  have hF : fr p_wr μ μ7 := by rw [e7]; exact ((((((fr.rf.ui rfl).ui rfl).ui rfl).ui rfl).ui rfl).ui rfl).ui rfl
  rw [← e7]
  obtain ⟨t1, t2, t3⟩ := h7 (a 8 s) hw
  have hE : EN (en s (a 7 s) T t k (a 1 t) (a 2 t)) μ7 := by
    refine ⟨?_, ?_, ?_, ?_, ?_, ?_, ?_⟩ <;> rw [e7] <;> simp [ui1, en]
  obtain ⟨z, μ', g1, g2, g3, -⟩ := work_r N hN (L := (tx (a 8 s)).1) (by_ := (tx (a 8 s)).2) (env := en s (a 7 s) T t k (a 1 t) (a 2 t)) (μ := μ7) (B := nI (120 * a 8 s)) t1.1 t1.2.1 hE (Or.inr ⟨a 8 s, by omega, rfl, fun j hj => (hF.1 176 0 _ rfl).trans (t3 j hj)⟩)
  simp (disch := omega) only [gd_nI, li_120, pk_mul, t2, g1, bd_some]
  have hz := (g3 t1.2.2).2
  refine ⟨μ', ?_, hF.tr (g2.mono (fun k i h => by simp only [p_wr, p_rw, Bool.or_eq_false_iff] at h ⊢; exact h.2))⟩
  have e : wo (en s (a 7 s) T t k (a 1 t) (a 2 t)) (tx_s (tx (a 8 s))) false [] = z := by unfold tx_s; exact hz.symm
  unfold wv
  rw [e]
  by_cases c : z < 0
  · rw [if_neg (fun q => absurd c (Int32.not_lt.mpr q))]
    unfold cl9
    rw [if_pos c]; rfl
  · rw [if_pos (Int32.not_lt.mp c)]
    by_cases d : z ≤ 999
    · rw [if_pos d, cl9_nI z c d]
    · rw [if_neg d]
      unfold cl9
      rw [if_neg c, if_neg d]; rfl
