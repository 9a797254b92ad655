/-! the reference's five levels -/
theorem lv_0 {c : Nat} : pz_lv c = 0 ↔ c = 124 := by unfold pz_lv; (repeat' split) <;> omega
theorem lv_1 {c : Nat} : pz_lv c = 1 ↔ c = 38 := by unfold pz_lv; (repeat' split) <;> omega
theorem lv_2 {c : Nat} : pz_lv c = 2 ↔ (c = 60 ∨ c = 61 ∨ c = 62) := by unfold pz_lv; (repeat' split) <;> omega
theorem lv_3 {c : Nat} : pz_lv c = 3 ↔ (c = 43 ∨ c = 45) := by unfold pz_lv; (repeat' split) <;> omega
theorem lv_4 {c : Nat} : pz_lv c = 4 ↔ (c = 42 ∨ c = 47 ∨ c = 37) := by unfold pz_lv; (repeat' split) <;> omega
theorem jn_124 (a b : Int32) : jn (nI 124) a b = if a = 0 then (if b = 0 then 0 else 1) else 1 := rfl
theorem jn_38 (a b : Int32) : jn (nI 38) a b = if a = 0 then 0 else if b = 0 then 0 else 1 := rfl
theorem jn_60 (a b : Int32) : jn (nI 60) a b = if b ≤ a then 0 else 1 := rfl
theorem jn_61 (a b : Int32) : jn (nI 61) a b = if a = b then 1 else 0 := rfl
theorem jn_62 (a b : Int32) : jn (nI 62) a b = if a ≤ b then 0 else 1 := rfl
theorem jn_43 (a b : Int32) : jn (nI 43) a b = a + b := rfl
theorem jn_45 (a b : Int32) : jn (nI 45) a b = a - b := rfl
theorem jn_42 (a b : Int32) : jn (nI 42) a b = a * b := rfl
theorem jn_47 (a b : Int32) : jn (nI 47) a b = if b = 0 then 0 else a / b := rfl
theorem jn_37 (a b : Int32) : jn (nI 37) a b = if b = 0 then 0 else am_rem a b := rfl
theorem pz_lp_f {ch : Nat → Nat} {sub : Nat → pz_R} {lev : Nat} {r : pz_R} (h : r.1 = false) : ∀ n, pz_lp ch sub lev n r = r
  | 0 => rfl
  | n + 1 => by unfold pz_lp; rw [if_neg (fun q => by rw [h] at q; cases q.1)]
theorem pz_lp_n {ch : Nat → Nat} {sub : Nat → pz_R} {lev : Nat} {r : pz_R} (h : pz_lv (ch r.2.1) ≠ lev) : ∀ n, pz_lp ch sub lev n r = r
  | 0 => rfl
  | n + 1 => by unfold pz_lp; rw [if_neg (fun q => h q.2)]
theorem pz_lp_s {ch : Nat → Nat} {sub : Nat → pz_R} {lev n : Nat} {r : pz_R} (h1 : r.1 = true) (h : pz_lv (ch r.2.1) = lev) : pz_lp ch sub lev (n + 1) r = pz_lp ch sub lev n ((sub (r.2.1 + 1)).1, ((sub (r.2.1 + 1)).2.1, (r.2.2 ++ (sub (r.2.1 + 1)).2.2) ++ [-(nI (ch r.2.1))])) := by
  rw [pz_lp, if_pos ⟨h1, h⟩]
theorem re_either (N : Nat) {L : Nat} {by_ : Nat → Nat} {env : Nat → Int32} {o : Nat} {g_X10_both g_X10_compared g_X10_either g_X10_one g_X10_product g_X10_sums : am_M → Option (Int32 × am_M)} {sub : Nat → pz_R} (hok : ∀ q, q ≤ L → q ≤ (sub q).2.1) (hs : re_S L by_ env o g_X10_both sub) {μ0 : am_M} :
    ∀ (n m : Nat) (r : pz_R) (v : Int32) (μ : am_M), 120 ≤ n + r.2.1 → n + 1 ≤ m → fr p_ref μ0 μ → re_C L by_ env o v μ r → ∃ (v' : Int32) (μ' : am_M), f_X10_either_5_lp N g_X10_both g_X10_compared g_X10_either g_X10_one g_X10_product g_X10_sums m v μ = some (v', μ') ∧ fr p_ref μ0 μ' ∧ re_C L by_ env o v' μ' (pz_lp (chL L by_) sub 0 n r)
  | n, 0, r, v, μ, h1, h2, h3, h4 => by omega
  | n, m + 1, r, v, μ, h1, h2, h3, h4 => by
    unfold f_X10_either_5_lp f_X10_either_5
    cases hr : r.1 with
    | false =>
      have hf := h4.2 hr
      rw [takes_f N _ hf.2.2.2.2.2.2.2 (by have := hf.2.1; have := hf.2.2.2.2.2.1; omega), bd_some, if_pos (by decide), pz_lp_f hr]
      exact ⟨v, μ, rfl, h3, h4⟩
    | true =>
      obtain ⟨hP, hv⟩ := h4.1 hr
      have ht := takes_r N hP 124 (by decide)
      simp only [li_0, li_1, li_2, li_3, li_4, li_5, li_6, li_7, li_8, li_9, li_10, li_11, li_12, li_13, li_14, li_15, li_16, li_17, li_18, li_19, li_20, li_21, li_22, li_23, li_24, li_25, li_26, li_27, li_28, li_29, li_30, li_31, li_32, li_33, li_34, li_35, li_36, li_37, li_38, li_39, li_40, li_41, li_42, li_43, li_44, li_45, li_46, li_47, li_48, li_49, li_50, li_51, li_52, li_53, li_54, li_55, li_56, li_57, li_58, li_59, li_60, li_61, li_62, li_63, li_64, li_65, li_66, li_67, li_68, li_69, li_70, li_71, li_72, li_73, li_74, li_75, li_76, li_77, li_78, li_79, li_80, li_81, li_82, li_83, li_84, li_85, li_86, li_87, li_88, li_89, li_90, li_91, li_92, li_93, li_94, li_95, li_96, li_97, li_98, li_99, li_100, li_101, li_102, li_103, li_104, li_105, li_106, li_107, li_108, li_109, li_110, li_111, li_112, li_113, li_114, li_115, li_116, li_117, li_118, li_119, li_120, li_121, li_122, li_123, li_124, li_125, li_126, li_127, li_128, li_129, li_130, li_255, li_259, li_360, li_480, li_900, li_999, li_1000, li_1782, li_1783, li_9999, li_1000000000] at ht ⊢
      rw [ht]
      by_cases c : chL L by_ r.2.1 = 124
      · rw [if_pos c, bd_some, if_neg (by decide)]
        have hlt := pz_lt (p := r.2.1) (chL_0 (L := L) (by_ := by_)) (by omega)
        obtain ⟨n, rfl⟩ : ∃ n', n = n' + 1 := ⟨n - 1, by have := hP.2.1; omega⟩
        obtain ⟨a1, a2⟩ := advR hP hlt
        obtain ⟨w, μ1, e1, e2, e3⟩ := hs (r.2.1 + 1) _ a1
        rw [e1, bd_some, pz_lp_s hr (lv_0.mpr c)]
        have hT := re_turn hv e3 (lv_0.mpr c) (by decide)
        rw [c] at hT ⊢
        have hq := hok (r.2.1 + 1) hlt
        have ih := re_either N (g_X10_both := g_X10_both) (g_X10_compared := g_X10_compared) (g_X10_either := g_X10_either) (g_X10_one := g_X10_one) (g_X10_product := g_X10_product) (g_X10_sums := g_X10_sums) hok hs n m ((sub (r.2.1 + 1)).1, ((sub (r.2.1 + 1)).2.1, (r.2.2 ++ (sub (r.2.1 + 1)).2.2) ++ [-(nI 124)])) (jn (nI 124) v w) μ1 (by show 120 ≤ n + (sub (r.2.1 + 1)).2.1; omega) (by omega) ((h3.tr a2).tr e2) hT
        rw [jn_124] at ih
        unfold f_X10_either_27 f_X10_either_32
        simp only [li_0, li_1, li_2, li_3, li_4, li_5, li_6, li_7, li_8, li_9, li_10, li_11, li_12, li_13, li_14, li_15, li_16, li_17, li_18, li_19, li_20, li_21, li_22, li_23, li_24, li_25, li_26, li_27, li_28, li_29, li_30, li_31, li_32, li_33, li_34, li_35, li_36, li_37, li_38, li_39, li_40, li_41, li_42, li_43, li_44, li_45, li_46, li_47, li_48, li_49, li_50, li_51, li_52, li_53, li_54, li_55, li_56, li_57, li_58, li_59, li_60, li_61, li_62, li_63, li_64, li_65, li_66, li_67, li_68, li_69, li_70, li_71, li_72, li_73, li_74, li_75, li_76, li_77, li_78, li_79, li_80, li_81, li_82, li_83, li_84, li_85, li_86, li_87, li_88, li_89, li_90, li_91, li_92, li_93, li_94, li_95, li_96, li_97, li_98, li_99, li_100, li_101, li_102, li_103, li_104, li_105, li_106, li_107, li_108, li_109, li_110, li_111, li_112, li_113, li_114, li_115, li_116, li_117, li_118, li_119, li_120, li_121, li_122, li_123, li_124, li_125, li_126, li_127, li_128, li_129, li_130, li_255, li_259, li_360, li_480, li_900, li_999, li_1000, li_1782, li_1783, li_9999, li_1000000000] at ih ⊢
        by_cases d1 : v = nI 0
        · rw [if_pos d1] at ih ⊢
          by_cases d2 : w = nI 0
          · rw [if_pos d2] at ih ⊢; exact ih
          · rw [if_neg d2] at ih ⊢; exact ih
        · rw [if_neg d1] at ih ⊢; exact ih
      · rw [if_neg c, bd_some, if_pos rfl, pz_lp_n (fun q => c (lv_0.mp q))]
        exact ⟨v, μ, rfl, h3, h4⟩
theorem re_both (N : Nat) {L : Nat} {by_ : Nat → Nat} {env : Nat → Int32} {o : Nat} {g_X10_both g_X10_compared g_X10_either g_X10_one g_X10_product g_X10_sums : am_M → Option (Int32 × am_M)} {sub : Nat → pz_R} (hok : ∀ q, q ≤ L → q ≤ (sub q).2.1) (hs : re_S L by_ env o g_X10_compared sub) {μ0 : am_M} :
    ∀ (n m : Nat) (r : pz_R) (v : Int32) (μ : am_M), 120 ≤ n + r.2.1 → n + 1 ≤ m → fr p_ref μ0 μ → re_C L by_ env o v μ r → ∃ (v' : Int32) (μ' : am_M), f_X10_both_5_lp N g_X10_both g_X10_compared g_X10_either g_X10_one g_X10_product g_X10_sums m v μ = some (v', μ') ∧ fr p_ref μ0 μ' ∧ re_C L by_ env o v' μ' (pz_lp (chL L by_) sub 1 n r)
  | n, 0, r, v, μ, h1, h2, h3, h4 => by omega
  | n, m + 1, r, v, μ, h1, h2, h3, h4 => by
    unfold f_X10_both_5_lp f_X10_both_5
    cases hr : r.1 with
    | false =>
      have hf := h4.2 hr
      rw [takes_f N _ hf.2.2.2.2.2.2.2 (by have := hf.2.1; have := hf.2.2.2.2.2.1; omega), bd_some, if_pos (by decide), pz_lp_f hr]
      exact ⟨v, μ, rfl, h3, h4⟩
    | true =>
      obtain ⟨hP, hv⟩ := h4.1 hr
      have ht := takes_r N hP 38 (by decide)
      simp only [li_0, li_1, li_2, li_3, li_4, li_5, li_6, li_7, li_8, li_9, li_10, li_11, li_12, li_13, li_14, li_15, li_16, li_17, li_18, li_19, li_20, li_21, li_22, li_23, li_24, li_25, li_26, li_27, li_28, li_29, li_30, li_31, li_32, li_33, li_34, li_35, li_36, li_37, li_38, li_39, li_40, li_41, li_42, li_43, li_44, li_45, li_46, li_47, li_48, li_49, li_50, li_51, li_52, li_53, li_54, li_55, li_56, li_57, li_58, li_59, li_60, li_61, li_62, li_63, li_64, li_65, li_66, li_67, li_68, li_69, li_70, li_71, li_72, li_73, li_74, li_75, li_76, li_77, li_78, li_79, li_80, li_81, li_82, li_83, li_84, li_85, li_86, li_87, li_88, li_89, li_90, li_91, li_92, li_93, li_94, li_95, li_96, li_97, li_98, li_99, li_100, li_101, li_102, li_103, li_104, li_105, li_106, li_107, li_108, li_109, li_110, li_111, li_112, li_113, li_114, li_115, li_116, li_117, li_118, li_119, li_120, li_121, li_122, li_123, li_124, li_125, li_126, li_127, li_128, li_129, li_130, li_255, li_259, li_360, li_480, li_900, li_999, li_1000, li_1782, li_1783, li_9999, li_1000000000] at ht ⊢
      rw [ht]
      by_cases c : chL L by_ r.2.1 = 38
      · rw [if_pos c, bd_some, if_neg (by decide)]
        have hlt := pz_lt (p := r.2.1) (chL_0 (L := L) (by_ := by_)) (by omega)
        obtain ⟨n, rfl⟩ : ∃ n', n = n' + 1 := ⟨n - 1, by have := hP.2.1; omega⟩
        obtain ⟨a1, a2⟩ := advR hP hlt
        obtain ⟨w, μ1, e1, e2, e3⟩ := hs (r.2.1 + 1) _ a1
        rw [e1, bd_some, pz_lp_s hr (lv_1.mpr c)]
        have hT := re_turn hv e3 (lv_1.mpr c) (by decide)
        rw [c] at hT ⊢
        have hq := hok (r.2.1 + 1) hlt
        have ih := re_both N (g_X10_both := g_X10_both) (g_X10_compared := g_X10_compared) (g_X10_either := g_X10_either) (g_X10_one := g_X10_one) (g_X10_product := g_X10_product) (g_X10_sums := g_X10_sums) hok hs n m ((sub (r.2.1 + 1)).1, ((sub (r.2.1 + 1)).2.1, (r.2.2 ++ (sub (r.2.1 + 1)).2.2) ++ [-(nI 38)])) (jn (nI 38) v w) μ1 (by show 120 ≤ n + (sub (r.2.1 + 1)).2.1; omega) (by omega) ((h3.tr a2).tr e2) hT
        rw [jn_38] at ih
        unfold f_X10_both_31 f_X10_both_32
        simp only [li_0, li_1, li_2, li_3, li_4, li_5, li_6, li_7, li_8, li_9, li_10, li_11, li_12, li_13, li_14, li_15, li_16, li_17, li_18, li_19, li_20, li_21, li_22, li_23, li_24, li_25, li_26, li_27, li_28, li_29, li_30, li_31, li_32, li_33, li_34, li_35, li_36, li_37, li_38, li_39, li_40, li_41, li_42, li_43, li_44, li_45, li_46, li_47, li_48, li_49, li_50, li_51, li_52, li_53, li_54, li_55, li_56, li_57, li_58, li_59, li_60, li_61, li_62, li_63, li_64, li_65, li_66, li_67, li_68, li_69, li_70, li_71, li_72, li_73, li_74, li_75, li_76, li_77, li_78, li_79, li_80, li_81, li_82, li_83, li_84, li_85, li_86, li_87, li_88, li_89, li_90, li_91, li_92, li_93, li_94, li_95, li_96, li_97, li_98, li_99, li_100, li_101, li_102, li_103, li_104, li_105, li_106, li_107, li_108, li_109, li_110, li_111, li_112, li_113, li_114, li_115, li_116, li_117, li_118, li_119, li_120, li_121, li_122, li_123, li_124, li_125, li_126, li_127, li_128, li_129, li_130, li_255, li_259, li_360, li_480, li_900, li_999, li_1000, li_1782, li_1783, li_9999, li_1000000000] at ih ⊢
        by_cases d1 : v = nI 0
        · rw [if_pos d1] at ih ⊢; exact ih
        · rw [if_neg d1] at ih ⊢
          by_cases d2 : w = nI 0
          · rw [if_pos d2] at ih ⊢; exact ih
          · rw [if_neg d2] at ih ⊢; exact ih
      · rw [if_neg c, bd_some, if_pos rfl, pz_lp_n (fun q => c (lv_1.mp q))]
        exact ⟨v, μ, rfl, h3, h4⟩
theorem re_sums (N : Nat) {L : Nat} {by_ : Nat → Nat} {env : Nat → Int32} {o : Nat} {g_X10_both g_X10_compared g_X10_either g_X10_one g_X10_product g_X10_sums : am_M → Option (Int32 × am_M)} {sub : Nat → pz_R} (hok : ∀ q, q ≤ L → q ≤ (sub q).2.1) (hs : re_S L by_ env o g_X10_product sub) {μ0 : am_M} :
    ∀ (n m : Nat) (r : pz_R) (v : Int32) (μ : am_M), 120 ≤ n + r.2.1 → n + 1 ≤ m → fr p_ref μ0 μ → re_C L by_ env o v μ r → ∃ (v' : Int32) (μ' : am_M), f_X10_sums_5_lp N g_X10_both g_X10_compared g_X10_either g_X10_one g_X10_product g_X10_sums m v μ = some (v', μ') ∧ fr p_ref μ0 μ' ∧ re_C L by_ env o v' μ' (pz_lp (chL L by_) sub 3 n r)
  | n, 0, r, v, μ, h1, h2, h3, h4 => by omega
  | n, m + 1, r, v, μ, h1, h2, h3, h4 => by
    unfold f_X10_sums_5_lp f_X10_sums_5
    cases hr : r.1 with
    | false =>
      have hf := h4.2 hr
      rw [hf.2.2.2.2.2.2.2, if_pos (nI_pos' (by have := hf.2.1; have := hf.2.2.2.2.2.1; omega)), pz_lp_f hr]
      exact ⟨v, μ, rfl, h3, h4⟩
    | true =>
      obtain ⟨hP, hv⟩ := h4.1 hr
      rw [hP.2.2.2.2.2.2.2.1, if_neg (by decide)]
      simp only [li_0, li_1, li_2, li_3, li_4, li_5, li_6, li_7, li_8, li_9, li_10, li_11, li_12, li_13, li_14, li_15, li_16, li_17, li_18, li_19, li_20, li_21, li_22, li_23, li_24, li_25, li_26, li_27, li_28, li_29, li_30, li_31, li_32, li_33, li_34, li_35, li_36, li_37, li_38, li_39, li_40, li_41, li_42, li_43, li_44, li_45, li_46, li_47, li_48, li_49, li_50, li_51, li_52, li_53, li_54, li_55, li_56, li_57, li_58, li_59, li_60, li_61, li_62, li_63, li_64, li_65, li_66, li_67, li_68, li_69, li_70, li_71, li_72, li_73, li_74, li_75, li_76, li_77, li_78, li_79, li_80, li_81, li_82, li_83, li_84, li_85, li_86, li_87, li_88, li_89, li_90, li_91, li_92, li_93, li_94, li_95, li_96, li_97, li_98, li_99, li_100, li_101, li_102, li_103, li_104, li_105, li_106, li_107, li_108, li_109, li_110, li_111, li_112, li_113, li_114, li_115, li_116, li_117, li_118, li_119, li_120, li_121, li_122, li_123, li_124, li_125, li_126, li_127, li_128, li_129, li_130, li_255, li_259, li_360, li_480, li_900, li_999, li_1000, li_1782, li_1783, li_9999, li_1000000000, byteAt_r N hP, bd_some, ch_eq hP r.2.1 43 (by decide), ch_eq hP r.2.1 45 (by decide)]
      have step : ∀ c, (c = 43 ∨ c = 45) → chL L by_ r.2.1 = c → ∃ (v' : Int32) (μ' : am_M), f_X10_sums_30 N g_X10_both g_X10_compared g_X10_either g_X10_one g_X10_product g_X10_sums (f_X10_sums_5_lp N g_X10_both g_X10_compared g_X10_either g_X10_one g_X10_product g_X10_sums m) v μ = some (v', μ') ∧ fr p_ref μ0 μ' ∧ re_C L by_ env o v' μ' (pz_lp (chL L by_) sub 3 n r) := by
        intro c hc hcc
        have hl3 : pz_lv (chL L by_ r.2.1) = 3 := lv_3.mpr (by omega)
        have hlt := pz_lt (p := r.2.1) (chL_0 (L := L) (by_ := by_)) (by omega)
        obtain ⟨n, rfl⟩ : ∃ n', n = n' + 1 := ⟨n - 1, by have := hP.2.1; omega⟩
        obtain ⟨a1, a2⟩ := advR hP hlt
        obtain ⟨w, μ1, e1, e2, e3⟩ := hs (r.2.1 + 1) _ a1
        rw [pz_lp_s hr hl3]
        have hT := re_turn hv e3 hl3 (by decide)
        have hq := hok (r.2.1 + 1) hlt
        have ih := re_sums N (g_X10_both := g_X10_both) (g_X10_compared := g_X10_compared) (g_X10_either := g_X10_either) (g_X10_one := g_X10_one) (g_X10_product := g_X10_product) (g_X10_sums := g_X10_sums) hok hs n m ((sub (r.2.1 + 1)).1, ((sub (r.2.1 + 1)).2.1, (r.2.2 ++ (sub (r.2.1 + 1)).2.2) ++ [-(nI (chL L by_ r.2.1))])) (jn (nI (chL L by_ r.2.1)) v w) μ1 (by show 120 ≤ n + (sub (r.2.1 + 1)).2.1; omega) (by omega) ((h3.tr a2).tr e2) hT
        unfold f_X10_sums_30 f_X10_sums_44 f_X10_sums_73
        simp only [li_0, li_1, li_2, li_3, li_4, li_5, li_6, li_7, li_8, li_9, li_10, li_11, li_12, li_13, li_14, li_15, li_16, li_17, li_18, li_19, li_20, li_21, li_22, li_23, li_24, li_25, li_26, li_27, li_28, li_29, li_30, li_31, li_32, li_33, li_34, li_35, li_36, li_37, li_38, li_39, li_40, li_41, li_42, li_43, li_44, li_45, li_46, li_47, li_48, li_49, li_50, li_51, li_52, li_53, li_54, li_55, li_56, li_57, li_58, li_59, li_60, li_61, li_62, li_63, li_64, li_65, li_66, li_67, li_68, li_69, li_70, li_71, li_72, li_73, li_74, li_75, li_76, li_77, li_78, li_79, li_80, li_81, li_82, li_83, li_84, li_85, li_86, li_87, li_88, li_89, li_90, li_91, li_92, li_93, li_94, li_95, li_96, li_97, li_98, li_99, li_100, li_101, li_102, li_103, li_104, li_105, li_106, li_107, li_108, li_109, li_110, li_111, li_112, li_113, li_114, li_115, li_116, li_117, li_118, li_119, li_120, li_121, li_122, li_123, li_124, li_125, li_126, li_127, li_128, li_129, li_130, li_255, li_259, li_360, li_480, li_900, li_999, li_1000, li_1782, li_1783, li_9999, li_1000000000, byteAt_r N hP, bd_some, ch_eq hP r.2.1 43 (by decide), am_nm, e1]
        rcases hc with hc | hc <;> subst hc
        · rw [hcc] at ih ⊢
          rw [if_pos rfl, if_neg (by decide)]
          rw [jn_43] at ih; exact ih
        · rw [hcc] at ih ⊢
          rw [if_neg (by decide), if_pos trivial]
          rw [jn_45] at ih; exact ih
      by_cases c : chL L by_ r.2.1 = 43
      · rw [if_pos c]; exact step 43 (Or.inl rfl) c
      · rw [if_neg c]
        by_cases c2 : chL L by_ r.2.1 = 45
        · rw [if_pos c2]; exact step 45 (Or.inr rfl) c2
        · rw [if_neg c2, pz_lp_n (fun q => by have := lv_3.mp q; omega)]
          exact ⟨v, μ, rfl, h3, h4⟩
theorem re_product (N : Nat) {L : Nat} {by_ : Nat → Nat} {env : Nat → Int32} {o : Nat} {g_X10_both g_X10_compared g_X10_either g_X10_one g_X10_product g_X10_sums : am_M → Option (Int32 × am_M)} {sub : Nat → pz_R} (hok : ∀ q, q ≤ L → q ≤ (sub q).2.1) (hs : re_S L by_ env o g_X10_one sub) {μ0 : am_M} :
    ∀ (n m : Nat) (r : pz_R) (v : Int32) (μ : am_M), 120 ≤ n + r.2.1 → n + 1 ≤ m → fr p_ref μ0 μ → re_C L by_ env o v μ r → ∃ (v' : Int32) (μ' : am_M), f_X10_product_10_lp N g_X10_both g_X10_compared g_X10_either g_X10_one g_X10_product g_X10_sums m v (nI (chL L by_ r.2.1)) μ = some (v', μ') ∧ fr p_ref μ0 μ' ∧ re_C L by_ env o v' μ' (pz_lp (chL L by_) sub 4 n r)
  | n, 0, r, v, μ, h1, h2, h3, h4 => by omega
  | n, m + 1, r, v, μ, h1, h2, h3, h4 => by
    unfold f_X10_product_10_lp f_X10_product_10
    cases hr : r.1 with
    | false =>
      have hf := h4.2 hr
      rw [hf.2.2.2.2.2.2.2, if_pos (nI_pos' (by have := hf.2.1; have := hf.2.2.2.2.2.1; omega)), pz_lp_f hr]
      exact ⟨v, μ, rfl, h3, h4⟩
    | true =>
      obtain ⟨hP, hv⟩ := h4.1 hr
      rw [hP.2.2.2.2.2.2.2.1, if_neg (by decide)]
      simp only [li_0, li_1, li_2, li_3, li_4, li_5, li_6, li_7, li_8, li_9, li_10, li_11, li_12, li_13, li_14, li_15, li_16, li_17, li_18, li_19, li_20, li_21, li_22, li_23, li_24, li_25, li_26, li_27, li_28, li_29, li_30, li_31, li_32, li_33, li_34, li_35, li_36, li_37, li_38, li_39, li_40, li_41, li_42, li_43, li_44, li_45, li_46, li_47, li_48, li_49, li_50, li_51, li_52, li_53, li_54, li_55, li_56, li_57, li_58, li_59, li_60, li_61, li_62, li_63, li_64, li_65, li_66, li_67, li_68, li_69, li_70, li_71, li_72, li_73, li_74, li_75, li_76, li_77, li_78, li_79, li_80, li_81, li_82, li_83, li_84, li_85, li_86, li_87, li_88, li_89, li_90, li_91, li_92, li_93, li_94, li_95, li_96, li_97, li_98, li_99, li_100, li_101, li_102, li_103, li_104, li_105, li_106, li_107, li_108, li_109, li_110, li_111, li_112, li_113, li_114, li_115, li_116, li_117, li_118, li_119, li_120, li_121, li_122, li_123, li_124, li_125, li_126, li_127, li_128, li_129, li_130, li_255, li_259, li_360, li_480, li_900, li_999, li_1000, li_1782, li_1783, li_9999, li_1000000000, ch_eq hP r.2.1 42 (by decide), ch_eq hP r.2.1 47 (by decide), ch_eq hP r.2.1 37 (by decide)]
      have step : (chL L by_ r.2.1 = 42 ∨ chL L by_ r.2.1 = 47 ∨ chL L by_ r.2.1 = 37) → ∃ (v' : Int32) (μ' : am_M), f_X10_product_35 N g_X10_both g_X10_compared g_X10_either g_X10_one g_X10_product g_X10_sums (f_X10_product_10_lp N g_X10_both g_X10_compared g_X10_either g_X10_one g_X10_product g_X10_sums m) v (nI (chL L by_ r.2.1)) μ = some (v', μ') ∧ fr p_ref μ0 μ' ∧ re_C L by_ env o v' μ' (pz_lp (chL L by_) sub 4 n r) := by
        intro hc
        have hl3 : pz_lv (chL L by_ r.2.1) = 4 := lv_4.mpr hc
        have hlt := pz_lt (p := r.2.1) (chL_0 (L := L) (by_ := by_)) (by omega)
        obtain ⟨n, rfl⟩ : ∃ n', n = n' + 1 := ⟨n - 1, by have := hP.2.1; omega⟩
        obtain ⟨a1, a2⟩ := advR hP hlt
        obtain ⟨w, μ1, e1, e2, e3⟩ := hs (r.2.1 + 1) _ a1
        rw [pz_lp_s hr hl3]
        have hT := re_turn hv e3 hl3 (by decide)
        have hq := hok (r.2.1 + 1) hlt
        have ih := re_product N (g_X10_both := g_X10_both) (g_X10_compared := g_X10_compared) (g_X10_either := g_X10_either) (g_X10_one := g_X10_one) (g_X10_product := g_X10_product) (g_X10_sums := g_X10_sums) hok hs n m ((sub (r.2.1 + 1)).1, ((sub (r.2.1 + 1)).2.1, (r.2.2 ++ (sub (r.2.1 + 1)).2.2) ++ [-(nI (chL L by_ r.2.1))])) (jn (nI (chL L by_ r.2.1)) v w) μ1 (by show 120 ≤ n + (sub (r.2.1 + 1)).2.1; omega) (by omega) ((h3.tr a2).tr e2) hT
        have hb : f_X10_byteAt N μ1 = some (nI (chL L by_ (sub (r.2.1 + 1)).2.1), μ1) := by
          cases hq1 : (sub (r.2.1 + 1)).1 with
          | true => exact byteAt_r N (e3.1 hq1).1
          | false => exact byteAt_f N (e3.2 hq1)
        unfold f_X10_product_35 f_X10_product_85
        simp only [li_0, li_1, li_2, li_3, li_4, li_5, li_6, li_7, li_8, li_9, li_10, li_11, li_12, li_13, li_14, li_15, li_16, li_17, li_18, li_19, li_20, li_21, li_22, li_23, li_24, li_25, li_26, li_27, li_28, li_29, li_30, li_31, li_32, li_33, li_34, li_35, li_36, li_37, li_38, li_39, li_40, li_41, li_42, li_43, li_44, li_45, li_46, li_47, li_48, li_49, li_50, li_51, li_52, li_53, li_54, li_55, li_56, li_57, li_58, li_59, li_60, li_61, li_62, li_63, li_64, li_65, li_66, li_67, li_68, li_69, li_70, li_71, li_72, li_73, li_74, li_75, li_76, li_77, li_78, li_79, li_80, li_81, li_82, li_83, li_84, li_85, li_86, li_87, li_88, li_89, li_90, li_91, li_92, li_93, li_94, li_95, li_96, li_97, li_98, li_99, li_100, li_101, li_102, li_103, li_104, li_105, li_106, li_107, li_108, li_109, li_110, li_111, li_112, li_113, li_114, li_115, li_116, li_117, li_118, li_119, li_120, li_121, li_122, li_123, li_124, li_125, li_126, li_127, li_128, li_129, li_130, li_255, li_259, li_360, li_480, li_900, li_999, li_1000, li_1782, li_1783, li_9999, li_1000000000, am_nm, e1, bd_some, hb]
        rcases hc with hc | hc | hc
        · rw [hc] at ih ⊢
          rw [if_pos rfl]
          rw [jn_42] at ih; exact ih
        · rw [hc] at ih ⊢
          rw [if_neg (by decide)]
          rw [jn_47] at ih
          simp only [li_0, li_1, li_2, li_3, li_4, li_5, li_6, li_7, li_8, li_9, li_10, li_11, li_12, li_13, li_14, li_15, li_16, li_17, li_18, li_19, li_20, li_21, li_22, li_23, li_24, li_25, li_26, li_27, li_28, li_29, li_30, li_31, li_32, li_33, li_34, li_35, li_36, li_37, li_38, li_39, li_40, li_41, li_42, li_43, li_44, li_45, li_46, li_47, li_48, li_49, li_50, li_51, li_52, li_53, li_54, li_55, li_56, li_57, li_58, li_59, li_60, li_61, li_62, li_63, li_64, li_65, li_66, li_67, li_68, li_69, li_70, li_71, li_72, li_73, li_74, li_75, li_76, li_77, li_78, li_79, li_80, li_81, li_82, li_83, li_84, li_85, li_86, li_87, li_88, li_89, li_90, li_91, li_92, li_93, li_94, li_95, li_96, li_97, li_98, li_99, li_100, li_101, li_102, li_103, li_104, li_105, li_106, li_107, li_108, li_109, li_110, li_111, li_112, li_113, li_114, li_115, li_116, li_117, li_118, li_119, li_120, li_121, li_122, li_123, li_124, li_125, li_126, li_127, li_128, li_129, li_130, li_255, li_259, li_360, li_480, li_900, li_999, li_1000, li_1782, li_1783, li_9999, li_1000000000] at ih
          by_cases d : w = nI 0
          · rw [if_pos d] at ih ⊢; exact ih
          · rw [if_neg d] at ih ⊢
            rw [if_pos rfl]
            unfold am_dv
            rw [if_neg (fun q => d (by rw [q, li_0]))]
            exact ih
        · rw [hc] at ih ⊢
          rw [if_neg (by decide)]
          rw [jn_37] at ih
          simp only [li_0, li_1, li_2, li_3, li_4, li_5, li_6, li_7, li_8, li_9, li_10, li_11, li_12, li_13, li_14, li_15, li_16, li_17, li_18, li_19, li_20, li_21, li_22, li_23, li_24, li_25, li_26, li_27, li_28, li_29, li_30, li_31, li_32, li_33, li_34, li_35, li_36, li_37, li_38, li_39, li_40, li_41, li_42, li_43, li_44, li_45, li_46, li_47, li_48, li_49, li_50, li_51, li_52, li_53, li_54, li_55, li_56, li_57, li_58, li_59, li_60, li_61, li_62, li_63, li_64, li_65, li_66, li_67, li_68, li_69, li_70, li_71, li_72, li_73, li_74, li_75, li_76, li_77, li_78, li_79, li_80, li_81, li_82, li_83, li_84, li_85, li_86, li_87, li_88, li_89, li_90, li_91, li_92, li_93, li_94, li_95, li_96, li_97, li_98, li_99, li_100, li_101, li_102, li_103, li_104, li_105, li_106, li_107, li_108, li_109, li_110, li_111, li_112, li_113, li_114, li_115, li_116, li_117, li_118, li_119, li_120, li_121, li_122, li_123, li_124, li_125, li_126, li_127, li_128, li_129, li_130, li_255, li_259, li_360, li_480, li_900, li_999, li_1000, li_1782, li_1783, li_9999, li_1000000000] at ih
          by_cases d : w = nI 0
          · rw [if_pos d] at ih ⊢; exact ih
          · rw [if_neg d] at ih ⊢
            rw [if_neg (by decide)]
            unfold am_dv
            rw [if_neg (fun q => d (by rw [q, li_0]))]
            exact ih
      by_cases c : chL L by_ r.2.1 = 42
      · rw [if_pos c]; exact step (Or.inl c)
      · rw [if_neg c]
        by_cases c2 : chL L by_ r.2.1 = 47
        · rw [if_pos c2]; exact step (Or.inr (Or.inl c2))
        · rw [if_neg c2]
          by_cases c3 : chL L by_ r.2.1 = 37
          · rw [if_pos c3]; exact step (Or.inr (Or.inr c3))
          · rw [if_neg c3, pz_lp_n (fun q => by have := lv_4.mp q; omega)]
            exact ⟨v, μ, rfl, h3, h4⟩
