/-! the reference's six methods, together -/
theorem pz_5 {ch : Nat → Nat} (f lev o p : Nat) (h : lev < 5) : pz ch (f + 1) lev o p = pz_lp ch (fun q => pz ch f (lev + 1) o q) lev (if lev = 2 then 1 else 120) (pz ch f (lev + 1) o p) := by rw [pz, if_pos h]
theorem pz_mono {L : Nat} {by_ : Nat → Nat} (f lev o : Nat) : ∀ q, q ≤ L → q ≤ (pz (chL L by_) f lev o q).2.1 := fun q hq => (pz_all (chL_0 (L := L) (by_ := by_)) f lev o q hq).1
/-- the number loop -/
theorem re_num (N : Nat) {L : Nat} {by_ : Nat → Nat} {env : Nat → Int32} {o : Nat} {g_X10_both g_X10_compared g_X10_either g_X10_one g_X10_product g_X10_sums : am_M → Option (Int32 × am_M)} {μ0 : am_M} : ∀ (n m v t : Nat) (μ : am_M) (p : Nat), n + t = 4 → n + 1 ≤ m → v + 1 ≤ 10 ^ t → fr p_ref μ0 μ → RP L by_ env μ p o → (t = 0 → 48 ≤ chL L by_ p ∧ chL L by_ p ≤ 57) →
    ∃ (μ' : am_M), f_X10_one_176_lp N g_X10_both g_X10_compared g_X10_either g_X10_one g_X10_product g_X10_sums m (nI v) (nI t) μ = some (nI (pz_dg (chL L by_) n v p).1, μ') ∧ fr p_ref μ0 μ' ∧ RP L by_ env μ' (pz_dg (chL L by_) n v p).2 o
  | n, 0, v, t, μ, p, h1, h2, h3, h4, h5, h6 => by omega
  | n, m + 1, v, t, μ, p, h1, h2, h3, h4, h5, h6 => by
    unfold f_X10_one_176_lp f_X10_one_176 f_X10_one_229
    have hend : t ≠ 0 → (if nI t = nI 0 then am_bd (f_X10_fails N μ) (fun y19 μ18 => some (y19, μ18)) else some (nI v, μ)) = some (nI v, μ) := by
      intro ht
      rw [if_neg (fun q => ht ((nI_eq (by omega) (by omega)).mp q))]
    simp (disch := omega) only [li_0, li_1, li_2, li_3, li_4, li_5, li_6, li_7, li_8, li_9, li_10, li_11, li_12, li_13, li_14, li_15, li_16, li_17, li_18, li_19, li_20, li_21, li_22, li_23, li_24, li_25, li_26, li_27, li_28, li_29, li_30, li_31, li_32, li_33, li_34, li_35, li_36, li_37, li_38, li_39, li_40, li_41, li_42, li_43, li_44, li_45, li_46, li_47, li_48, li_49, li_50, li_51, li_52, li_53, li_54, li_55, li_56, li_57, li_58, li_59, li_60, li_61, li_62, li_63, li_64, li_65, li_66, li_67, li_68, li_69, li_70, li_71, li_72, li_73, li_74, li_75, li_76, li_77, li_78, li_79, li_80, li_81, li_82, li_83, li_84, li_85, li_86, li_87, li_88, li_89, li_90, li_91, li_92, li_93, li_94, li_95, li_96, li_97, li_98, li_99, li_100, li_101, li_102, li_103, li_104, li_105, li_106, li_107, li_108, li_109, li_110, li_111, li_112, li_113, li_114, li_115, li_116, li_117, li_118, li_119, li_120, li_121, li_122, li_123, li_124, li_125, li_126, li_127, li_128, li_129, li_130, li_255, li_259, li_360, li_480, li_900, li_999, li_1000, li_1782, li_1783, li_9999, li_1000000000, nI_leI, nI_ltI, byteAt_r N h5, bd_some]
    cases n with
    | zero =>
      rw [if_pos (by omega), hend (by omega)]
      exact ⟨μ, rfl, h4, h5⟩
    | succ n =>
      rw [if_neg (by omega)]
      have hc := chR_lt h5 p
      simp (disch := omega) only [nI_ltI]
      unfold pz_dg
      by_cases c : 48 ≤ chL L by_ p ∧ chL L by_ p ≤ 57
      · rw [if_neg (by omega), if_neg (by omega), if_pos c]
        have hlt := pz_lt (p := p) (chL_0 (L := L) (by_ := by_)) (by omega)
        obtain ⟨a1, a2⟩ := advR h5 hlt
        have hv4 : 10 ^ t ≤ 1000 := by
          have : t ≤ 3 := by omega
          exact Nat.le_trans (Nat.pow_le_pow_right (by decide) this) (by decide)
        have ev : nI 10 * nI v + nI (chL L by_ p) - nI 48 = nI (v * 10 + (chL L by_ p - 48)) := by
          rw [pk_mul, nI_add, pk_sub (by omega)]
          congr 1; omega
        have e10 : 10 ^ (t + 1) = 10 ^ t * 10 := Nat.pow_succ ..
        simp only [am_nm, ev, nI_add]
        exact re_num N n m (v * 10 + (chL L by_ p - 48)) (t + 1) _ (p + 1) (by omega) (by omega) (by omega) (h4.tr a2) a1 (by omega)
      · rw [if_neg c]
        have ht : t ≠ 0 := fun q => c (h6 q)
        by_cases c2 : chL L by_ p < 48
        · rw [if_pos c2, hend ht]
          exact ⟨μ, rfl, h4, h5⟩
        · rw [if_neg c2, if_pos (by omega), hend ht]
          exact ⟨μ, rfl, h4, h5⟩
theorem nameOf_r (N : Nat) {c : Nat} (h : pz_nm c = true) {env : Nat → Int32} {μ : am_M} (hE : EN env μ) : ∃ j, j < 7 ∧ f_X10_nameOf N (nI c) μ = some (nI j, μ) ∧ μ.1 183 0 j = env c := by
  obtain ⟨a0, a1, a2, a3, a4, a5, a6⟩ := hE
  simp only [pz_nm, Bool.or_eq_true, beq_iff_eq] at h
  rcases h with (((((h | h) | h) | h) | h) | h) | h <;> subst h
  · exact ⟨0, by decide, rfl, a0⟩
  · exact ⟨1, by decide, rfl, a1⟩
  · exact ⟨2, by decide, rfl, a2⟩
  · exact ⟨3, by decide, rfl, a3⟩
  · exact ⟨4, by decide, rfl, a4⟩
  · exact ⟨5, by decide, rfl, a5⟩
  · exact ⟨6, by decide, rfl, a6⟩
def nm_of (x : Int32) : Int32 := if x = 98 then 5 else if x = 99 then 2 else if x = 100 then -1 else if x = 101 then -1 else if x = 102 then -1 else if x = 103 then -1 else if x = 104 then -1 else if x = 105 then -1 else if x = 106 then -1 else if x = 107 then 1 else if x = 108 then -1 else if x = 109 then -1 else if x = 110 then 6 else if x = 111 then -1 else if x = 112 then 3 else if x = 113 then -1 else if x = 114 then -1 else if x = 115 then 4 else if x = 116 then 0 else -1
theorem nameOf_c (N : Nat) (x : Int32) (μ : am_M) : f_X10_nameOf N x μ = some (nm_of x, μ) := by
  unfold f_X10_nameOf f_X10_nameOf_0 nm_of
  by_cases h98 : x = 98
  · rw [if_pos h98, if_pos h98]
  rw [if_neg h98, if_neg h98]
  by_cases h99 : x = 99
  · rw [if_pos h99, if_pos h99]
  rw [if_neg h99, if_neg h99]
  by_cases h100 : x = 100
  · rw [if_pos h100, if_pos h100]
  rw [if_neg h100, if_neg h100]
  by_cases h101 : x = 101
  · rw [if_pos h101, if_pos h101]
  rw [if_neg h101, if_neg h101]
  by_cases h102 : x = 102
  · rw [if_pos h102, if_pos h102]
  rw [if_neg h102, if_neg h102]
  by_cases h103 : x = 103
  · rw [if_pos h103, if_pos h103]
  rw [if_neg h103, if_neg h103]
  by_cases h104 : x = 104
  · rw [if_pos h104, if_pos h104]
  rw [if_neg h104, if_neg h104]
  by_cases h105 : x = 105
  · rw [if_pos h105, if_pos h105]
  rw [if_neg h105, if_neg h105]
  by_cases h106 : x = 106
  · rw [if_pos h106, if_pos h106]
  rw [if_neg h106, if_neg h106]
  by_cases h107 : x = 107
  · rw [if_pos h107, if_pos h107]
  rw [if_neg h107, if_neg h107]
  by_cases h108 : x = 108
  · rw [if_pos h108, if_pos h108]
  rw [if_neg h108, if_neg h108]
  by_cases h109 : x = 109
  · rw [if_pos h109, if_pos h109]
  rw [if_neg h109, if_neg h109]
  by_cases h110 : x = 110
  · rw [if_pos h110, if_pos h110]
  rw [if_neg h110, if_neg h110]
  by_cases h111 : x = 111
  · rw [if_pos h111, if_pos h111]
  rw [if_neg h111, if_neg h111]
  by_cases h112 : x = 112
  · rw [if_pos h112, if_pos h112]
  rw [if_neg h112, if_neg h112]
  by_cases h113 : x = 113
  · rw [if_pos h113, if_pos h113]
  rw [if_neg h113, if_neg h113]
  by_cases h114 : x = 114
  · rw [if_pos h114, if_pos h114]
  rw [if_neg h114, if_neg h114]
  by_cases h115 : x = 115
  · rw [if_pos h115, if_pos h115]
  rw [if_neg h115, if_neg h115]
  by_cases h116 : x = 116
  · rw [if_pos h116, if_pos h116]
  rw [if_neg h116, if_neg h116]
theorem nm_no : ∀ c, c < 256 → pz_nm c = false → nm_of (nI c) < 0 := by decide +kernel
/-- one(), by what stands one deeper -/
theorem re_one (N : Nat) (hN : 130 ≤ N) {L : Nat} {by_ : Nat → Nat} {env : Nat → Int32} (f o D : Nat) (ho : o ≤ 6) (hI : o < 6 → re_S L by_ env (o + 1) (f_X10_both_g N D).2.2.1 (fun q => pz (chL L by_) f 0 (o + 1) q)) (hO : o < 6 → re_S L by_ env (o + 1) (f_X10_both_g N D).2.2.2.1 (fun q => pz (chL L by_) f 5 (o + 1) q)) : re_S L by_ env o (f_X10_both_g N (D + 1)).2.2.2.1 (fun q => pz (chL L by_) (f + 1) 5 o q) := by
  intro q μ hP
  show re_E L by_ env o (f_X10_one_0 N (f_X10_both_g N D).1 (f_X10_both_g N D).2.1 (f_X10_both_g N D).2.2.1 (f_X10_both_g N D).2.2.2.1 (f_X10_both_g N D).2.2.2.2.1 (f_X10_both_g N D).2.2.2.2.2 μ) μ (pz (chL L by_) (f + 1) 5 o q)
  have hno : re_C L by_ env o (nI 0) (am_ui μ 10 0 21 (nI q)) (false, (q, [])) := ⟨(fun h => (by cases h)), fun _ => RP_fault hP (fr.rf.ui rfl) (by simp [ui1]; exact hP.2.2.2.2.1) hP.2.2.2.2.2.1 (by simp [ui1])⟩
  unfold f_X10_one_0
  rw [hP.2.2.2.2.2.2.2.1, if_pos (by decide)]
  simp only [li_0, li_1, li_2, li_3, li_4, li_5, li_6, li_7, li_8, li_9, li_10, li_11, li_12, li_13, li_14, li_15, li_16, li_17, li_18, li_19, li_20, li_21, li_22, li_23, li_24, li_25, li_26, li_27, li_28, li_29, li_30, li_31, li_32, li_33, li_34, li_35, li_36, li_37, li_38, li_39, li_40, li_41, li_42, li_43, li_44, li_45, li_46, li_47, li_48, li_49, li_50, li_51, li_52, li_53, li_54, li_55, li_56, li_57, li_58, li_59, li_60, li_61, li_62, li_63, li_64, li_65, li_66, li_67, li_68, li_69, li_70, li_71, li_72, li_73, li_74, li_75, li_76, li_77, li_78, li_79, li_80, li_81, li_82, li_83, li_84, li_85, li_86, li_87, li_88, li_89, li_90, li_91, li_92, li_93, li_94, li_95, li_96, li_97, li_98, li_99, li_100, li_101, li_102, li_103, li_104, li_105, li_106, li_107, li_108, li_109, li_110, li_111, li_112, li_113, li_114, li_115, li_116, li_117, li_118, li_119, li_120, li_121, li_122, li_123, li_124, li_125, li_126, li_127, li_128, li_129, li_130, li_255, li_259, li_360, li_480, li_900, li_999, li_1000, li_1782, li_1783, li_9999, li_1000000000, byteAt_r N hP, bd_some, ch_eq hP q 33 (by decide), ch_eq hP q 45 (by decide), ch_eq hP q 40 (by decide)]
  rw [pz, if_neg (show ¬ ((5 : Nat) < 5) by decide)]
  by_cases c33 : chL L by_ q = 33 ∨ chL L by_ q = 45 ∨ chL L by_ q = 40
  · have hlt := pz_lt (p := q) (chL_0 (L := L) (by_ := by_)) (by omega)
    have c2 : ¬ (48 ≤ chL L by_ q ∧ chL L by_ q ≤ 57) := by omega
    have c3 : ¬ (pz_nm (chL L by_ q) = true) := by
      rcases c33 with h | h | h <;> rw [h] <;> decide
    rw [if_neg c2, if_neg c3]
    have key : re_E L by_ env o (f_X10_one_32 N (f_X10_both_g N D).1 (f_X10_both_g N D).2.1 (f_X10_both_g N D).2.2.1 (f_X10_both_g N D).2.2.2.1 (f_X10_both_g N D).2.2.2.2.1 (f_X10_both_g N D).2.2.2.2.2 (nI (chL L by_ q)) μ) μ (if (chL L by_ q = 33 ∨ chL L by_ q = 45 ∨ chL L by_ q = 40) ∧ o < 6 then (if chL L by_ q = 40 then (if (pz (chL L by_) f 0 (o + 1) (q + 1)).1 = true ∧ (chL L by_) (pz (chL L by_) f 0 (o + 1) (q + 1)).2.1 = 41 then (true, ((pz (chL L by_) f 0 (o + 1) (q + 1)).2.1 + 1, (pz (chL L by_) f 0 (o + 1) (q + 1)).2.2)) else (false, (pz (chL L by_) f 0 (o + 1) (q + 1)).2)) else ((pz (chL L by_) f 5 (o + 1) (q + 1)).1, ((pz (chL L by_) f 5 (o + 1) (q + 1)).2.1, (pz (chL L by_) f 5 (o + 1) (q + 1)).2.2 ++ [if chL L by_ q = 45 then -126 else -33]))) else (false, (q, []))) := by
      unfold f_X10_one_32 f_X10_one_83 f_X10_one_104
      rw [hP.2.2.2.2.2.2.2.2]
      simp (disch := omega) only [li_0, li_1, li_2, li_3, li_4, li_5, li_6, li_7, li_8, li_9, li_10, li_11, li_12, li_13, li_14, li_15, li_16, li_17, li_18, li_19, li_20, li_21, li_22, li_23, li_24, li_25, li_26, li_27, li_28, li_29, li_30, li_31, li_32, li_33, li_34, li_35, li_36, li_37, li_38, li_39, li_40, li_41, li_42, li_43, li_44, li_45, li_46, li_47, li_48, li_49, li_50, li_51, li_52, li_53, li_54, li_55, li_56, li_57, li_58, li_59, li_60, li_61, li_62, li_63, li_64, li_65, li_66, li_67, li_68, li_69, li_70, li_71, li_72, li_73, li_74, li_75, li_76, li_77, li_78, li_79, li_80, li_81, li_82, li_83, li_84, li_85, li_86, li_87, li_88, li_89, li_90, li_91, li_92, li_93, li_94, li_95, li_96, li_97, li_98, li_99, li_100, li_101, li_102, li_103, li_104, li_105, li_106, li_107, li_108, li_109, li_110, li_111, li_112, li_113, li_114, li_115, li_116, li_117, li_118, li_119, li_120, li_121, li_122, li_123, li_124, li_125, li_126, li_127, li_128, li_129, li_130, li_255, li_259, li_360, li_480, li_900, li_999, li_1000, li_1782, li_1783, li_9999, li_1000000000, nI_eq]
      by_cases c4 : o < 6
      · rw [if_neg (by omega), if_pos ⟨c33, c4⟩]
        have hf1 : fr p_ref μ (am_ui μ 10 0 22 (nI (o + 1))) := fr.rf.ui rfl
        have hP1 : RP L by_ env (am_ui μ 10 0 22 (nI (o + 1))) q (o + 1) := hP.fr hf1 (by simp [ui1]; exact hP.2.2.2.2.1) hP.2.2.2.2.2.1 (by simp [ui1]; exact hP.2.2.2.2.2.2.2.1) (by simp [ui1])
        obtain ⟨a1, a2⟩ := advR hP1 hlt
        simp only [am_nm, nI_add, ch_eq hP q 40 (by decide), ch_eq hP q 45 (by decide)]
        by_cases c5 : chL L by_ q = 40
        · rw [if_pos c5, if_pos c5]
          obtain ⟨v, μ1, e1, e2, e3⟩ := hI c4 (q + 1) _ a1
          have e3' : re_C L by_ env (o + 1) v μ1 (pz (chL L by_) f 0 (o + 1) (q + 1)) := e3
          simp only [e1, bd_some]
          rw [if_pos c5]
          by_cases c6 : (pz (chL L by_) f 0 (o + 1) (q + 1)).1 = true
          · obtain ⟨hP2, hv⟩ := e3'.1 c6
            have ht := takes_r N hP2 41 (by decide)
            rw [ht]
            by_cases c7 : chL L by_ (pz (chL L by_) f 0 (o + 1) (q + 1)).2.1 = 41
            · rw [if_pos c7, if_pos ⟨c6, c7⟩, bd_some, if_neg (by decide), if_pos c5]
              have hlt2 := pz_lt (p := (pz (chL L by_) f 0 (o + 1) (q + 1)).2.1) (chL_0 (L := L) (by_ := by_)) (by omega)
              obtain ⟨b1, b2'⟩ := advR hP2 hlt2
              have hf3 : fr p_ref μ (am_ui (am_ui μ1 10 0 19 (μ1.1 10 0 19 + nI 1)) 10 0 22 ((am_ui μ1 10 0 19 (μ1.1 10 0 19 + nI 1)).1 10 0 22 - nI 1)) := (((hf1.tr a2).tr e2).tr b2').ui rfl
              refine ⟨v, _, rfl, hf3, fun _ => ⟨hP.fr hf3 (by simp [ui1]; rw [hP2.2.2.2.2.1, nI_add]) b1.2.2.2.2.2.1 (by simp [ui1]; exact hP2.2.2.2.2.2.2.2.1) ?_, hv⟩, (fun h => (by cases h))⟩
              show (am_ui μ1 10 0 19 (μ1.1 10 0 19 + nI 1)).1 10 0 22 - nI 1 = nI o
              rw [b1.2.2.2.2.2.2.2.2, pk_sub (by omega)]
              rfl
            · rw [if_neg c7, if_neg (fun h => c7 h.2), bd_some, if_pos rfl, fails_r N hP2, bd_some]
              have hf3 : fr p_ref μ (am_ui μ1 10 0 21 (nI (pz (chL L by_) f 0 (o + 1) (q + 1)).2.1)) := ((hf1.tr a2).tr e2).ui rfl
              exact ⟨nI 0, _, rfl, hf3, (fun h => (by cases h)), fun _ => RP_fault hP hf3 (by simp [ui1]; exact hP2.2.2.2.2.1) hP2.2.2.2.2.2.1 (by simp [ui1])⟩
          · have hF := e3'.2 (by simpa using c6)
            have hlt3 : (pz (chL L by_) f 0 (o + 1) (q + 1)).2.1 < 2147483648 := by have := hF.2.1; have := hF.2.2.2.2.2.1; omega
            rw [takes_f N _ hF.2.2.2.2.2.2.2 hlt3, bd_some, if_pos rfl, if_neg (fun h => c6 h.1), fails_f N hF.2.2.2.2.2.2.2 hlt3, bd_some]
            have hf3 : fr p_ref μ1 (am_ui μ1 10 0 21 (nI (pz (chL L by_) f 0 (o + 1) (q + 1)).2.1)) := fr.rf.ui rfl
            exact ⟨nI 0, _, rfl, ((hf1.tr a2).tr e2).tr hf3, (fun h => (by cases h)), fun _ => RF_fault hF hf3 (by simp [ui1]) (by simp [ui1]; exact hF.2.2.2.2.2.2.2.symm)⟩
        · rw [if_neg c5, if_neg c5]
          obtain ⟨v, μ1, e1, e2, e3⟩ := hO c4 (q + 1) _ a1
          have e3' : re_C L by_ env (o + 1) v μ1 (pz (chL L by_) f 5 (o + 1) (q + 1)) := e3
          simp only [e1, bd_some]
          rw [if_neg c5, if_neg c5]
          have hf3 : fr p_ref μ (am_ui μ1 10 0 22 (μ1.1 10 0 22 - nI 1)) := ((hf1.tr a2).tr e2).ui rfl
          have hC : ∀ v', (∀ k, pz_ev env (pz (chL L by_) f 5 (o + 1) (q + 1)).2.2 k = v :: k → pz_ev env ((pz (chL L by_) f 5 (o + 1) (q + 1)).2.2 ++ [if chL L by_ q = 45 then -126 else -33]) k = v' :: k) → re_C L by_ env o v' (am_ui μ1 10 0 22 (μ1.1 10 0 22 - nI 1)) ((pz (chL L by_) f 5 (o + 1) (q + 1)).1, ((pz (chL L by_) f 5 (o + 1) (q + 1)).2.1, (pz (chL L by_) f 5 (o + 1) (q + 1)).2.2 ++ [if chL L by_ q = 45 then -126 else -33])) := by
            intro v' hv'
            refine ⟨fun h => ?_, fun h => ?_⟩
            · obtain ⟨hP2, hv⟩ := e3'.1 h
              refine ⟨hP.fr hf3 (by simp [ui1]; exact hP2.2.2.2.2.1) hP2.2.2.2.2.2.1 (by simp [ui1]; exact hP2.2.2.2.2.2.2.2.1) ?_, fun k => hv' k (hv k)⟩
              show μ1.1 10 0 22 - nI 1 = nI o
              rw [hP2.2.2.2.2.2.2.2.2, pk_sub (by omega)]
              rfl
            · have hF := e3'.2 h
              exact RF_fault hF (fr.rf.ui rfl) (by simp [ui1]) (by simp [ui1])
          by_cases c6 : chL L by_ q = 45
          · rw [if_pos c6]
            refine ⟨-v, _, rfl, hf3, ?_⟩
            have := hC (-v) (fun k hk => by rw [ev_app, hk, if_pos c6]; rfl)
            simpa [li_126, li_33] using this
          · rw [if_neg c6]
            by_cases c8 : v = nI 0
            · rw [if_pos c8]
              refine ⟨nI 1, _, rfl, hf3, ?_⟩
              have := hC (nI 1) (fun k hk => by rw [ev_app, hk, if_neg c6, ev_one, do_not, c8]; rfl)
              simpa [li_126, li_33] using this
            · rw [if_neg c8]
              refine ⟨nI 0, _, rfl, hf3, ?_⟩
              have := hC (nI 0) (fun k hk => by rw [ev_app, hk, if_neg c6, ev_one, do_not, if_neg (fun e => c8 (by rw [e, li_0]))]; rfl)
              simpa [li_126, li_33] using this
      · rw [if_pos (by omega), if_neg (fun h => c4 h.2), fails_r N hP, bd_some]
        exact ⟨nI 0, _, rfl, fr.rf.ui rfl, hno⟩
    by_cases d1 : chL L by_ q = 33
    · rw [if_pos d1]; exact key
    · rw [if_neg d1]
      by_cases d2 : chL L by_ q = 45
      · rw [if_pos d2]; exact key
      · rw [if_neg d2, if_pos (by omega)]; exact key
  · rw [if_neg (by omega), if_neg (by omega), if_neg (by omega)]
    by_cases c3 : pz_nm (chL L by_ q) = true
    · obtain ⟨j, hj, hn, hv⟩ := nameOf_r N c3 hP.2.2.2.1
      have hlt := pz_lt (p := q) (chL_0 (L := L) (by_ := by_)) (pz_nm_ne c3).1
      obtain ⟨a1, a2⟩ := advR hP hlt
      have c2 : ¬ (48 ≤ chL L by_ q ∧ chL L by_ q ≤ 57) := by
        simp only [pz_nm, Bool.or_eq_true, beq_iff_eq] at c3
        omega
      rw [hn, bd_some, if_neg (by rw [← li_0]; exact nI_pos (by omega)), if_neg c2, if_pos c3]
      simp (disch := omega) only [am_nm, gd_nI]
      refine ⟨_, _, rfl, a2, fun _ => ⟨a1, fun k => ?_⟩, (fun h => (by cases h))⟩
      rw [ev_one, do_nm env c3]
      simp [ui1, hv]
    · have hc := chR_lt hP q
      rw [nameOf_c, bd_some, if_pos (by rw [← li_0]; exact nm_no _ hc (by simpa using c3)), if_neg c3]
      by_cases c2 : 48 ≤ chL L by_ q ∧ chL L by_ q ≤ 57
      · rw [if_pos c2]
        obtain ⟨μ', e1, e2, e3⟩ := re_num N (g_X10_both := (f_X10_both_g N D).1) (g_X10_compared := (f_X10_both_g N D).2.1) (g_X10_either := (f_X10_both_g N D).2.2.1) (g_X10_one := (f_X10_both_g N D).2.2.2.1) (g_X10_product := (f_X10_both_g N D).2.2.2.2.1) (g_X10_sums := (f_X10_both_g N D).2.2.2.2.2) (μ0 := μ) 4 N 0 0 μ q rfl (by omega) (by decide) fr.rf hP (fun _ => c2)
        refine ⟨_, μ', e1, e2, fun _ => ⟨e3, fun k => ?_⟩, (fun h => (by cases h))⟩
        have := pz_dg_v (chL L by_) 4 0 q
        rw [ev_one, do_num env (by omega)]
      · rw [if_neg c2, if_neg (fun h => c33 h.1)]
        obtain ⟨m, rfl⟩ : ∃ m, N = m + 1 := ⟨N - 1, by omega⟩
        have hfail : f_X10_one_176_lp (m + 1) (f_X10_both_g (m + 1) D).1 (f_X10_both_g (m + 1) D).2.1 (f_X10_both_g (m + 1) D).2.2.1 (f_X10_both_g (m + 1) D).2.2.2.1 (f_X10_both_g (m + 1) D).2.2.2.2.1 (f_X10_both_g (m + 1) D).2.2.2.2.2 (m + 1) (nI 0) (nI 0) μ = some (nI 0, am_ui μ 10 0 21 (nI q)) := by
          unfold f_X10_one_176_lp f_X10_one_176 f_X10_one_229
          simp (disch := omega) only [li_0, li_1, li_2, li_3, li_4, li_5, li_6, li_7, li_8, li_9, li_10, li_11, li_12, li_13, li_14, li_15, li_16, li_17, li_18, li_19, li_20, li_21, li_22, li_23, li_24, li_25, li_26, li_27, li_28, li_29, li_30, li_31, li_32, li_33, li_34, li_35, li_36, li_37, li_38, li_39, li_40, li_41, li_42, li_43, li_44, li_45, li_46, li_47, li_48, li_49, li_50, li_51, li_52, li_53, li_54, li_55, li_56, li_57, li_58, li_59, li_60, li_61, li_62, li_63, li_64, li_65, li_66, li_67, li_68, li_69, li_70, li_71, li_72, li_73, li_74, li_75, li_76, li_77, li_78, li_79, li_80, li_81, li_82, li_83, li_84, li_85, li_86, li_87, li_88, li_89, li_90, li_91, li_92, li_93, li_94, li_95, li_96, li_97, li_98, li_99, li_100, li_101, li_102, li_103, li_104, li_105, li_106, li_107, li_108, li_109, li_110, li_111, li_112, li_113, li_114, li_115, li_116, li_117, li_118, li_119, li_120, li_121, li_122, li_123, li_124, li_125, li_126, li_127, li_128, li_129, li_130, li_255, li_259, li_360, li_480, li_900, li_999, li_1000, li_1782, li_1783, li_9999, li_1000000000, nI_leI, nI_ltI, byteAt_r (m + 1) hP, bd_some, nI_eq, fails_r (m + 1) hP]
          rw [if_neg (by decide), if_pos trivial]
          by_cases c8 : chL L by_ q < 48
          · rw [if_pos c8]
          · rw [if_neg c8, if_pos (by omega)]
        rw [hfail]
        exact ⟨nI 0, _, rfl, fr.rf.ui rfl, hno⟩
