/-! the class reads a text as pz says -/
def rd_E (L : Nat) (by_ : Nat → Nat) (x : Option (Int32 × am_M)) (μ : am_M) (w : Nat) (R : pz_R) : Prop := ∃ (μ' : am_M) (w' : Nat), x = some (b2 R.1, μ') ∧ fr p_tape μ μ' ∧ TP L by_ μ' R.2.1 w' ∧ SP μ w μ' w' R.2.2
def rd_S (L : Nat) (by_ : Nat → Nat) (g : am_M → Option (Int32 × am_M)) (sub : Nat → pz_R) : Prop :=
  ∀ (q : Nat) (μ : am_M) (w : Nat), TP L by_ μ q w → rd_E L by_ (g μ) μ w (sub q)
theorem rd_lp (N : Nat) {L : Nat} {by_ : Nat → Nat} {g1 g3 : Int32 → am_M → Option (Int32 × am_M)} {g2 g4 : Int32 → Int32 → am_M → Option (Int32 × am_M)} {lev o : Nat} (hl : lev < 5) (ho : o ≤ 6) {sub : Nat → pz_R} (hs : rd_S L by_ (g2 (nI (lev + 1)) (nI o)) sub) {μ0 : am_M} {w0 : Nat} {most : Nat} (hmost : most ≤ 120) :
    ∀ (n m t : Nat) (r : pz_R) (μ : am_M) (w : Nat), n + t = most → n + 1 ≤ m → fr p_tape μ0 μ → TP L by_ μ r.2.1 w → SP μ0 w0 μ w r.2.2 → ∃ (μ' : am_M) (w' : Nat), f_X6_readLevel_36_lp N g1 g2 g3 g4 m (nI lev) (nI o) (b2 r.1) (nI most) (nI t) μ = some (b2 (pz_lp (chL L by_) sub lev n r).1, μ') ∧ fr p_tape μ0 μ' ∧ TP L by_ μ' (pz_lp (chL L by_) sub lev n r).2.1 w' ∧ SP μ0 w0 μ' w' (pz_lp (chL L by_) sub lev n r).2.2
  | n, 0, t, r, μ, w, h1, h2, h3, h4, h5 => by omega
  | n, m + 1, t, r, μ, w, h1, h2, h3, h4, h5 => by
    unfold f_X6_readLevel_36_lp f_X6_readLevel_36
    simp (disch := omega) only [li_0, li_1, li_2, li_3, li_4, li_5, li_6, li_7, li_8, li_9, li_10, li_11, li_12, li_13, li_14, li_15, li_16, li_17, li_18, li_19, li_20, li_21, li_22, li_23, li_24, li_25, li_26, li_27, li_28, li_29, li_30, li_31, li_32, li_33, li_34, li_35, li_36, li_37, li_38, li_39, li_40, li_41, li_42, li_43, li_44, li_45, li_46, li_47, li_48, li_49, li_50, li_51, li_52, li_53, li_54, li_55, li_56, li_57, li_58, li_59, li_60, li_61, li_62, li_63, li_64, li_65, li_66, li_67, li_68, li_69, li_70, li_71, li_72, li_73, li_74, li_75, li_76, li_77, li_78, li_79, li_80, li_81, li_82, li_83, li_84, li_85, li_86, li_87, li_88, li_89, li_90, li_91, li_92, li_93, li_94, li_95, li_96, li_97, li_98, li_99, li_100, li_101, li_102, li_103, li_104, li_105, li_106, li_107, li_108, li_109, li_110, li_111, li_112, li_113, li_114, li_115, li_116, li_117, li_118, li_119, li_120, li_121, li_122, li_123, li_124, li_125, li_126, li_127, li_128, li_129, li_130, li_255, li_259, li_360, li_480, li_900, li_999, li_1000, li_1782, li_1783, li_9999, li_1000000000, nI_leI, here_c N h4, bd_some, levelOf_c, b2_0, b2_z]
    cases hr : r.1 with
    | false =>
      rw [if_pos rfl]
      have e : pz_lp (chL L by_) sub lev n r = r := by
        cases n with
        | zero => rfl
        | succ n => unfold pz_lp; rw [if_neg (fun q => by rw [hr] at q; cases q.1)]
      rw [e, hr]
      exact ⟨μ, w, rfl, h3, h4, h5⟩
    | true =>
      rw [if_neg (by decide)]
      cases n with
      | zero =>
        rw [if_pos (by omega)]
        exact ⟨μ, w, by show _ = some (b2 r.1, μ); rw [hr], h3, h4, h5⟩
      | succ n =>
        rw [if_neg (by omega)]
        unfold pz_lp
        by_cases c : pz_lv (chL L by_ r.2.1) = lev
        · rw [if_pos ((lv_h h4 hl).mpr c), if_pos ⟨hr, c⟩]
          have hne := (pz_lv_ne c hl).1
          have hlt := pz_lt (p := r.2.1) (chL_0 (L := L) (by_ := by_)) hne
          obtain ⟨a1, a2, a3⟩ := adv_c h4 hlt
          simp only [li_1] at a1 a2 a3
          obtain ⟨μ1, w1, e1, e2, e3, e4⟩ := hs (r.2.1 + 1) _ w a1
          simp only [am_nm, nI_add, e1, bd_some]
          obtain ⟨μ2, w2, g1', g2', g3', g4'⟩ := write_c N e3 (-hvL L by_ r.2.1)
          rw [g1', bd_some]
          rw [hv_nI hne] at g4'
          refine rd_lp N hl ho hs hmost n m (t + 1) ((sub (r.2.1 + 1)).1, ((sub (r.2.1 + 1)).2.1, (r.2.2 ++ (sub (r.2.1 + 1)).2.2) ++ [-(nI (chL L by_ r.2.1))])) μ2 w2 (by omega) (by omega) ((h3.tr a2).tr (e2.tr g2')) g3' ?_
          have hA := (h5.tr a3).tr (e4.tr g4')
          simpa using hA
        · rw [if_neg (fun q => c ((lv_h h4 hl).mp q)), if_neg (fun q => c q.2)]
          exact ⟨μ, w, by rw [hr], h3, h4, h5⟩
/-- readOne, by what stands two deeper -/
theorem rd_1 (N : Nat) (hN : 130 ≤ N) {L : Nat} {by_ : Nat → Nat} (f o D : Nat) (ho : o ≤ 6) (hI : o < 6 → rd_S L by_ ((f_X6_readInside_g N D).2.1 (nI 0) (nI (o + 1))) (fun q => pz (chL L by_) f 0 (o + 1) q)) (hO : o < 6 → rd_S L by_ ((f_X6_readInside_g N D).2.2.1 (nI (o + 1))) (fun q => pz (chL L by_) f 5 (o + 1) q)) : rd_S L by_ ((f_X6_readInside_g N (D + 2)).2.2.1 (nI o)) (fun q => pz (chL L by_) (f + 1) 5 o q) := by
  intro q μ w hT
  show rd_E L by_ (f_X6_readOne_0 N (f_X6_readInside_g N (D + 1)).1 (f_X6_readInside_g N (D + 1)).2.1 (f_X6_readInside_g N (D + 1)).2.2.1 (f_X6_readInside_g N (D + 1)).2.2.2 (nI o) μ) μ w (pz (chL L by_) (f + 1) 5 o q)
  unfold f_X6_readOne_0
  simp (disch := omega) only [li_0, li_1, li_2, li_3, li_4, li_5, li_6, li_7, li_8, li_9, li_10, li_11, li_12, li_13, li_14, li_15, li_16, li_17, li_18, li_19, li_20, li_21, li_22, li_23, li_24, li_25, li_26, li_27, li_28, li_29, li_30, li_31, li_32, li_33, li_34, li_35, li_36, li_37, li_38, li_39, li_40, li_41, li_42, li_43, li_44, li_45, li_46, li_47, li_48, li_49, li_50, li_51, li_52, li_53, li_54, li_55, li_56, li_57, li_58, li_59, li_60, li_61, li_62, li_63, li_64, li_65, li_66, li_67, li_68, li_69, li_70, li_71, li_72, li_73, li_74, li_75, li_76, li_77, li_78, li_79, li_80, li_81, li_82, li_83, li_84, li_85, li_86, li_87, li_88, li_89, li_90, li_91, li_92, li_93, li_94, li_95, li_96, li_97, li_98, li_99, li_100, li_101, li_102, li_103, li_104, li_105, li_106, li_107, li_108, li_109, li_110, li_111, li_112, li_113, li_114, li_115, li_116, li_117, li_118, li_119, li_120, li_121, li_122, li_123, li_124, li_125, li_126, li_127, li_128, li_129, li_130, li_255, li_259, li_360, li_480, li_900, li_999, li_1000, li_1782, li_1783, li_9999, li_1000000000, here_c N hT, bd_some, w_cls, isName_h N hT, b2_0]
  rw [pz, if_neg (show ¬ ((5 : Nat) < 5) by decide)]
  by_cases c2 : 48 ≤ chL L by_ q ∧ chL L by_ q ≤ 57
  · rw [if_pos ((hv_rng hT).mpr c2), if_neg (by decide), if_pos c2]
    obtain ⟨μ1, w1, e1, e2, e3, e4⟩ := num_lp N (L := L) (by_ := by_) 4 N 0 0 μ q w rfl (by omega) (by decide) hT
    unfold f_X6_readNumber f_X6_readNumber_0
    simp only [li_0, li_1, li_2, li_3, li_4, li_5, li_6, li_7, li_8, li_9, li_10, li_11, li_12, li_13, li_14, li_15, li_16, li_17, li_18, li_19, li_20, li_21, li_22, li_23, li_24, li_25, li_26, li_27, li_28, li_29, li_30, li_31, li_32, li_33, li_34, li_35, li_36, li_37, li_38, li_39, li_40, li_41, li_42, li_43, li_44, li_45, li_46, li_47, li_48, li_49, li_50, li_51, li_52, li_53, li_54, li_55, li_56, li_57, li_58, li_59, li_60, li_61, li_62, li_63, li_64, li_65, li_66, li_67, li_68, li_69, li_70, li_71, li_72, li_73, li_74, li_75, li_76, li_77, li_78, li_79, li_80, li_81, li_82, li_83, li_84, li_85, li_86, li_87, li_88, li_89, li_90, li_91, li_92, li_93, li_94, li_95, li_96, li_97, li_98, li_99, li_100, li_101, li_102, li_103, li_104, li_105, li_106, li_107, li_108, li_109, li_110, li_111, li_112, li_113, li_114, li_115, li_116, li_117, li_118, li_119, li_120, li_121, li_122, li_123, li_124, li_125, li_126, li_127, li_128, li_129, li_130, li_255, li_259, li_360, li_480, li_900, li_999, li_1000, li_1782, li_1783, li_9999, li_1000000000] at e1 ⊢
    rw [e1, bd_some, z_1]
    exact ⟨μ1, w1, rfl, e2, e3, e4⟩
  · rw [if_neg (fun h => c2 ((hv_rng hT).mp h)), if_pos rfl, if_neg c2]
    by_cases c3 : pz_nm (chL L by_ q) = true
    · rw [if_neg (by rw [c3]; decide), if_pos c3]
      have hne := (pz_nm_ne c3).1
      have hlt := pz_lt (p := q) (chL_0 (L := L) (by_ := by_)) hne
      obtain ⟨a1, a2, a3⟩ := adv_c hT hlt
      simp only [li_1] at a1 a2 a3
      obtain ⟨μ1, w1, e1, e2, e3, e4⟩ := write_c N a1 (-hvL L by_ q)
      simp only [am_nm, e1, bd_some, z_1]
      rw [hv_nI hne] at e4
      exact ⟨μ1, w1, rfl, a2.tr e2, e3, by simpa using a3.tr e4⟩
    · rw [if_pos (by simpa using c3), if_neg c3]
      by_cases c33 : chL L by_ q = 33 ∨ chL L by_ q = 45 ∨ chL L by_ q = 40
      · have hne : chL L by_ q ≠ 0 := by omega
        have hlt := pz_lt (p := q) (chL_0 (L := L) (by_ := by_)) hne
        have key : rd_E L by_ (f_X6_readOne_65 N (f_X6_readInside_g N (D + 1)).1 (f_X6_readInside_g N (D + 1)).2.1 (f_X6_readInside_g N (D + 1)).2.2.1 (f_X6_readInside_g N (D + 1)).2.2.2 (nI o) (hvL L by_ q) μ) μ w (if (chL L by_ q = 33 ∨ chL L by_ q = 45 ∨ chL L by_ q = 40) ∧ o < 6 then (if chL L by_ q = 40 then (if (pz (chL L by_) f 0 (o + 1) (q + 1)).1 = true ∧ (chL L by_) (pz (chL L by_) f 0 (o + 1) (q + 1)).2.1 = 41 then (true, ((pz (chL L by_) f 0 (o + 1) (q + 1)).2.1 + 1, (pz (chL L by_) f 0 (o + 1) (q + 1)).2.2)) else (false, (pz (chL L by_) f 0 (o + 1) (q + 1)).2)) else ((pz (chL L by_) f 5 (o + 1) (q + 1)).1, ((pz (chL L by_) f 5 (o + 1) (q + 1)).2.1, (pz (chL L by_) f 5 (o + 1) (q + 1)).2.2 ++ [if chL L by_ q = 45 then -126 else -33]))) else (false, (q, []))) := by
          unfold f_X6_readOne_65
          simp (disch := omega) only [li_0, li_1, li_2, li_3, li_4, li_5, li_6, li_7, li_8, li_9, li_10, li_11, li_12, li_13, li_14, li_15, li_16, li_17, li_18, li_19, li_20, li_21, li_22, li_23, li_24, li_25, li_26, li_27, li_28, li_29, li_30, li_31, li_32, li_33, li_34, li_35, li_36, li_37, li_38, li_39, li_40, li_41, li_42, li_43, li_44, li_45, li_46, li_47, li_48, li_49, li_50, li_51, li_52, li_53, li_54, li_55, li_56, li_57, li_58, li_59, li_60, li_61, li_62, li_63, li_64, li_65, li_66, li_67, li_68, li_69, li_70, li_71, li_72, li_73, li_74, li_75, li_76, li_77, li_78, li_79, li_80, li_81, li_82, li_83, li_84, li_85, li_86, li_87, li_88, li_89, li_90, li_91, li_92, li_93, li_94, li_95, li_96, li_97, li_98, li_99, li_100, li_101, li_102, li_103, li_104, li_105, li_106, li_107, li_108, li_109, li_110, li_111, li_112, li_113, li_114, li_115, li_116, li_117, li_118, li_119, li_120, li_121, li_122, li_123, li_124, li_125, li_126, li_127, li_128, li_129, li_130, li_255, li_259, li_360, li_480, li_900, li_999, li_1000, li_1782, li_1783, li_9999, li_1000000000, nI_ltI, nI_add]
          by_cases c4 : o < 6
          · rw [if_pos c4, if_pos ⟨c33, c4⟩]
            obtain ⟨a1, a2, a3⟩ := adv_c hT hlt
            simp only [li_1] at a1 a2 a3
            simp only [am_nm, hv_eq hT (c := 40) (by decide) (by decide)]
            by_cases c5 : chL L by_ q = 40
            · rw [if_pos c5, if_pos c5]
              show rd_E L by_ (am_bd (f_X6_readInside_0 N (f_X6_readInside_g N D).1 (f_X6_readInside_g N D).2.1 (f_X6_readInside_g N D).2.2.1 (f_X6_readInside_g N D).2.2.2 (nI (o + 1)) _) _) μ w _
              unfold f_X6_readInside_0
              obtain ⟨μ1, w1, e1, e2, e3, e4⟩ := hI c4 (q + 1) _ w a1
              simp only [li_0, li_1, li_2, li_3, li_4, li_5, li_6, li_7, li_8, li_9, li_10, li_11, li_12, li_13, li_14, li_15, li_16, li_17, li_18, li_19, li_20, li_21, li_22, li_23, li_24, li_25, li_26, li_27, li_28, li_29, li_30, li_31, li_32, li_33, li_34, li_35, li_36, li_37, li_38, li_39, li_40, li_41, li_42, li_43, li_44, li_45, li_46, li_47, li_48, li_49, li_50, li_51, li_52, li_53, li_54, li_55, li_56, li_57, li_58, li_59, li_60, li_61, li_62, li_63, li_64, li_65, li_66, li_67, li_68, li_69, li_70, li_71, li_72, li_73, li_74, li_75, li_76, li_77, li_78, li_79, li_80, li_81, li_82, li_83, li_84, li_85, li_86, li_87, li_88, li_89, li_90, li_91, li_92, li_93, li_94, li_95, li_96, li_97, li_98, li_99, li_100, li_101, li_102, li_103, li_104, li_105, li_106, li_107, li_108, li_109, li_110, li_111, li_112, li_113, li_114, li_115, li_116, li_117, li_118, li_119, li_120, li_121, li_122, li_123, li_124, li_125, li_126, li_127, li_128, li_129, li_130, li_255, li_259, li_360, li_480, li_900, li_999, li_1000, li_1782, li_1783, li_9999, li_1000000000, e1, bd_some, here_c N e3, b2_0]
              by_cases c6 : (pz (chL L by_) f 0 (o + 1) (q + 1)).1 = true
              · have e3' : TP L by_ μ1 (pz (chL L by_) f 0 (o + 1) (q + 1)).2.1 w1 := e3
                rw [if_neg (by rw [c6]; decide)]
                simp only [hv_eq e3' (c := 41) (by decide) (by decide)]
                by_cases c7 : chL L by_ (pz (chL L by_) f 0 (o + 1) (q + 1)).2.1 = 41
                · rw [if_pos c7, if_pos ⟨c6, c7⟩]
                  have hlt2 := pz_lt (p := (pz (chL L by_) f 0 (o + 1) (q + 1)).2.1) (chL_0 (L := L) (by_ := by_)) (by omega)
                  obtain ⟨b1, b2', b3⟩ := adv_c e3 hlt2
                  simp only [li_1] at b1 b2' b3
                  simp only [am_nm, z_1, bd_some]
                  exact ⟨_, w1, rfl, (a2.tr e2).tr b2', b1, by simpa using (a3.tr e4).tr b3⟩
                · rw [if_neg c7, if_neg (fun h => c7 h.2), z_0, bd_some, z_0]
                  exact ⟨μ1, w1, rfl, a2.tr e2, e3, by simpa using a3.tr e4⟩
              · rw [if_pos (by simpa using c6), if_neg (fun h => c6 h.1), z_0, bd_some, z_0]
                exact ⟨μ1, w1, rfl, a2.tr e2, e3, by simpa using a3.tr e4⟩
            · rw [if_neg c5, if_neg c5]
              show rd_E L by_ (am_bd (f_X6_readSigned_0 N (f_X6_readInside_g N D).1 (f_X6_readInside_g N D).2.1 (f_X6_readInside_g N D).2.2.1 (f_X6_readInside_g N D).2.2.2 (hvL L by_ q) (nI (o + 1)) _) _) μ w _
              unfold f_X6_readSigned_0
              obtain ⟨μ1, w1, e1, e2, e3, e4⟩ := hO c4 (q + 1) _ w a1
              simp only [li_0, li_1, li_2, li_3, li_4, li_5, li_6, li_7, li_8, li_9, li_10, li_11, li_12, li_13, li_14, li_15, li_16, li_17, li_18, li_19, li_20, li_21, li_22, li_23, li_24, li_25, li_26, li_27, li_28, li_29, li_30, li_31, li_32, li_33, li_34, li_35, li_36, li_37, li_38, li_39, li_40, li_41, li_42, li_43, li_44, li_45, li_46, li_47, li_48, li_49, li_50, li_51, li_52, li_53, li_54, li_55, li_56, li_57, li_58, li_59, li_60, li_61, li_62, li_63, li_64, li_65, li_66, li_67, li_68, li_69, li_70, li_71, li_72, li_73, li_74, li_75, li_76, li_77, li_78, li_79, li_80, li_81, li_82, li_83, li_84, li_85, li_86, li_87, li_88, li_89, li_90, li_91, li_92, li_93, li_94, li_95, li_96, li_97, li_98, li_99, li_100, li_101, li_102, li_103, li_104, li_105, li_106, li_107, li_108, li_109, li_110, li_111, li_112, li_113, li_114, li_115, li_116, li_117, li_118, li_119, li_120, li_121, li_122, li_123, li_124, li_125, li_126, li_127, li_128, li_129, li_130, li_255, li_259, li_360, li_480, li_900, li_999, li_1000, li_1782, li_1783, li_9999, li_1000000000, e1, bd_some, hv_eq hT (c := 45) (by decide) (by decide)]
              unfold f_X6_readSigned_20
              by_cases c6 : chL L by_ q = 45
              · rw [if_pos c6, if_pos c6]
                obtain ⟨μ2, w2, g1, g2, g3, g4⟩ := write_c N e3 (-nI 126)
                simp only [g1, bd_some, b2_z]
                exact ⟨μ2, w2, rfl, (a2.tr e2).tr g2, g3, by simpa using (a3.tr e4).tr g4⟩
              · rw [if_neg c6, if_neg c6]
                obtain ⟨μ2, w2, g1, g2, g3, g4⟩ := write_c N e3 (-hvL L by_ q)
                simp only [g1, bd_some, b2_z]
                have e33 : chL L by_ q = 33 := by omega
                rw [hv_nI hne, e33] at g4
                exact ⟨μ2, w2, rfl, (a2.tr e2).tr g2, g3, by simpa using (a3.tr e4).tr g4⟩
          · rw [if_neg c4, if_neg (fun h => c4 h.2), z_0]
            exact ⟨μ, w, rfl, fr.rf, hT, SP.rf⟩
        simp only [hv_eq hT (c := 33) (by decide) (by decide), hv_eq hT (c := 45) (by decide) (by decide), hv_eq hT (c := 40) (by decide) (by decide)]
        by_cases d1 : chL L by_ q = 33
        · rw [if_pos d1]; exact key
        · rw [if_neg d1]
          by_cases d2 : chL L by_ q = 45
          · rw [if_pos d2]; exact key
          · rw [if_neg d2, if_pos (by omega)]; exact key
      · simp only [hv_eq hT (c := 33) (by decide) (by decide), hv_eq hT (c := 45) (by decide) (by decide), hv_eq hT (c := 40) (by decide) (by decide)]
        rw [if_neg (by omega), if_neg (by omega), if_neg (by omega), if_neg (fun h => c33 h.1), z_0]
        exact ⟨μ, w, rfl, fr.rf, hT, SP.rf⟩
theorem rd_c (N : Nat) (hN : 130 ≤ N) {L : Nat} {by_ : Nat → Nat} : ∀ (f o : Nat), o ≤ 6 →
    (∀ lev D, lev ≤ 5 → (6 - lev) + 7 * (6 - o) ≤ f → (8 - lev) + 9 * (6 - o) ≤ D → rd_S L by_ ((f_X6_readInside_g N D).2.1 (nI lev) (nI o)) (fun q => pz (chL L by_) f lev o q))
    ∧ (∀ D, 1 + 7 * (6 - o) ≤ f → 2 + 9 * (6 - o) ≤ D → rd_S L by_ ((f_X6_readInside_g N D).2.2.1 (nI o)) (fun q => pz (chL L by_) f 5 o q))
  | 0, o, ho => ⟨fun lev D h1 h2 h3 => by omega, fun D h1 h2 => by omega⟩
  | f + 1, o, ho => by
    have hone : ∀ D, 1 + 7 * (6 - o) ≤ f + 1 → 2 + 9 * (6 - o) ≤ D → rd_S L by_ ((f_X6_readInside_g N D).2.2.1 (nI o)) (fun q => pz (chL L by_) (f + 1) 5 o q) := by
      intro D h1 h2
      obtain ⟨D, rfl⟩ : ∃ D', D = D' + 2 := ⟨D - 2, by omega⟩
      exact rd_1 N hN f o D ho (fun h => (rd_c N hN f (o + 1) h).1 0 D (by omega) (by omega) (by omega)) (fun h => (rd_c N hN f (o + 1) h).2 D (by omega) (by omega))
    refine ⟨fun lev D h1 h2 h3 => ?_, hone⟩
    obtain ⟨D, rfl⟩ : ∃ D', D = D' + 1 := ⟨D - 1, by omega⟩
    intro q μ w hT
    show rd_E L by_ (f_X6_readLevel_0 N (f_X6_readInside_g N D).1 (f_X6_readInside_g N D).2.1 (f_X6_readInside_g N D).2.2.1 (f_X6_readInside_g N D).2.2.2 (nI lev) (nI o) μ) μ w (pz (chL L by_) (f + 1) lev o q)
    unfold f_X6_readLevel_0
    by_cases c1 : lev < 5
    · have hs := (rd_c N hN f o ho (L := L) (by_ := by_)).1 (lev + 1) D (by omega) (by omega) (by omega)
      obtain ⟨μ1, w1, e1, e2, e3, e4⟩ := hs q μ w hT
      have e : pz (chL L by_) (f + 1) lev o q = pz_lp (chL L by_) (fun z => pz (chL L by_) f (lev + 1) o z) lev (if lev = 2 then 1 else 120) (pz (chL L by_) f (lev + 1) o q) := by
        rw [pz, if_pos c1]
      rw [e]
      simp (disch := omega) only [li_0, li_1, li_2, li_3, li_4, li_5, li_6, li_7, li_8, li_9, li_10, li_11, li_12, li_13, li_14, li_15, li_16, li_17, li_18, li_19, li_20, li_21, li_22, li_23, li_24, li_25, li_26, li_27, li_28, li_29, li_30, li_31, li_32, li_33, li_34, li_35, li_36, li_37, li_38, li_39, li_40, li_41, li_42, li_43, li_44, li_45, li_46, li_47, li_48, li_49, li_50, li_51, li_52, li_53, li_54, li_55, li_56, li_57, li_58, li_59, li_60, li_61, li_62, li_63, li_64, li_65, li_66, li_67, li_68, li_69, li_70, li_71, li_72, li_73, li_74, li_75, li_76, li_77, li_78, li_79, li_80, li_81, li_82, li_83, li_84, li_85, li_86, li_87, li_88, li_89, li_90, li_91, li_92, li_93, li_94, li_95, li_96, li_97, li_98, li_99, li_100, li_101, li_102, li_103, li_104, li_105, li_106, li_107, li_108, li_109, li_110, li_111, li_112, li_113, li_114, li_115, li_116, li_117, li_118, li_119, li_120, li_121, li_122, li_123, li_124, li_125, li_126, li_127, li_128, li_129, li_130, li_255, li_259, li_360, li_480, li_900, li_999, li_1000, li_1782, li_1783, li_9999, li_1000000000, nI_ltI, nI_add, e1, bd_some, nI_eq]
      rw [if_pos c1]
      unfold f_X6_readLevel_31
      by_cases c2 : lev = 2
      · rw [if_pos c2, if_pos c2]
        have := rd_lp N (g1 := (f_X6_readInside_g N D).1) (g3 := (f_X6_readInside_g N D).2.2.1) (g4 := (f_X6_readInside_g N D).2.2.2) c1 ho hs (μ0 := μ) (w0 := w) (most := 1) (by omega) 1 N 0 _ μ1 w1 rfl (by omega) e2 e3 e4
        simp only [li_0, li_1, li_2, li_3, li_4, li_5, li_6, li_7, li_8, li_9, li_10, li_11, li_12, li_13, li_14, li_15, li_16, li_17, li_18, li_19, li_20, li_21, li_22, li_23, li_24, li_25, li_26, li_27, li_28, li_29, li_30, li_31, li_32, li_33, li_34, li_35, li_36, li_37, li_38, li_39, li_40, li_41, li_42, li_43, li_44, li_45, li_46, li_47, li_48, li_49, li_50, li_51, li_52, li_53, li_54, li_55, li_56, li_57, li_58, li_59, li_60, li_61, li_62, li_63, li_64, li_65, li_66, li_67, li_68, li_69, li_70, li_71, li_72, li_73, li_74, li_75, li_76, li_77, li_78, li_79, li_80, li_81, li_82, li_83, li_84, li_85, li_86, li_87, li_88, li_89, li_90, li_91, li_92, li_93, li_94, li_95, li_96, li_97, li_98, li_99, li_100, li_101, li_102, li_103, li_104, li_105, li_106, li_107, li_108, li_109, li_110, li_111, li_112, li_113, li_114, li_115, li_116, li_117, li_118, li_119, li_120, li_121, li_122, li_123, li_124, li_125, li_126, li_127, li_128, li_129, li_130, li_255, li_259, li_360, li_480, li_900, li_999, li_1000, li_1782, li_1783, li_9999, li_1000000000] at this ⊢
        exact this
      · rw [if_neg c2, if_neg c2]
        have := rd_lp N (g1 := (f_X6_readInside_g N D).1) (g3 := (f_X6_readInside_g N D).2.2.1) (g4 := (f_X6_readInside_g N D).2.2.2) c1 ho hs (μ0 := μ) (w0 := w) (most := 120) (by omega) 120 N 0 _ μ1 w1 rfl (by omega) e2 e3 e4
        simp only [li_0, li_1, li_2, li_3, li_4, li_5, li_6, li_7, li_8, li_9, li_10, li_11, li_12, li_13, li_14, li_15, li_16, li_17, li_18, li_19, li_20, li_21, li_22, li_23, li_24, li_25, li_26, li_27, li_28, li_29, li_30, li_31, li_32, li_33, li_34, li_35, li_36, li_37, li_38, li_39, li_40, li_41, li_42, li_43, li_44, li_45, li_46, li_47, li_48, li_49, li_50, li_51, li_52, li_53, li_54, li_55, li_56, li_57, li_58, li_59, li_60, li_61, li_62, li_63, li_64, li_65, li_66, li_67, li_68, li_69, li_70, li_71, li_72, li_73, li_74, li_75, li_76, li_77, li_78, li_79, li_80, li_81, li_82, li_83, li_84, li_85, li_86, li_87, li_88, li_89, li_90, li_91, li_92, li_93, li_94, li_95, li_96, li_97, li_98, li_99, li_100, li_101, li_102, li_103, li_104, li_105, li_106, li_107, li_108, li_109, li_110, li_111, li_112, li_113, li_114, li_115, li_116, li_117, li_118, li_119, li_120, li_121, li_122, li_123, li_124, li_125, li_126, li_127, li_128, li_129, li_130, li_255, li_259, li_360, li_480, li_900, li_999, li_1000, li_1782, li_1783, li_9999, li_1000000000] at this ⊢
        exact this
    · have hlev : lev = 5 := by omega
      subst hlev
      obtain ⟨μ1, w1, e1, e2, e3, e4⟩ := hone D (by omega) (by omega) q μ w hT
      simp (disch := omega) only [li_0, li_1, li_2, li_3, li_4, li_5, li_6, li_7, li_8, li_9, li_10, li_11, li_12, li_13, li_14, li_15, li_16, li_17, li_18, li_19, li_20, li_21, li_22, li_23, li_24, li_25, li_26, li_27, li_28, li_29, li_30, li_31, li_32, li_33, li_34, li_35, li_36, li_37, li_38, li_39, li_40, li_41, li_42, li_43, li_44, li_45, li_46, li_47, li_48, li_49, li_50, li_51, li_52, li_53, li_54, li_55, li_56, li_57, li_58, li_59, li_60, li_61, li_62, li_63, li_64, li_65, li_66, li_67, li_68, li_69, li_70, li_71, li_72, li_73, li_74, li_75, li_76, li_77, li_78, li_79, li_80, li_81, li_82, li_83, li_84, li_85, li_86, li_87, li_88, li_89, li_90, li_91, li_92, li_93, li_94, li_95, li_96, li_97, li_98, li_99, li_100, li_101, li_102, li_103, li_104, li_105, li_106, li_107, li_108, li_109, li_110, li_111, li_112, li_113, li_114, li_115, li_116, li_117, li_118, li_119, li_120, li_121, li_122, li_123, li_124, li_125, li_126, li_127, li_128, li_129, li_130, li_255, li_259, li_360, li_480, li_900, li_999, li_1000, li_1782, li_1783, li_9999, li_1000000000, nI_ltI]
      rw [if_neg (by decide)]
      simp only [e1, bd_some, b2_z]
      exact ⟨μ1, w1, rfl, e2, e3, e4⟩
