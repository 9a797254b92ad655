theorem rd_ln (N : Nat) (hN : 130 ≤ N) {L : Nat} {by_ : Nat → Nat} : rd_S L by_ (f_X6_readLine N) (fun q => pz_ln (chL L by_) q) := by
  intro q μ w hT
  have hs := (rd_c N hN 48 0 (by decide) (L := L) (by_ := by_)).1 0 100 (by decide) (by decide) (by decide)
  show rd_E L by_ (f_X6_readLine N μ) μ w (pz_ln (chL L by_) q)
  unfold f_X6_readLine f_X6_readLine_0 f_X6_readLevel f_X6_readLine_43 pz_ln
  obtain ⟨μ1, w1, e1, e2, e3, e4⟩ := hs q μ w hT
  have e3' : TP L by_ μ1 (pz (chL L by_) 48 0 0 q).2.1 w1 := e3
  simp only [li_0, li_1, li_2, li_3, li_4, li_5, li_6, li_7, li_8, li_9, li_10, li_11, li_12, li_13, li_14, li_15, li_16, li_17, li_18, li_19, li_20, li_21, li_22, li_23, li_24, li_25, li_26, li_27, li_28, li_29, li_30, li_31, li_32, li_33, li_34, li_35, li_36, li_37, li_38, li_39, li_40, li_41, li_42, li_43, li_44, li_45, li_46, li_47, li_48, li_49, li_50, li_51, li_52, li_53, li_54, li_55, li_56, li_57, li_58, li_59, li_60, li_61, li_62, li_63, li_64, li_65, li_66, li_67, li_68, li_69, li_70, li_71, li_72, li_73, li_74, li_75, li_76, li_77, li_78, li_79, li_80, li_81, li_82, li_83, li_84, li_85, li_86, li_87, li_88, li_89, li_90, li_91, li_92, li_93, li_94, li_95, li_96, li_97, li_98, li_99, li_100, li_101, li_102, li_103, li_104, li_105, li_106, li_107, li_108, li_109, li_110, li_111, li_112, li_113, li_114, li_115, li_116, li_117, li_118, li_119, li_120, li_121, li_122, li_123, li_124, li_125, li_126, li_127, li_128, li_129, li_130, li_255, li_259, li_360, li_480, li_900, li_999, li_1000, li_1782, li_1783, li_9999, li_1000000000] at e1 ⊢
  simp only [e1, bd_some, here_c N e3', b2_0, hv_eq e3' (c := 63) (by decide) (by decide)]
  by_cases c6 : (pz (chL L by_) 48 0 0 q).1 = true
  · rw [if_neg (by rw [c6]; decide)]
    by_cases c7 : chL L by_ (pz (chL L by_) 48 0 0 q).2.1 = 63
    · rw [if_pos c7, if_pos ⟨c6, c7⟩]
      have hlt2 := pz_lt (p := (pz (chL L by_) 48 0 0 q).2.1) (chL_0 (L := L) (by_ := by_)) (by omega)
      obtain ⟨a1, a2, a3⟩ := adv_c e3' hlt2
      simp only [li_1] at a1 a2 a3
      obtain ⟨μ2, w2, g1, g2, g3, g4⟩ := write_c N a1 (-nI 63)
      obtain ⟨μ3, w3, k1, k2, k3, k4⟩ := hs _ μ2 w2 g3
      obtain ⟨μ4, w4, l1, l2, l3, l4⟩ := write_c N k3 (-nI 59)
      simp only [li_0, li_1, li_2, li_3, li_4, li_5, li_6, li_7, li_8, li_9, li_10, li_11, li_12, li_13, li_14, li_15, li_16, li_17, li_18, li_19, li_20, li_21, li_22, li_23, li_24, li_25, li_26, li_27, li_28, li_29, li_30, li_31, li_32, li_33, li_34, li_35, li_36, li_37, li_38, li_39, li_40, li_41, li_42, li_43, li_44, li_45, li_46, li_47, li_48, li_49, li_50, li_51, li_52, li_53, li_54, li_55, li_56, li_57, li_58, li_59, li_60, li_61, li_62, li_63, li_64, li_65, li_66, li_67, li_68, li_69, li_70, li_71, li_72, li_73, li_74, li_75, li_76, li_77, li_78, li_79, li_80, li_81, li_82, li_83, li_84, li_85, li_86, li_87, li_88, li_89, li_90, li_91, li_92, li_93, li_94, li_95, li_96, li_97, li_98, li_99, li_100, li_101, li_102, li_103, li_104, li_105, li_106, li_107, li_108, li_109, li_110, li_111, li_112, li_113, li_114, li_115, li_116, li_117, li_118, li_119, li_120, li_121, li_122, li_123, li_124, li_125, li_126, li_127, li_128, li_129, li_130, li_255, li_259, li_360, li_480, li_900, li_999, li_1000, li_1782, li_1783, li_9999, li_1000000000] at k1
      simp only [am_nm, g1, bd_some, k1, l1, b2_z]
      refine ⟨μ4, w4, rfl, (e2.tr a2).tr (g2.tr (k2.tr l2)), l3, ?_⟩
      have := (((e4.tr a3).tr g4).tr k4).tr l4
      simpa using this
    · rw [if_neg c7, if_neg (fun h => c7 h.2)]
      obtain ⟨μ2, w2, g1, g2, g3, g4⟩ := write_c N e3' (-nI 59)
      simp only [g1, bd_some, b2_z]
      exact ⟨μ2, w2, rfl, e2.tr g2, g3, e4.tr g4⟩
  · rw [if_pos (by simpa using c6), if_neg (fun h => c6 h.1)]
    obtain ⟨μ2, w2, g1, g2, g3, g4⟩ := write_c N e3' (-nI 59)
    simp only [g1, bd_some, b2_z]
    exact ⟨μ2, w2, rfl, e2.tr g2, g3, e4.tr g4⟩
theorem rd_tx (N : Nat) (hN : 130 ≤ N) {L : Nat} {by_ : Nat → Nat} {μ0 : am_M} {w0 : Nat} : ∀ (n m t : Nat) (r : pz_R) (μ : am_M) (w : Nat), n + t = 120 → n + 1 ≤ m → fr p_tape μ0 μ → TP L by_ μ r.2.1 w → SP μ0 w0 μ w r.2.2 →
    ∃ (μ' : am_M) (w' : Nat), f_X6_reads_17_lp N m (b2 r.1) (nI t) μ = some (b2 ((pz_tx (chL L by_) n r).1 && (pz_tx (chL L by_) n r).2.1 == L), μ') ∧ fr p_tape μ0 μ' ∧ TP L by_ μ' (pz_tx (chL L by_) n r).2.1 w' ∧ SP μ0 w0 μ' w' (pz_tx (chL L by_) n r).2.2
  | n, 0, t, r, μ, w, h1, h2, h3, h4, h5 => by omega
  | n, m + 1, t, r, μ, w, h1, h2, h3, h4, h5 => by
    have hend : (r.1 = true → f_X6_reads_57 N (b2 r.1) μ = some (b2 (r.1 && r.2.1 == L), μ)) ∧ (r.1 = false → f_X6_reads_57 N (b2 r.1) μ = some (b2 (r.1 && r.2.1 == L), μ)) := by
      refine ⟨fun hr => ?_, fun hr => ?_⟩
      · unfold f_X6_reads_57
        obtain ⟨q1, q2, q3, q4, q5, q6, q7⟩ := h4
        simp (disch := omega) only [li_0, li_1, li_2, li_3, li_4, li_5, li_6, li_7, li_8, li_9, li_10, li_11, li_12, li_13, li_14, li_15, li_16, li_17, li_18, li_19, li_20, li_21, li_22, li_23, li_24, li_25, li_26, li_27, li_28, li_29, li_30, li_31, li_32, li_33, li_34, li_35, li_36, li_37, li_38, li_39, li_40, li_41, li_42, li_43, li_44, li_45, li_46, li_47, li_48, li_49, li_50, li_51, li_52, li_53, li_54, li_55, li_56, li_57, li_58, li_59, li_60, li_61, li_62, li_63, li_64, li_65, li_66, li_67, li_68, li_69, li_70, li_71, li_72, li_73, li_74, li_75, li_76, li_77, li_78, li_79, li_80, li_81, li_82, li_83, li_84, li_85, li_86, li_87, li_88, li_89, li_90, li_91, li_92, li_93, li_94, li_95, li_96, li_97, li_98, li_99, li_100, li_101, li_102, li_103, li_104, li_105, li_106, li_107, li_108, li_109, li_110, li_111, li_112, li_113, li_114, li_115, li_116, li_117, li_118, li_119, li_120, li_121, li_122, li_123, li_124, li_125, li_126, li_127, li_128, li_129, li_130, li_255, li_259, li_360, li_480, li_900, li_999, li_1000, li_1782, li_1783, li_9999, li_1000000000, hr, b2_0, q1, q4, nI_eq]
        rw [if_neg (by decide)]
        by_cases c : r.2.1 = L
        · rw [if_pos c, z_1, c]; simp [b2]
        · rw [if_neg c, z_0]; simp [b2, c]
      · unfold f_X6_reads_57
        simp only [li_0, li_1, li_2, li_3, li_4, li_5, li_6, li_7, li_8, li_9, li_10, li_11, li_12, li_13, li_14, li_15, li_16, li_17, li_18, li_19, li_20, li_21, li_22, li_23, li_24, li_25, li_26, li_27, li_28, li_29, li_30, li_31, li_32, li_33, li_34, li_35, li_36, li_37, li_38, li_39, li_40, li_41, li_42, li_43, li_44, li_45, li_46, li_47, li_48, li_49, li_50, li_51, li_52, li_53, li_54, li_55, li_56, li_57, li_58, li_59, li_60, li_61, li_62, li_63, li_64, li_65, li_66, li_67, li_68, li_69, li_70, li_71, li_72, li_73, li_74, li_75, li_76, li_77, li_78, li_79, li_80, li_81, li_82, li_83, li_84, li_85, li_86, li_87, li_88, li_89, li_90, li_91, li_92, li_93, li_94, li_95, li_96, li_97, li_98, li_99, li_100, li_101, li_102, li_103, li_104, li_105, li_106, li_107, li_108, li_109, li_110, li_111, li_112, li_113, li_114, li_115, li_116, li_117, li_118, li_119, li_120, li_121, li_122, li_123, li_124, li_125, li_126, li_127, li_128, li_129, li_130, li_255, li_259, li_360, li_480, li_900, li_999, li_1000, li_1782, li_1783, li_9999, li_1000000000, hr, b2_0]
        rw [if_pos trivial, z_0]; rfl
    unfold f_X6_reads_17_lp f_X6_reads_17
    cases hr : r.1 with
    | false =>
      have e : pz_tx (chL L by_) n r = r := by
        cases n with
        | zero => rfl
        | succ n => unfold pz_tx; rw [if_neg (fun q => by rw [hr] at q; cases q.1)]
      have he := hend.2 hr
      rw [hr] at he
      rw [e]
      simp only [li_0, li_1, li_2, li_3, li_4, li_5, li_6, li_7, li_8, li_9, li_10, li_11, li_12, li_13, li_14, li_15, li_16, li_17, li_18, li_19, li_20, li_21, li_22, li_23, li_24, li_25, li_26, li_27, li_28, li_29, li_30, li_31, li_32, li_33, li_34, li_35, li_36, li_37, li_38, li_39, li_40, li_41, li_42, li_43, li_44, li_45, li_46, li_47, li_48, li_49, li_50, li_51, li_52, li_53, li_54, li_55, li_56, li_57, li_58, li_59, li_60, li_61, li_62, li_63, li_64, li_65, li_66, li_67, li_68, li_69, li_70, li_71, li_72, li_73, li_74, li_75, li_76, li_77, li_78, li_79, li_80, li_81, li_82, li_83, li_84, li_85, li_86, li_87, li_88, li_89, li_90, li_91, li_92, li_93, li_94, li_95, li_96, li_97, li_98, li_99, li_100, li_101, li_102, li_103, li_104, li_105, li_106, li_107, li_108, li_109, li_110, li_111, li_112, li_113, li_114, li_115, li_116, li_117, li_118, li_119, li_120, li_121, li_122, li_123, li_124, li_125, li_126, li_127, li_128, li_129, li_130, li_255, li_259, li_360, li_480, li_900, li_999, li_1000, li_1782, li_1783, li_9999, li_1000000000, b2_0, he]
      rw [if_pos trivial, hr]
      exact ⟨μ, w, rfl, h3, h4, h5⟩
    | true =>
      have he := hend.1 hr
      rw [hr] at he
      simp (disch := omega) only [li_0, li_1, li_2, li_3, li_4, li_5, li_6, li_7, li_8, li_9, li_10, li_11, li_12, li_13, li_14, li_15, li_16, li_17, li_18, li_19, li_20, li_21, li_22, li_23, li_24, li_25, li_26, li_27, li_28, li_29, li_30, li_31, li_32, li_33, li_34, li_35, li_36, li_37, li_38, li_39, li_40, li_41, li_42, li_43, li_44, li_45, li_46, li_47, li_48, li_49, li_50, li_51, li_52, li_53, li_54, li_55, li_56, li_57, li_58, li_59, li_60, li_61, li_62, li_63, li_64, li_65, li_66, li_67, li_68, li_69, li_70, li_71, li_72, li_73, li_74, li_75, li_76, li_77, li_78, li_79, li_80, li_81, li_82, li_83, li_84, li_85, li_86, li_87, li_88, li_89, li_90, li_91, li_92, li_93, li_94, li_95, li_96, li_97, li_98, li_99, li_100, li_101, li_102, li_103, li_104, li_105, li_106, li_107, li_108, li_109, li_110, li_111, li_112, li_113, li_114, li_115, li_116, li_117, li_118, li_119, li_120, li_121, li_122, li_123, li_124, li_125, li_126, li_127, li_128, li_129, li_130, li_255, li_259, li_360, li_480, li_900, li_999, li_1000, li_1782, li_1783, li_9999, li_1000000000, nI_leI, here_c N h4, bd_some, b2_0, hv_eq h4 (c := 59) (by decide) (by decide)]
      rw [if_neg (by decide)]
      cases n with
      | zero =>
        rw [if_pos (by omega), he]
        exact ⟨μ, w, by show _ = some (b2 (r.1 && r.2.1 == L), μ); rw [hr], h3, h4, h5⟩
      | succ n =>
        rw [if_neg (by omega)]
        unfold pz_tx
        by_cases c : chL L by_ r.2.1 = 59
        · rw [if_pos c, if_pos ⟨hr, c⟩]
          have hlt := pz_lt (p := r.2.1) (chL_0 (L := L) (by_ := by_)) (by omega)
          obtain ⟨a1, a2, a3⟩ := adv_c h4 hlt
          simp only [li_1] at a1 a2 a3
          obtain ⟨μ1, w1, e1, e2, e3, e4⟩ := rd_ln N hN (r.2.1 + 1) _ w a1
          simp only [am_nm, nI_add, e1, bd_some]
          refine rd_tx N hN n m (t + 1) ((pz_ln (chL L by_) (r.2.1 + 1)).1, ((pz_ln (chL L by_) (r.2.1 + 1)).2.1, r.2.2 ++ (pz_ln (chL L by_) (r.2.1 + 1)).2.2)) μ1 w1 (by omega) (by omega) ((h3.tr a2).tr e2) e3 ?_
          have hA := (h5.tr a3).tr e4
          simpa using hA
        · rw [if_neg c, if_neg (fun q => c q.2), he]
          exact ⟨μ, w, by rw [hr], h3, h4, h5⟩
/-- the class reads its tape -/
theorem reads_c (N : Nat) (hN : 130 ≤ N) {L : Nat} {by_ : Nat → Nat} {μ : am_M} (h1 : μ.1 3 0 1 = nI L) (h2 : L ≤ 120) (h3 : ∀ j, j < L → μ.1 48 0 j = nI (by_ j) ∧ by_ j < 256) :
    ∃ (μ' : am_M) (w' : Nat), f_X6_reads N μ = some (b2 ((pz_t (chL L by_)).1 && (pz_t (chL L by_)).2.1 == L), μ') ∧ fr p_tape μ μ' ∧ μ'.1 3 0 2 = nI (pz_t (chL L by_)).2.1 ∧ μ'.1 3 0 4 = nI w' ∧ ((pz_t (chL L by_)).2.2.length ≤ 121 → w' = (pz_t (chL L by_)).2.2.length ∧ ∀ j, j < w' → μ'.1 51 0 j = (pz_t (chL L by_)).2.2.getD j 0) := by
  unfold f_X6_reads f_X6_reads_0
  have hT : TP L by_ (am_ui (am_ui μ 3 0 2 (nI 0)) 3 0 4 (nI 0)) 0 0 := by
    refine ⟨?_, h2, fun j hj => ?_, ?_, Nat.zero_le _, ?_, Nat.zero_le _⟩
    · simp [ui1, h1]
    · simp [ui1]; exact h3 j hj
    · simp [ui1]
    · simp [ui1]
  have hF : fr p_tape μ (am_ui (am_ui μ 3 0 2 (nI 0)) 3 0 4 (nI 0)) := (fr.rf.ui rfl).ui rfl
  obtain ⟨μ1, w1, e1, e2, e3, e4⟩ := rd_ln N hN 0 _ 0 hT
  simp only [li_0, li_1, li_2, li_3, li_4, li_5, li_6, li_7, li_8, li_9, li_10, li_11, li_12, li_13, li_14, li_15, li_16, li_17, li_18, li_19, li_20, li_21, li_22, li_23, li_24, li_25, li_26, li_27, li_28, li_29, li_30, li_31, li_32, li_33, li_34, li_35, li_36, li_37, li_38, li_39, li_40, li_41, li_42, li_43, li_44, li_45, li_46, li_47, li_48, li_49, li_50, li_51, li_52, li_53, li_54, li_55, li_56, li_57, li_58, li_59, li_60, li_61, li_62, li_63, li_64, li_65, li_66, li_67, li_68, li_69, li_70, li_71, li_72, li_73, li_74, li_75, li_76, li_77, li_78, li_79, li_80, li_81, li_82, li_83, li_84, li_85, li_86, li_87, li_88, li_89, li_90, li_91, li_92, li_93, li_94, li_95, li_96, li_97, li_98, li_99, li_100, li_101, li_102, li_103, li_104, li_105, li_106, li_107, li_108, li_109, li_110, li_111, li_112, li_113, li_114, li_115, li_116, li_117, li_118, li_119, li_120, li_121, li_122, li_123, li_124, li_125, li_126, li_127, li_128, li_129, li_130, li_255, li_259, li_360, li_480, li_900, li_999, li_1000, li_1782, li_1783, li_9999, li_1000000000, am_nm, e1, bd_some]
  obtain ⟨μ2, w2, g1, g2, g3, g4⟩ := rd_tx N hN 120 N 0 (pz_ln (chL L by_) 0) μ1 w1 rfl (by omega) e2 e3 e4
  refine ⟨μ2, w2, g1, hF.tr g2, g3.2.2.2.1, g3.2.2.2.2.2.1, fun hl => ?_⟩
  obtain ⟨k1, k2⟩ := g4 (by show 0 + (pz_t (chL L by_)).2.2.length ≤ 121; omega)
  refine ⟨by rw [k1]; show 0 + (pz_t (chL L by_)).2.2.length = _; omega, fun j hj => ?_⟩
  rw [k2 j hj, if_neg (by omega)]
  rfl
