theorem li_0 : (0 : Int32) = nI 0 := by decide
theorem li_1 : (1 : Int32) = nI 1 := by decide
theorem li_2 : (2 : Int32) = nI 2 := by decide
theorem li_3 : (3 : Int32) = nI 3 := by decide
theorem li_4 : (4 : Int32) = nI 4 := by decide
theorem li_5 : (5 : Int32) = nI 5 := by decide
theorem li_6 : (6 : Int32) = nI 6 := by decide
theorem li_7 : (7 : Int32) = nI 7 := by decide
theorem li_8 : (8 : Int32) = nI 8 := by decide
theorem li_9 : (9 : Int32) = nI 9 := by decide
theorem li_10 : (10 : Int32) = nI 10 := by decide
theorem li_11 : (11 : Int32) = nI 11 := by decide
theorem li_12 : (12 : Int32) = nI 12 := by decide
theorem li_13 : (13 : Int32) = nI 13 := by decide
theorem li_14 : (14 : Int32) = nI 14 := by decide
theorem li_15 : (15 : Int32) = nI 15 := by decide
theorem li_16 : (16 : Int32) = nI 16 := by decide
theorem li_17 : (17 : Int32) = nI 17 := by decide
theorem li_18 : (18 : Int32) = nI 18 := by decide
theorem li_19 : (19 : Int32) = nI 19 := by decide
theorem li_20 : (20 : Int32) = nI 20 := by decide
theorem li_21 : (21 : Int32) = nI 21 := by decide
theorem li_22 : (22 : Int32) = nI 22 := by decide
theorem li_23 : (23 : Int32) = nI 23 := by decide
theorem li_24 : (24 : Int32) = nI 24 := by decide
theorem li_25 : (25 : Int32) = nI 25 := by decide
theorem li_26 : (26 : Int32) = nI 26 := by decide
theorem li_27 : (27 : Int32) = nI 27 := by decide
theorem li_28 : (28 : Int32) = nI 28 := by decide
theorem li_29 : (29 : Int32) = nI 29 := by decide
theorem li_30 : (30 : Int32) = nI 30 := by decide
theorem li_31 : (31 : Int32) = nI 31 := by decide
theorem li_32 : (32 : Int32) = nI 32 := by decide
theorem li_33 : (33 : Int32) = nI 33 := by decide
theorem li_34 : (34 : Int32) = nI 34 := by decide
theorem li_35 : (35 : Int32) = nI 35 := by decide
theorem li_36 : (36 : Int32) = nI 36 := by decide
theorem li_37 : (37 : Int32) = nI 37 := by decide
theorem li_38 : (38 : Int32) = nI 38 := by decide
theorem li_39 : (39 : Int32) = nI 39 := by decide
theorem li_40 : (40 : Int32) = nI 40 := by decide
theorem li_41 : (41 : Int32) = nI 41 := by decide
theorem li_42 : (42 : Int32) = nI 42 := by decide
theorem li_43 : (43 : Int32) = nI 43 := by decide
theorem li_44 : (44 : Int32) = nI 44 := by decide
theorem li_45 : (45 : Int32) = nI 45 := by decide
theorem li_46 : (46 : Int32) = nI 46 := by decide
theorem li_47 : (47 : Int32) = nI 47 := by decide
theorem li_48 : (48 : Int32) = nI 48 := by decide
theorem li_49 : (49 : Int32) = nI 49 := by decide
theorem li_50 : (50 : Int32) = nI 50 := by decide
theorem li_51 : (51 : Int32) = nI 51 := by decide
theorem li_52 : (52 : Int32) = nI 52 := by decide
theorem li_53 : (53 : Int32) = nI 53 := by decide
theorem li_54 : (54 : Int32) = nI 54 := by decide
theorem li_55 : (55 : Int32) = nI 55 := by decide
theorem li_56 : (56 : Int32) = nI 56 := by decide
theorem li_57 : (57 : Int32) = nI 57 := by decide
theorem li_58 : (58 : Int32) = nI 58 := by decide
theorem li_59 : (59 : Int32) = nI 59 := by decide
theorem li_60 : (60 : Int32) = nI 60 := by decide
theorem li_61 : (61 : Int32) = nI 61 := by decide
theorem li_62 : (62 : Int32) = nI 62 := by decide
theorem li_63 : (63 : Int32) = nI 63 := by decide
theorem li_64 : (64 : Int32) = nI 64 := by decide
theorem li_65 : (65 : Int32) = nI 65 := by decide
theorem li_66 : (66 : Int32) = nI 66 := by decide
theorem li_67 : (67 : Int32) = nI 67 := by decide
theorem li_68 : (68 : Int32) = nI 68 := by decide
theorem li_69 : (69 : Int32) = nI 69 := by decide
theorem li_70 : (70 : Int32) = nI 70 := by decide
theorem li_71 : (71 : Int32) = nI 71 := by decide
theorem li_72 : (72 : Int32) = nI 72 := by decide
theorem li_73 : (73 : Int32) = nI 73 := by decide
theorem li_74 : (74 : Int32) = nI 74 := by decide
theorem li_75 : (75 : Int32) = nI 75 := by decide
theorem li_76 : (76 : Int32) = nI 76 := by decide
theorem li_77 : (77 : Int32) = nI 77 := by decide
theorem li_78 : (78 : Int32) = nI 78 := by decide
theorem li_79 : (79 : Int32) = nI 79 := by decide
theorem li_80 : (80 : Int32) = nI 80 := by decide
theorem li_81 : (81 : Int32) = nI 81 := by decide
theorem li_82 : (82 : Int32) = nI 82 := by decide
theorem li_83 : (83 : Int32) = nI 83 := by decide
theorem li_84 : (84 : Int32) = nI 84 := by decide
theorem li_85 : (85 : Int32) = nI 85 := by decide
theorem li_86 : (86 : Int32) = nI 86 := by decide
theorem li_87 : (87 : Int32) = nI 87 := by decide
theorem li_88 : (88 : Int32) = nI 88 := by decide
theorem li_89 : (89 : Int32) = nI 89 := by decide
theorem li_90 : (90 : Int32) = nI 90 := by decide
theorem li_91 : (91 : Int32) = nI 91 := by decide
theorem li_92 : (92 : Int32) = nI 92 := by decide
theorem li_93 : (93 : Int32) = nI 93 := by decide
theorem li_94 : (94 : Int32) = nI 94 := by decide
theorem li_95 : (95 : Int32) = nI 95 := by decide
theorem li_96 : (96 : Int32) = nI 96 := by decide
theorem li_97 : (97 : Int32) = nI 97 := by decide
theorem li_98 : (98 : Int32) = nI 98 := by decide
theorem li_99 : (99 : Int32) = nI 99 := by decide
theorem li_100 : (100 : Int32) = nI 100 := by decide
theorem li_101 : (101 : Int32) = nI 101 := by decide
theorem li_102 : (102 : Int32) = nI 102 := by decide
theorem li_103 : (103 : Int32) = nI 103 := by decide
theorem li_104 : (104 : Int32) = nI 104 := by decide
theorem li_105 : (105 : Int32) = nI 105 := by decide
theorem li_106 : (106 : Int32) = nI 106 := by decide
theorem li_107 : (107 : Int32) = nI 107 := by decide
theorem li_108 : (108 : Int32) = nI 108 := by decide
theorem li_109 : (109 : Int32) = nI 109 := by decide
theorem li_110 : (110 : Int32) = nI 110 := by decide
theorem li_111 : (111 : Int32) = nI 111 := by decide
theorem li_112 : (112 : Int32) = nI 112 := by decide
theorem li_113 : (113 : Int32) = nI 113 := by decide
theorem li_114 : (114 : Int32) = nI 114 := by decide
theorem li_115 : (115 : Int32) = nI 115 := by decide
theorem li_116 : (116 : Int32) = nI 116 := by decide
theorem li_117 : (117 : Int32) = nI 117 := by decide
theorem li_118 : (118 : Int32) = nI 118 := by decide
theorem li_119 : (119 : Int32) = nI 119 := by decide
theorem li_120 : (120 : Int32) = nI 120 := by decide
theorem li_121 : (121 : Int32) = nI 121 := by decide
theorem li_122 : (122 : Int32) = nI 122 := by decide
theorem li_123 : (123 : Int32) = nI 123 := by decide
theorem li_124 : (124 : Int32) = nI 124 := by decide
theorem li_125 : (125 : Int32) = nI 125 := by decide
theorem li_126 : (126 : Int32) = nI 126 := by decide
theorem li_127 : (127 : Int32) = nI 127 := by decide
theorem li_128 : (128 : Int32) = nI 128 := by decide
theorem li_129 : (129 : Int32) = nI 129 := by decide
theorem li_130 : (130 : Int32) = nI 130 := by decide
theorem li_255 : (255 : Int32) = nI 255 := by decide
theorem li_259 : (259 : Int32) = nI 259 := by decide
theorem li_360 : (360 : Int32) = nI 360 := by decide
theorem li_480 : (480 : Int32) = nI 480 := by decide
theorem li_900 : (900 : Int32) = nI 900 := by decide
theorem li_999 : (999 : Int32) = nI 999 := by decide
theorem li_1000 : (1000 : Int32) = nI 1000 := by decide
theorem li_1782 : (1782 : Int32) = nI 1782 := by decide
theorem li_1783 : (1783 : Int32) = nI 1783 := by decide
theorem li_9999 : (9999 : Int32) = nI 9999 := by decide
theorem li_1000000000 : (1000000000 : Int32) = nI 1000000000 := by decide

theorem bd_some {β γ : Type} (a : β) (μ : am_M) (k : β → am_M → Option γ) : am_bd (some (a, μ)) k = k a μ := rfl
theorem gd_nI {γ : Type} {j n : Nat} {k : Nat → Option γ} (hj : j < n) (hn : j < 2147483648) : am_gd (nI j) n k = k j := by
  unfold am_gd
  rw [if_neg (nI_pos hn), nI_clamp hn, if_pos hj]
theorem ui1 (μ : am_M) (k r i : Nat) (x : Int32) (a b c : Nat) : (am_ui μ k r i x).1 a b c = if a = k ∧ b = r ∧ c = i then x else μ.1 a b c := rfl
theorem ui2 (μ : am_M) (k r i : Nat) (x : Int32) : (am_ui μ k r i x).2 = μ.2 := rfl
theorem ul1 (μ : am_M) (k r i : Nat) (x : Int64) : (am_ul μ k r i x).1 = μ.1 := rfl
theorem ul2 (μ : am_M) (k r i : Nat) (x : Int64) (a b c : Nat) : (am_ul μ k r i x).2 a b c = if a = k ∧ b = r ∧ c = i then x else μ.2 a b c := rfl
theorem z_1 (μ : am_M) : am_z (nI 1) μ = some (nI 1, μ) := by unfold am_z; rw [if_pos (Or.inr (by decide))]
theorem z_0 (μ : am_M) : am_z (nI 0) μ = some (nI 0, μ) := by unfold am_z; rw [if_pos (Or.inl (by decide))]
theorem z_ite (c : Prop) [Decidable c] (μ : am_M) : am_z (if c then nI 1 else nI 0) μ = some (if c then nI 1 else nI 0, μ) := by
  by_cases h : c
  · rw [if_pos h, z_1]
  · rw [if_neg h, z_0]
theorem b_eq0 (c : Prop) [Decidable c] : ((if c then nI 1 else nI 0) = nI 0) = ¬ c := by
  by_cases h : c
  · rw [if_pos h]; simp [h]; decide
  · rw [if_neg h]; simp [h]
theorem w_cls (N : Nat) (v lo hi : Int32) (μ : am_M) : f_X9_isWithin N v lo hi μ = some (if lo ≤ v ∧ v ≤ hi then nI 1 else nI 0, μ) := by
  unfold f_X9_isWithin f_X9_isWithin_0
  by_cases h1 : v < lo
  · rw [if_pos h1, if_neg (fun h => absurd h1 (Int32.not_lt.mpr h.1)), li_0, z_0]
  · rw [if_neg h1]
    by_cases h2 : hi < v
    · rw [if_pos h2, if_neg (fun h => absurd h2 (Int32.not_lt.mpr h.2)), li_0, z_0]
    · rw [if_neg h2, if_pos ⟨Int32.not_lt.mp h1, Int32.not_lt.mp h2⟩, li_1, z_1]
theorem cmp_lt (x y : Int64) : (lg_cmp x y < 0) ↔ x < y := by
  unfold lg_cmp
  by_cases h : y < x
  · rw [if_pos h]
    exact ⟨fun q => absurd q (by decide), fun q => absurd q (Int64.not_lt.mpr (Int64.le_of_lt h))⟩
  · rw [if_neg h]
    by_cases h2 : x = y
    · rw [if_pos h2]; subst h2
      exact ⟨fun q => absurd q (by decide), fun q => absurd q h⟩
    · rw [if_neg h2]
      exact ⟨fun _ => Int64.lt_of_le_of_ne (Int64.not_lt.mp h) h2, fun _ => by decide⟩
theorem cmp_gt (x y : Int64) : (0 < lg_cmp x y) ↔ y < x := by
  unfold lg_cmp
  by_cases h : y < x
  · rw [if_pos h]
    exact ⟨fun _ => h, fun _ => by decide⟩
  · rw [if_neg h]
    by_cases h2 : x = y
    · rw [if_pos h2]
      exact ⟨fun q => absurd q (by decide), fun q => absurd q h⟩
    · rw [if_neg h2]
      exact ⟨fun q => absurd q (by decide), fun q => absurd q h⟩
theorem w_long (N : Nat) (v lo hi : Int64) (μ : am_M) : f_X10_within N v lo hi μ = some (if lo ≤ v ∧ v ≤ hi then nI 1 else nI 0, μ) := by
  unfold f_X10_within f_X10_within_0
  by_cases h1 : v < lo
  · rw [if_pos ((cmp_lt _ _).mpr h1), if_neg (fun h => absurd h1 (Int64.not_lt.mpr h.1)), li_0, z_0]
  · rw [if_neg (fun h => h1 ((cmp_lt _ _).mp h))]
    by_cases h2 : hi < v
    · rw [if_pos ((cmp_gt _ _).mpr h2), if_neg (fun h => absurd h2 (Int64.not_lt.mpr h.2)), li_0, z_0]
    · rw [if_neg (fun h => h2 ((cmp_gt _ _).mp h)), if_pos ⟨Int64.not_lt.mp h1, Int64.not_lt.mp h2⟩, li_1, z_1]
theorem i64_le (a b : Int32) : (a.toInt64 ≤ b.toInt64) ↔ a ≤ b := by
  rw [Int64.le_iff_toInt_le, Int32.le_iff_toInt_le, Int32.toInt_toInt64, Int32.toInt_toInt64]
theorem w_ref (N : Nat) (v lo hi : Int32) (L H : Int64) (hL : L = lo.toInt64) (hH : H = hi.toInt64) (μ : am_M) : f_X10_within N v.toInt64 L H μ = some (if lo ≤ v ∧ v ≤ hi then nI 1 else nI 0, μ) := by
  subst hL; subst hH
  rw [w_long]
  simp only [i64_le]
theorem two_ref (N : Nat) (v : Int32) (μ : am_M) : f_X10_isTwo N v.toInt64 μ = some (if (0 : Int32) ≤ v ∧ v ≤ 99 then nI 1 else nI 0, μ) := by
  unfold f_X10_isTwo f_X10_isTwo_0
  rw [w_ref N v 0 99 _ _ (by decide) (by decide), bd_some, z_ite]
theorem at_cls (N : Nat) {c t : Nat} (hc : c < 9) (ht : t < 6) (μ : am_M) : f_X5_at N (nI c) (nI t) μ = some (μ.1 316 c t, μ) := by
  unfold f_X5_at f_X5_at_0
  simp (disch := omega) only [w_cls, bd_some, li_0, li_1, li_2, li_3, li_4, li_5, li_6, li_7, li_8, li_9, li_10, li_11, li_12, li_13, li_14, li_15, li_16, li_17, li_18, li_19, li_20, li_21, li_22, li_23, li_24, li_25, li_26, li_27, li_28, li_29, li_30, li_31, li_32, li_33, li_34, li_35, li_36, li_37, li_38, li_39, li_40, li_41, li_42, li_43, li_44, li_45, li_46, li_47, li_48, li_49, li_50, li_51, li_52, li_53, li_54, li_55, li_56, li_57, li_58, li_59, li_60, li_61, li_62, li_63, li_64, li_65, li_66, li_67, li_68, li_69, li_70, li_71, li_72, li_73, li_74, li_75, li_76, li_77, li_78, li_79, li_80, li_81, li_82, li_83, li_84, li_85, li_86, li_87, li_88, li_89, li_90, li_91, li_92, li_93, li_94, li_95, li_96, li_97, li_98, li_99, li_100, li_101, li_102, li_103, li_104, li_105, li_106, li_107, li_108, li_109, li_110, li_111, li_112, li_113, li_114, li_115, li_116, li_117, li_118, li_119, li_120, li_121, li_122, li_123, li_124, li_125, li_126, li_127, li_128, li_129, li_130, li_255, li_259, li_360, li_480, li_900, li_999, li_1000, li_1782, li_1783, li_9999, li_1000000000, b_eq0, nI_leI, gd_nI]
  rw [if_neg (by omega), if_neg (by omega)]
theorem pia_cls (N : Nat) {s : Nat} (hs : s < 6) (μ : am_M) : f_X5_pointsInAll N (nI s) μ = some (μ.1 316 6 s + nI 10 * μ.1 316 7 s, μ) := by
  unfold f_X5_pointsInAll f_X5_pointsInAll_0
  simp (disch := omega) only [li_0, li_1, li_2, li_3, li_4, li_5, li_6, li_7, li_8, li_9, li_10, li_11, li_12, li_13, li_14, li_15, li_16, li_17, li_18, li_19, li_20, li_21, li_22, li_23, li_24, li_25, li_26, li_27, li_28, li_29, li_30, li_31, li_32, li_33, li_34, li_35, li_36, li_37, li_38, li_39, li_40, li_41, li_42, li_43, li_44, li_45, li_46, li_47, li_48, li_49, li_50, li_51, li_52, li_53, li_54, li_55, li_56, li_57, li_58, li_59, li_60, li_61, li_62, li_63, li_64, li_65, li_66, li_67, li_68, li_69, li_70, li_71, li_72, li_73, li_74, li_75, li_76, li_77, li_78, li_79, li_80, li_81, li_82, li_83, li_84, li_85, li_86, li_87, li_88, li_89, li_90, li_91, li_92, li_93, li_94, li_95, li_96, li_97, li_98, li_99, li_100, li_101, li_102, li_103, li_104, li_105, li_106, li_107, li_108, li_109, li_110, li_111, li_112, li_113, li_114, li_115, li_116, li_117, li_118, li_119, li_120, li_121, li_122, li_123, li_124, li_125, li_126, li_127, li_128, li_129, li_130, li_255, li_259, li_360, li_480, li_900, li_999, li_1000, li_1782, li_1783, li_9999, li_1000000000, at_cls, bd_some]
