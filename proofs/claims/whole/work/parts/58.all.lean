/-! the reference's levels by depth -/
def gl (N D : Nat) : Nat → am_M → Option (Int32 × am_M)
  | 0 => (f_X10_both_g N D).2.2.1
  | 1 => (f_X10_both_g N D).1
  | 2 => (f_X10_both_g N D).2.1
  | 3 => (f_X10_both_g N D).2.2.2.2.2
  | 4 => (f_X10_both_g N D).2.2.2.2.1
  | _ => (f_X10_both_g N D).2.2.2.1
theorem re_cmp (N : Nat) {L : Nat} {by_ : Nat → Nat} {env : Nat → Int32} {o D : Nat} {sub : Nat → pz_R} (hs : re_S L by_ env o (f_X10_both_g N D).2.2.2.2.2 sub) : re_S L by_ env o (f_X10_both_g N (D + 1)).2.1 (fun q => pz_lp (chL L by_) sub 2 1 (sub q)) := by
  intro q μ hP0
  show re_E L by_ env o (f_X10_compared_0 N (f_X10_both_g N D).1 (f_X10_both_g N D).2.1 (f_X10_both_g N D).2.2.1 (f_X10_both_g N D).2.2.2.1 (f_X10_both_g N D).2.2.2.2.1 (f_X10_both_g N D).2.2.2.2.2 μ) μ (pz_lp (chL L by_) sub 2 1 (sub q))
  unfold f_X10_compared_0
  obtain ⟨v, μ1, e1, e2, e3⟩ := hs q μ hP0
  rw [e1, bd_some]
  cases hr : (sub q).1 with
  | false =>
    have hF := e3.2 hr
    rw [byteAt_f N hF, bd_some, hF.2.2.2.2.2.2.2, if_pos (nI_pos' (by have := hF.2.1; have := hF.2.2.2.2.2.1; omega)), pz_lp_f hr]
    exact ⟨v, μ1, rfl, e2, e3⟩
  | true =>
    obtain ⟨hP, hv⟩ := e3.1 hr
    rw [byteAt_r N hP, bd_some, hP.2.2.2.2.2.2.2.1, if_neg (by decide)]
    simp only [li_0, li_1, li_2, li_3, li_4, li_5, li_6, li_7, li_8, li_9, li_10, li_11, li_12, li_13, li_14, li_15, li_16, li_17, li_18, li_19, li_20, li_21, li_22, li_23, li_24, li_25, li_26, li_27, li_28, li_29, li_30, li_31, li_32, li_33, li_34, li_35, li_36, li_37, li_38, li_39, li_40, li_41, li_42, li_43, li_44, li_45, li_46, li_47, li_48, li_49, li_50, li_51, li_52, li_53, li_54, li_55, li_56, li_57, li_58, li_59, li_60, li_61, li_62, li_63, li_64, li_65, li_66, li_67, li_68, li_69, li_70, li_71, li_72, li_73, li_74, li_75, li_76, li_77, li_78, li_79, li_80, li_81, li_82, li_83, li_84, li_85, li_86, li_87, li_88, li_89, li_90, li_91, li_92, li_93, li_94, li_95, li_96, li_97, li_98, li_99, li_100, li_101, li_102, li_103, li_104, li_105, li_106, li_107, li_108, li_109, li_110, li_111, li_112, li_113, li_114, li_115, li_116, li_117, li_118, li_119, li_120, li_121, li_122, li_123, li_124, li_125, li_126, li_127, li_128, li_129, li_130, li_255, li_259, li_360, li_480, li_900, li_999, li_1000, li_1782, li_1783, li_9999, li_1000000000, ch_eq hP (sub q).2.1 60 (by decide), ch_eq hP (sub q).2.1 61 (by decide), ch_eq hP (sub q).2.1 62 (by decide)]
    have step : (chL L by_ (sub q).2.1 = 60 ∨ chL L by_ (sub q).2.1 = 61 ∨ chL L by_ (sub q).2.1 = 62) → re_E L by_ env o (f_X10_compared_37 N (f_X10_both_g N D).1 (f_X10_both_g N D).2.1 (f_X10_both_g N D).2.2.1 (f_X10_both_g N D).2.2.2.1 (f_X10_both_g N D).2.2.2.2.1 (f_X10_both_g N D).2.2.2.2.2 v (nI (chL L by_ (sub q).2.1)) μ1) μ (pz_lp (chL L by_) sub 2 1 (sub q)) := by
      intro hc
      have hl2 := lv_2.mpr hc
      have hlt := pz_lt (p := (sub q).2.1) (chL_0 (L := L) (by_ := by_)) (by omega)
      obtain ⟨a1, a2⟩ := advR hP hlt
      obtain ⟨w, μ2, g1, g2, g3⟩ := hs ((sub q).2.1 + 1) _ a1
      rw [pz_lp_s hr hl2]
      have hT := re_turn hv g3 hl2 (by decide)
      unfold f_X10_compared_37 f_X10_compared_85
      simp only [li_0, li_1, li_2, li_3, li_4, li_5, li_6, li_7, li_8, li_9, li_10, li_11, li_12, li_13, li_14, li_15, li_16, li_17, li_18, li_19, li_20, li_21, li_22, li_23, li_24, li_25, li_26, li_27, li_28, li_29, li_30, li_31, li_32, li_33, li_34, li_35, li_36, li_37, li_38, li_39, li_40, li_41, li_42, li_43, li_44, li_45, li_46, li_47, li_48, li_49, li_50, li_51, li_52, li_53, li_54, li_55, li_56, li_57, li_58, li_59, li_60, li_61, li_62, li_63, li_64, li_65, li_66, li_67, li_68, li_69, li_70, li_71, li_72, li_73, li_74, li_75, li_76, li_77, li_78, li_79, li_80, li_81, li_82, li_83, li_84, li_85, li_86, li_87, li_88, li_89, li_90, li_91, li_92, li_93, li_94, li_95, li_96, li_97, li_98, li_99, li_100, li_101, li_102, li_103, li_104, li_105, li_106, li_107, li_108, li_109, li_110, li_111, li_112, li_113, li_114, li_115, li_116, li_117, li_118, li_119, li_120, li_121, li_122, li_123, li_124, li_125, li_126, li_127, li_128, li_129, li_130, li_255, li_259, li_360, li_480, li_900, li_999, li_1000, li_1782, li_1783, li_9999, li_1000000000, am_nm, g1, bd_some]
      refine ⟨jn (nI (chL L by_ (sub q).2.1)) v w, μ2, ?_, (e2.tr a2).tr g2, hT⟩
      rcases hc with hc | hc | hc <;> rw [hc]
      · rw [if_pos rfl, jn_60]
        by_cases d : w ≤ v
        · rw [if_pos d, if_pos d, li_0]
        · rw [if_neg d, if_neg d, li_1]
      · rw [if_neg (by decide), if_pos rfl, jn_61]
        by_cases d : v = w
        · rw [if_pos d, if_pos d, li_1]
        · rw [if_neg d, if_neg d, li_0]
      · rw [if_neg (by decide), if_neg (by decide), jn_62]
        by_cases d : v ≤ w
        · rw [if_pos d, if_pos d, li_0]
        · rw [if_neg d, if_neg d, li_1]
    by_cases c : chL L by_ (sub q).2.1 = 60
    · rw [if_pos c]; exact step (Or.inl c)
    · rw [if_neg c]
      by_cases c2 : chL L by_ (sub q).2.1 = 61
      · rw [if_pos c2]; exact step (Or.inr (Or.inl c2))
      · rw [if_neg c2]
        by_cases c3 : chL L by_ (sub q).2.1 = 62
        · rw [if_pos c3]; exact step (Or.inr (Or.inr c3))
        · rw [if_neg c3, pz_lp_n (fun h => by have := lv_2.mp h; omega)]
          exact ⟨v, μ1, rfl, e2, e3⟩
theorem re_all (N : Nat) (hN : 130 ≤ N) {L : Nat} {by_ : Nat → Nat} {env : Nat → Int32} : ∀ (f o : Nat), o ≤ 6 → ∀ lev D, lev ≤ 5 → (6 - lev) + 7 * (6 - o) ≤ f → (6 - lev) + 6 * (6 - o) ≤ D → re_S L by_ env o (gl N D lev) (fun q => pz (chL L by_) f lev o q)
  | 0, o, ho, lev, D, h1, h2, h3 => by omega
  | f + 1, o, ho, lev, D, h1, h2, h3 => by
    obtain ⟨D, rfl⟩ : ∃ D', D = D' + 1 := ⟨D - 1, by omega⟩
    by_cases c : lev < 5
    · have ih := re_all N hN f o ho (lev + 1) D (by omega) (by omega) (by omega) (L := L) (by_ := by_) (env := env)
      have hm := pz_mono (L := L) (by_ := by_) f (lev + 1) o
      intro q μ hP
      have he := pz_5 (ch := chL L by_) f lev o q c
      show re_E L by_ env o (gl N (D + 1) lev μ) μ (pz (chL L by_) (f + 1) lev o q)
      rw [he]
      match lev, c, ih, hm with
      | 0, _, ih, hm =>
        obtain ⟨v, μ1, e1, e2, e3⟩ := ih q μ hP
        show re_E L by_ env o (f_X10_either_0 N (f_X10_both_g N D).1 (f_X10_both_g N D).2.1 (f_X10_both_g N D).2.2.1 (f_X10_both_g N D).2.2.2.1 (f_X10_both_g N D).2.2.2.2.1 (f_X10_both_g N D).2.2.2.2.2 μ) μ _
        unfold f_X10_either_0
        have e1 : (f_X10_both_g N D).1 μ = some (v, μ1) := e1
        rw [e1, bd_some]
        exact re_either N (g_X10_both := (f_X10_both_g N D).1) (g_X10_compared := (f_X10_both_g N D).2.1) (g_X10_either := (f_X10_both_g N D).2.2.1) (g_X10_one := (f_X10_both_g N D).2.2.2.1) (g_X10_product := (f_X10_both_g N D).2.2.2.2.1) (g_X10_sums := (f_X10_both_g N D).2.2.2.2.2) hm ih 120 N _ v μ1 (by omega) (by omega) e2 e3
      | 1, _, ih, hm =>
        obtain ⟨v, μ1, e1, e2, e3⟩ := ih q μ hP
        show re_E L by_ env o (f_X10_both_0 N (f_X10_both_g N D).1 (f_X10_both_g N D).2.1 (f_X10_both_g N D).2.2.1 (f_X10_both_g N D).2.2.2.1 (f_X10_both_g N D).2.2.2.2.1 (f_X10_both_g N D).2.2.2.2.2 μ) μ _
        unfold f_X10_both_0
        have e1 : (f_X10_both_g N D).2.1 μ = some (v, μ1) := e1
        rw [e1, bd_some]
        exact re_both N (g_X10_both := (f_X10_both_g N D).1) (g_X10_compared := (f_X10_both_g N D).2.1) (g_X10_either := (f_X10_both_g N D).2.2.1) (g_X10_one := (f_X10_both_g N D).2.2.2.1) (g_X10_product := (f_X10_both_g N D).2.2.2.2.1) (g_X10_sums := (f_X10_both_g N D).2.2.2.2.2) hm ih 120 N _ v μ1 (by omega) (by omega) e2 e3
      | 2, _, ih, hm => exact re_cmp N ih q μ hP
      | 3, _, ih, hm =>
        obtain ⟨v, μ1, e1, e2, e3⟩ := ih q μ hP
        show re_E L by_ env o (f_X10_sums_0 N (f_X10_both_g N D).1 (f_X10_both_g N D).2.1 (f_X10_both_g N D).2.2.1 (f_X10_both_g N D).2.2.2.1 (f_X10_both_g N D).2.2.2.2.1 (f_X10_both_g N D).2.2.2.2.2 μ) μ _
        unfold f_X10_sums_0
        have e1 : (f_X10_both_g N D).2.2.2.2.1 μ = some (v, μ1) := e1
        rw [e1, bd_some]
        exact re_sums N (g_X10_both := (f_X10_both_g N D).1) (g_X10_compared := (f_X10_both_g N D).2.1) (g_X10_either := (f_X10_both_g N D).2.2.1) (g_X10_one := (f_X10_both_g N D).2.2.2.1) (g_X10_product := (f_X10_both_g N D).2.2.2.2.1) (g_X10_sums := (f_X10_both_g N D).2.2.2.2.2) hm ih 120 N _ v μ1 (by omega) (by omega) e2 e3
      | 4, _, ih, hm =>
        obtain ⟨v, μ1, e1, e2, e3⟩ := ih q μ hP
        have e3' : re_C L by_ env o v μ1 (pz (chL L by_) f 5 o q) := e3
        show re_E L by_ env o (f_X10_product_0 N (f_X10_both_g N D).1 (f_X10_both_g N D).2.1 (f_X10_both_g N D).2.2.1 (f_X10_both_g N D).2.2.2.1 (f_X10_both_g N D).2.2.2.2.1 (f_X10_both_g N D).2.2.2.2.2 μ) μ _
        unfold f_X10_product_0
        have e1 : (f_X10_both_g N D).2.2.2.1 μ = some (v, μ1) := e1
        have hb : f_X10_byteAt N μ1 = some (nI (chL L by_ (pz (chL L by_) f 5 o q).2.1), μ1) := by
          cases hq1 : (pz (chL L by_) f 5 o q).1 with
          | true => exact byteAt_r N (e3'.1 hq1).1
          | false => exact byteAt_f N (e3'.2 hq1)
        rw [e1, bd_some, hb, bd_some]
        exact re_product N (g_X10_both := (f_X10_both_g N D).1) (g_X10_compared := (f_X10_both_g N D).2.1) (g_X10_either := (f_X10_both_g N D).2.2.1) (g_X10_one := (f_X10_both_g N D).2.2.2.1) (g_X10_product := (f_X10_both_g N D).2.2.2.2.1) (g_X10_sums := (f_X10_both_g N D).2.2.2.2.2) hm ih 120 N _ v μ1 (by omega) (by omega) e2 e3
    · have hlev : lev = 5 := by omega
      subst hlev
      exact re_one N hN f o D ho (fun h => re_all N hN f (o + 1) h 0 D (by omega) (by omega) (by omega)) (fun h => re_all N hN f (o + 1) h 5 D (by omega) (by omega) (by omega))
theorem re_top (N : Nat) (hN : 130 ≤ N) {L : Nat} {by_ : Nat → Nat} {env : Nat → Int32} : re_S L by_ env 0 (f_X10_either N) (fun q => pz (chL L by_) 48 0 0 q) := re_all N hN 48 0 (by decide) 0 100 (by decide) (by decide) (by decide)
/-! what a text comes to, by its steps -/
def wo (env : Nat → Int32) : List Int32 → Bool → List Int32 → Int32
  | [], _, _ => 0
  | s :: r, ps, k => if s = -59 then (if ps = false then k.headD 0 else wo env r false k) else if s = -63 then wo env r (decide (k.headD 0 = 0)) k.tail else if ps = false then wo env r false (pz_do env s k) else wo env r true k
theorem wo_f (env : Nat → Int32) : ∀ (st rest k : List Int32), (∀ s ∈ st, s ≠ -59 ∧ s ≠ -63) → wo env (st ++ rest) false k = wo env rest false (pz_ev env st k)
  | [], _, _, _ => rfl
  | s :: st, rest, k, h => by
    obtain ⟨h1, h2⟩ := h s List.mem_cons_self
    show (if s = -59 then _ else if s = -63 then _ else if false = false then wo env (st ++ rest) false (pz_do env s k) else _) = _
    rw [if_neg h1, if_neg h2, if_pos rfl]
    exact wo_f env st rest (pz_do env s k) (fun z hz => h z (List.mem_cons_of_mem _ hz))
theorem wo_t (env : Nat → Int32) : ∀ (st rest k : List Int32), (∀ s ∈ st, s ≠ -59 ∧ s ≠ -63) → wo env (st ++ rest) true k = wo env rest true k
  | [], _, _, _ => rfl
  | s :: st, rest, k, h => by
    obtain ⟨h1, h2⟩ := h s List.mem_cons_self
    show (if s = -59 then _ else if s = -63 then _ else if true = false then _ else wo env (st ++ rest) true k) = _
    rw [if_neg h1, if_neg h2, if_neg (by decide)]
    exact wo_t env st rest k (fun z hz => h z (List.mem_cons_of_mem _ hz))
/-- the lines so far: none has held (g false), or the first that did gave v -/
def WV (env : Nat → Int32) (st : List Int32) (g : Bool) (v : Int32) : Prop := (g = false → v = 0 ∧ ∀ rest, wo env (st ++ rest) false [] = wo env rest false []) ∧ (g = true → ∀ rest, wo env (st ++ rest) false [] = v)
theorem WV_line {env : Nat → Int32} {st : List Int32} {g : Bool} {v w : Int32} (h : WV env st g v) {a : List Int32} (ha : ∀ s ∈ a, s ≠ -59 ∧ s ≠ -63) (hw : ∀ k, pz_ev env a k = w :: k) : WV env (st ++ (a ++ [-59])) true (if g = true then v else w) := by
  refine ⟨fun q => (by cases q), fun _ rest => ?_⟩
  rw [List.append_assoc]
  cases hg : g with
  | true => rw [h.2 hg, if_pos rfl]
  | false =>
    rw [(h.1 hg).2, List.append_assoc, wo_f env a _ _ ha, hw, if_neg (by decide)]
    rfl
theorem WV_cond {env : Nat → Int32} {st : List Int32} {g : Bool} {v c w : Int32} (h : WV env st g v) {a b : List Int32} (ha : ∀ s ∈ a, s ≠ -59 ∧ s ≠ -63) (hc : ∀ k, pz_ev env a k = c :: k) (hb : ∀ s ∈ b, s ≠ -59 ∧ s ≠ -63) (hw : ∀ k, pz_ev env b k = w :: k) : WV env (st ++ (((a ++ [-63]) ++ b) ++ [-59])) (if c = 0 then g else true) (if c = 0 then v else if g = true then v else w) := by
  have key : ∀ rest, wo env ((((a ++ [-63]) ++ b) ++ [-59]) ++ rest) false [] = if c = 0 then wo env rest false [] else w := by
    intro rest
    rw [List.append_assoc, List.append_assoc, List.append_assoc, wo_f env a _ _ ha, hc]
    show wo env (b ++ ([-59] ++ rest)) (decide (c = 0)) [] = _
    by_cases d : c = 0
    · rw [if_pos d, decide_eq_true d, wo_t env b _ _ hb]
      rfl
    · rw [if_neg d, decide_eq_false d, wo_f env b _ _ hb, hw]
      rfl
  by_cases d : c = 0
  · rw [if_pos d, if_pos d]
    refine ⟨fun hg => ⟨(h.1 hg).1, fun rest => ?_⟩, fun hg rest => ?_⟩
    · rw [List.append_assoc, (h.1 hg).2, key, if_pos d]
    · rw [List.append_assoc, h.2 hg]
  · rw [if_neg d, if_neg d]
    refine ⟨fun q => (by cases q), fun _ rest => ?_⟩
    rw [List.append_assoc]
    cases hg : g with
    | true => rw [h.2 hg, if_pos rfl]
    | false => rw [(h.1 hg).2, key, if_neg d, if_neg (by decide)]
