/-! the reference works a text out -/
/-- behind a line: the lines r, given g, gives v -/
def WS (L : Nat) (by_ : Nat → Nat) (env : Nat → Int32) (μ : am_M) (r : pz_R) (g : Bool) (v : Int32) : Prop := (r.1 = true → RP L by_ env μ r.2.1 0 ∧ WV env r.2.2 g v) ∧ (r.1 = false → RF L by_ env μ r.2.1)
/-- one line -/
theorem rw_line (N : Nat) (hN : 130 ≤ N) {L : Nat} {by_ : Nat → Nat} {env : Nat → Int32} {rec_ : Int32 → Int32 → Int32 → am_M → Option (Int32 × am_M)} {μ : am_M} {q : Nat} {st : List Int32} {g : Bool} {v : Int32} (hP : RP L by_ env μ q 0) (hW : WV env st g v) :
    ∃ (g' : Bool) (v' : Int32) (μ' : am_M), f_X10_workOut_33 N rec_ (b2 g) v (nI 1) μ = f_X10_workOut_96 N rec_ (b2 g') v' μ' ∧ fr p_ref μ μ' ∧ WS L by_ env μ' ((pz_ln (chL L by_) q).1, ((pz_ln (chL L by_) q).2.1, st ++ (pz_ln (chL L by_) q).2.2)) g' v' := by
  have h74 : ∀ (μ : am_M) (x6 : Int32) (hold : Bool), μ.1 10 0 21 = -1 → f_X10_workOut_74 N rec_ (b2 g) v x6 (b2 hold) μ = f_X10_workOut_96 N rec_ (b2 (if hold = true then true else g)) (if hold = true then (if g = true then v else x6) else v) μ := by
    intro μ x6 hold h
    unfold f_X10_workOut_74
    rw [h, if_neg (by decide)]
    simp only [li_0, li_1, li_2, li_3, li_4, li_5, li_6, li_7, li_8, li_9, li_10, li_11, li_12, li_13, li_14, li_15, li_16, li_17, li_18, li_19, li_20, li_21, li_22, li_23, li_24, li_25, li_26, li_27, li_28, li_29, li_30, li_31, li_32, li_33, li_34, li_35, li_36, li_37, li_38, li_39, li_40, li_41, li_42, li_43, li_44, li_45, li_46, li_47, li_48, li_49, li_50, li_51, li_52, li_53, li_54, li_55, li_56, li_57, li_58, li_59, li_60, li_61, li_62, li_63, li_64, li_65, li_66, li_67, li_68, li_69, li_70, li_71, li_72, li_73, li_74, li_75, li_76, li_77, li_78, li_79, li_80, li_81, li_82, li_83, li_84, li_85, li_86, li_87, li_88, li_89, li_90, li_91, li_92, li_93, li_94, li_95, li_96, li_97, li_98, li_99, li_100, li_101, li_102, li_103, li_104, li_105, li_106, li_107, li_108, li_109, li_110, li_111, li_112, li_113, li_114, li_115, li_116, li_117, li_118, li_119, li_120, li_121, li_122, li_123, li_124, li_125, li_126, li_127, li_128, li_129, li_130, li_255, li_259, li_360, li_480, li_900, li_999, li_1000, li_1782, li_1783, li_9999, li_1000000000, b2_0]
    cases hold with
    | false => rw [if_pos rfl]; rfl
    | true =>
      rw [if_neg (by decide)]
      cases g with
      | false => rw [if_pos rfl]; rfl
      | true => rw [if_neg (by decide)]; rfl
  have h74f : ∀ (μ : am_M) (x6 x7 : Int32) (p : Nat), μ.1 10 0 21 = nI p → p < 2147483648 → f_X10_workOut_74 N rec_ (b2 g) v x6 x7 μ = f_X10_workOut_96 N rec_ (b2 g) v μ := by
    intro μ x6 x7 p h hp
    unfold f_X10_workOut_74
    rw [h, if_pos (nI_pos' hp)]
  obtain ⟨c, μ1, e1, e2, e3⟩ := re_top N hN q μ hP
  have e3' : re_C L by_ env 0 c μ1 (pz (chL L by_) 48 0 0 q) := e3
  have hok := pz_all (chL_0 (L := L) (by_ := by_)) 48 0 0 q hP.2.2.2.2.2.1
  unfold f_X10_workOut_33 pz_ln
  simp only [li_0, li_1, li_2, li_3, li_4, li_5, li_6, li_7, li_8, li_9, li_10, li_11, li_12, li_13, li_14, li_15, li_16, li_17, li_18, li_19, li_20, li_21, li_22, li_23, li_24, li_25, li_26, li_27, li_28, li_29, li_30, li_31, li_32, li_33, li_34, li_35, li_36, li_37, li_38, li_39, li_40, li_41, li_42, li_43, li_44, li_45, li_46, li_47, li_48, li_49, li_50, li_51, li_52, li_53, li_54, li_55, li_56, li_57, li_58, li_59, li_60, li_61, li_62, li_63, li_64, li_65, li_66, li_67, li_68, li_69, li_70, li_71, li_72, li_73, li_74, li_75, li_76, li_77, li_78, li_79, li_80, li_81, li_82, li_83, li_84, li_85, li_86, li_87, li_88, li_89, li_90, li_91, li_92, li_93, li_94, li_95, li_96, li_97, li_98, li_99, li_100, li_101, li_102, li_103, li_104, li_105, li_106, li_107, li_108, li_109, li_110, li_111, li_112, li_113, li_114, li_115, li_116, li_117, li_118, li_119, li_120, li_121, li_122, li_123, li_124, li_125, li_126, li_127, li_128, li_129, li_130, li_255, li_259, li_360, li_480, li_900, li_999, li_1000, li_1782, li_1783, li_9999, li_1000000000]
  rw [if_neg (by decide), e1, bd_some]
  cases hr : (pz (chL L by_) 48 0 0 q).1 with
  | false =>
    have hF := e3'.2 hr
    have hlt : (pz (chL L by_) 48 0 0 q).2.1 < 2147483648 := by have := hF.2.1; have := hF.2.2.2.2.2.1; omega
    rw [takes_f N _ hF.2.2.2.2.2.2.2 hlt, bd_some, if_pos rfl, h74f μ1 _ _ _ hF.2.2.2.2.2.2.2 hlt, if_neg (fun z => by cases z.1)]
    exact ⟨g, v, μ1, rfl, e2, fun z => (by cases z), fun _ => hF⟩
  | true =>
    obtain ⟨hP1, hv⟩ := e3'.1 hr
    have ht := takes_r N hP1 63 (by decide)
    rw [ht]
    by_cases c7 : chL L by_ (pz (chL L by_) 48 0 0 q).2.1 = 63
    · rw [if_pos c7, if_pos ⟨rfl, c7⟩, bd_some, if_neg (by decide)]
      have hlt := pz_lt (p := (pz (chL L by_) 48 0 0 q).2.1) (chL_0 (L := L) (by_ := by_)) (by omega)
      obtain ⟨a1, a2⟩ := advR hP1 hlt
      obtain ⟨w, μ2, g1, g2, g3⟩ := re_top N hN _ _ a1
      have g3' : re_C L by_ env 0 w μ2 (pz (chL L by_) 48 0 0 ((pz (chL L by_) 48 0 0 q).2.1 + 1)) := g3
      have hok2 := pz_all (chL_0 (L := L) (by_ := by_)) 48 0 0 ((pz (chL L by_) 48 0 0 q).2.1 + 1) hlt
      have e66 : (if c = nI 0 then f_X10_workOut_66 N rec_ (b2 g) v (nI 0) (am_ui μ1 10 0 19 (μ1.1 10 0 19 + nI 1)) else f_X10_workOut_66 N rec_ (b2 g) v (nI 1) (am_ui μ1 10 0 19 (μ1.1 10 0 19 + nI 1))) = f_X10_workOut_74 N rec_ (b2 g) v w (b2 (!decide (c = 0))) μ2 := by
        unfold f_X10_workOut_66
        rw [g1, bd_some]
        by_cases d : c = nI 0
        · rw [if_pos d, decide_eq_true (by rw [d, li_0])]; rfl
        · rw [if_neg d, decide_eq_false (fun z => d (by rw [z, li_0]))]; rfl
      rw [e66]
      cases hr2 : (pz (chL L by_) 48 0 0 ((pz (chL L by_) 48 0 0 q).2.1 + 1)).1 with
      | false =>
        have hF := g3'.2 hr2
        have hlt2 : (pz (chL L by_) 48 0 0 ((pz (chL L by_) 48 0 0 q).2.1 + 1)).2.1 < 2147483648 := by have := hF.2.1; have := hF.2.2.2.2.2.1; omega
        rw [h74f μ2 _ _ _ hF.2.2.2.2.2.2.2 hlt2]
        exact ⟨g, v, μ2, rfl, (e2.tr a2).tr g2, fun z => (by cases z), fun _ => hF⟩
      | true =>
        obtain ⟨hP2, hv2⟩ := g3'.1 hr2
        rw [h74 μ2 _ _ hP2.2.2.2.2.2.2.2.1]
        have hWc := WV_cond hW (hok.2.2 hr).2.2 hv (hok2.2.2 hr2).2.2 hv2
        refine ⟨_, _, μ2, rfl, (e2.tr a2).tr g2, fun _ => ⟨hP2, ?_⟩, fun z => (by cases z)⟩
        by_cases d : c = 0
        · rw [if_pos d, if_pos d] at hWc
          simpa [d, li_63, li_59] using hWc
        · rw [if_neg d, if_neg d] at hWc
          simpa [d, li_63, li_59] using hWc
    · rw [if_neg c7, if_neg (fun z => c7 z.2), bd_some, if_pos rfl]
      have := h74 μ1 c true hP1.2.2.2.2.2.2.2.1
      have e : b2 true = nI 1 := rfl
      rw [e] at this
      rw [this]
      exact ⟨_, _, μ1, rfl, e2, fun _ => ⟨hP1, WV_line hW (hok.2.2 hr).2.2 hv⟩, fun z => (by cases z)⟩
theorem rw_text (N : Nat) (hN : 130 ≤ N) {L : Nat} {by_ : Nat → Nat} {env : Nat → Int32} {μ0 : am_M} : ∀ (n m : Nat) (r : pz_R) (g : Bool) (v : Int32) (μ : am_M), 120 ≤ n + r.2.1 → n + 1 ≤ m → fr p_ref μ0 μ → WS L by_ env μ r g v →
    ∃ (z : Int32) (μ' : am_M), f_X10_workOut_96 N (f_X10_workOut_33_lp N m) (b2 g) v μ = some (z, μ') ∧ fr p_ref μ0 μ' ∧ (((pz_tx (chL L by_) n r).1 && (pz_tx (chL L by_) n r).2.1 == L) = true → μ'.1 10 0 21 = -1 ∧ z = wo env (pz_tx (chL L by_) n r).2.2 false []) ∧ (((pz_tx (chL L by_) n r).1 && (pz_tx (chL L by_) n r).2.1 == L) = false → μ'.1 10 0 21 = nI (pz_tx (chL L by_) n r).2.1)
  | n, 0, r, g, v, μ, h1, h2, h3, h4 => by omega
  | n, m + 1, r, g, v, μ, h1, h2, h3, h4 => by
    unfold f_X10_workOut_96
    cases hr : r.1 with
    | false =>
      have hF := h4.2 hr
      have hlt : r.2.1 < 2147483648 := by have := hF.2.1; have := hF.2.2.2.2.2.1; omega
      have e : pz_tx (chL L by_) n r = r := by
        cases n with
        | zero => rfl
        | succ n => unfold pz_tx; rw [if_neg (fun q => by rw [hr] at q; cases q.1)]
      rw [takes_f N _ hF.2.2.2.2.2.2.2 hlt, bd_some, e, hr]
      unfold f_X10_workOut_33_lp f_X10_workOut_33
      rw [if_pos (by decide), hF.2.2.2.2.2.2.2, if_pos (nI_pos' hlt)]
      exact ⟨v, μ, rfl, h3, fun z => (by cases z), fun _ => hF.2.2.2.2.2.2.2⟩
    | true =>
      obtain ⟨hP, hW⟩ := h4.1 hr
      have ht := takes_r N hP 59 (by decide)
      simp only [li_0, li_1, li_2, li_3, li_4, li_5, li_6, li_7, li_8, li_9, li_10, li_11, li_12, li_13, li_14, li_15, li_16, li_17, li_18, li_19, li_20, li_21, li_22, li_23, li_24, li_25, li_26, li_27, li_28, li_29, li_30, li_31, li_32, li_33, li_34, li_35, li_36, li_37, li_38, li_39, li_40, li_41, li_42, li_43, li_44, li_45, li_46, li_47, li_48, li_49, li_50, li_51, li_52, li_53, li_54, li_55, li_56, li_57, li_58, li_59, li_60, li_61, li_62, li_63, li_64, li_65, li_66, li_67, li_68, li_69, li_70, li_71, li_72, li_73, li_74, li_75, li_76, li_77, li_78, li_79, li_80, li_81, li_82, li_83, li_84, li_85, li_86, li_87, li_88, li_89, li_90, li_91, li_92, li_93, li_94, li_95, li_96, li_97, li_98, li_99, li_100, li_101, li_102, li_103, li_104, li_105, li_106, li_107, li_108, li_109, li_110, li_111, li_112, li_113, li_114, li_115, li_116, li_117, li_118, li_119, li_120, li_121, li_122, li_123, li_124, li_125, li_126, li_127, li_128, li_129, li_130, li_255, li_259, li_360, li_480, li_900, li_999, li_1000, li_1782, li_1783, li_9999, li_1000000000]
      rw [ht]
      by_cases c : chL L by_ r.2.1 = 59
      · have hlt := pz_lt (p := r.2.1) (chL_0 (L := L) (by_ := by_)) (by omega)
        obtain ⟨n, rfl⟩ : ∃ n', n = n' + 1 := ⟨n - 1, by have := hP.2.1; omega⟩
        obtain ⟨a1, a2⟩ := advR hP hlt
        rw [if_pos c, bd_some]
        have e : pz_tx (chL L by_) (n + 1) r = pz_tx (chL L by_) n ((pz_ln (chL L by_) (r.2.1 + 1)).1, ((pz_ln (chL L by_) (r.2.1 + 1)).2.1, r.2.2 ++ (pz_ln (chL L by_) (r.2.1 + 1)).2.2)) := by
          rw [pz_tx, if_pos ⟨hr, c⟩]
        rw [e]
        unfold f_X10_workOut_33_lp
        obtain ⟨g', v', μ1, e1, e2, e3⟩ := rw_line N hN (rec_ := f_X10_workOut_33_lp N m) a1 hW
        rw [e1]
        have hq := (pz_ln_ok (chL_0 (L := L) (by_ := by_)) (p := r.2.1 + 1) hlt).1
        exact rw_text N hN n m _ g' v' μ1 (by show 120 ≤ n + (pz_ln (chL L by_) (r.2.1 + 1)).2.1; omega) (by omega) ((h3.tr a2).tr e2) e3
      · have e : pz_tx (chL L by_) n r = r := by
          cases n with
          | zero => rfl
          | succ n => unfold pz_tx; rw [if_neg (fun q => c q.2)]
        rw [if_neg c, bd_some, e, hr]
        unfold f_X10_workOut_33_lp f_X10_workOut_33
        rw [if_pos (by decide), hP.2.2.2.2.2.2.2.1, if_neg (by decide), hP.2.2.2.2.1, hP.2.2.2.2.2.2.1]
        have hL := hP.2.1
        have hpL := hP.2.2.2.2.2.1
        simp (disch := omega) only [nI_leI]
        by_cases d : L ≤ r.2.1
        · have dd : r.2.1 = L := by omega
          rw [if_pos d]
          refine ⟨v, μ, rfl, h3, fun _ => ⟨hP.2.2.2.2.2.2.2.1, ?_⟩, fun z => ?_⟩
          · cases hg : g with
            | true => have := hW.2 hg []; rw [List.append_nil] at this; exact this.symm
            | false => have := (hW.1 hg).2 []; rw [List.append_nil] at this; rw [this, (hW.1 hg).1]; rfl
          · rw [dd] at z; simp at z
        · rw [if_neg d, fails_r N hP, bd_some]
          refine ⟨nI 0, _, rfl, h3.tr (fr.rf.ui rfl), fun z => ?_, fun _ => by simp [ui1]⟩
          simp at z; omega
def p_rw (k i : Nat) : Bool := k == 10 && (i == 18 || i == 19 || i == 20 || i == 21 || i == 22)
/-- workOut of the reference, from a text at 'from' -/
theorem work_r (N : Nat) (hN : 130 ≤ N) {L : Nat} {by_ : Nat → Nat} {env : Nat → Int32} {μ : am_M} {B : Int32} (hL : L ≤ 120) (hb : ∀ j, j < L → by_ j < 256) (hE : EN env μ) (hB : (B = -1 ∧ ∀ j, j < L → μ.1 173 0 j = nI (by_ j)) ∨ ∃ w, w < 4 ∧ B = nI (120 * w) ∧ ∀ j, j < L → μ.1 176 0 (120 * w + j) = nI (by_ j)) :
    ∃ (z : Int32) (μ' : am_M), f_X10_workOut N B (nI L) μ = some (z, μ') ∧ fr p_rw μ μ' ∧ (((pz_t (chL L by_)).1 && (pz_t (chL L by_)).2.1 == L) = true → μ'.1 10 0 21 = -1 ∧ z = wo env (pz_t (chL L by_)).2.2 false []) ∧ (((pz_t (chL L by_)).1 && (pz_t (chL L by_)).2.1 == L) = false → μ'.1 10 0 21 = nI (pz_t (chL L by_)).2.1) := by
  unfold f_X10_workOut f_X10_workOut_0
  simp only [am_nm, li_0, li_1, li_2, li_3, li_4, li_5, li_6, li_7, li_8, li_9, li_10, li_11, li_12, li_13, li_14, li_15, li_16, li_17, li_18, li_19, li_20, li_21, li_22, li_23, li_24, li_25, li_26, li_27, li_28, li_29, li_30, li_31, li_32, li_33, li_34, li_35, li_36, li_37, li_38, li_39, li_40, li_41, li_42, li_43, li_44, li_45, li_46, li_47, li_48, li_49, li_50, li_51, li_52, li_53, li_54, li_55, li_56, li_57, li_58, li_59, li_60, li_61, li_62, li_63, li_64, li_65, li_66, li_67, li_68, li_69, li_70, li_71, li_72, li_73, li_74, li_75, li_76, li_77, li_78, li_79, li_80, li_81, li_82, li_83, li_84, li_85, li_86, li_87, li_88, li_89, li_90, li_91, li_92, li_93, li_94, li_95, li_96, li_97, li_98, li_99, li_100, li_101, li_102, li_103, li_104, li_105, li_106, li_107, li_108, li_109, li_110, li_111, li_112, li_113, li_114, li_115, li_116, li_117, li_118, li_119, li_120, li_121, li_122, li_123, li_124, li_125, li_126, li_127, li_128, li_129, li_130, li_255, li_259, li_360, li_480, li_900, li_999, li_1000, li_1782, li_1783, li_9999, li_1000000000]
  obtain ⟨μ5, h5⟩ : ∃ μ5, μ5 = am_ui (am_ui (am_ui (am_ui (am_ui μ 10 0 18 B) 10 0 19 (nI 0)) 10 0 20 (nI L)) 10 0 21 (-nI 1)) 10 0 22 (nI 0) := ⟨_, rfl⟩
  rw [← h5]
  have hF : fr p_rw μ μ5 := by rw [h5]; exact ((((fr.rf.ui rfl).ui rfl).ui rfl).ui rfl).ui rfl
  have hP : RP L by_ env μ5 0 0 := by
    refine ⟨?_, hL, hb, ?_, by rw [h5]; simp [ui1], Nat.zero_le _, by rw [h5]; simp [ui1], by rw [h5]; simp [ui1]; decide, by rw [h5]; simp [ui1]⟩
    · rcases hB with ⟨q1, q2⟩ | ⟨w, q0, q1, q2⟩
      · exact Or.inl ⟨by rw [h5]; simp [ui1, q1], fun j hj => by rw [hF.1 173 0 j rfl]; exact q2 j hj⟩
      · exact Or.inr ⟨w, q0, by rw [h5]; simp [ui1, q1], fun j hj => by rw [hF.1 176 0 _ rfl]; exact q2 j hj⟩
    · obtain ⟨a, b, c, d, e, f, g⟩ := hE
      exact ⟨(hF.1 183 0 0 rfl).trans a, (hF.1 183 0 1 rfl).trans b, (hF.1 183 0 2 rfl).trans c, (hF.1 183 0 3 rfl).trans d, (hF.1 183 0 4 rfl).trans e, (hF.1 183 0 5 rfl).trans f, (hF.1 183 0 6 rfl).trans g⟩
  obtain ⟨m, rfl⟩ : ∃ m, N = m + 1 := ⟨N - 1, by omega⟩
  have hW0 : WV env [] false (nI 0) := ⟨fun _ => ⟨by decide, fun _ => rfl⟩, fun h => (by cases h)⟩
  obtain ⟨g', v', μ1, e1, e2, e3⟩ := rw_line (m + 1) hN (rec_ := f_X10_workOut_33_lp (m + 1) m) hP hW0
  unfold f_X10_workOut_33_lp
  have eb : b2 false = nI 0 := rfl
  rw [eb] at e1
  rw [e1]
  obtain ⟨z, μ2, g1, g2, g3, g4⟩ := rw_text (m + 1) hN (μ0 := μ5) 120 m _ g' v' μ1 (by omega) (by omega) e2 e3
  rw [List.nil_append] at g3 g4
  exact ⟨z, μ2, g1, hF.tr (g2.mono (fun k i h => by
    simp only [p_rw, p_ref, Bool.and_eq_false_iff, Bool.or_eq_false_iff] at h ⊢
    rcases h with h | h
    · exact Or.inl h
    · exact Or.inr ⟨⟨h.1.1.1.2, h.1.2⟩, h.2⟩)), g3, g4⟩
