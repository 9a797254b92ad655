/-! a town with dearer coin; beside, loses -/
def hc (a : Nat → Nat → Nat) (h t : Nat) : Nat := a 1 t * h / 100
def hm (a : Nat → Nat → Nat) (h t i : Nat) : Nat := if i < t then hc a h i else a 1 i
def h0 (a : Nat → Nat → Nat) (t i : Nat) : Nat := if i < t then 0 else a 2 i
theorem hc_le {T S : Nat} {a : Nat → Nat → Nat} {W : Nat} (hb : BD T S a W) {h : Nat} (hh : h ≤ 900) (t : Nat) : hc a h t ≤ 891 := by
  have h1 := (hb.2.2.2.1 t).2.1
  have : a 1 t * h ≤ 99 * 900 := Nat.mul_le_mul h1 hh
  unfold hc; omega
theorem cwk_lp (N : Nat) (hN : 130 ≤ N) {T S : Nat} {a : Nat → Nat → Nat} {W : Nat} {tx : Nat → tx_T} {s h : Nat} (hs : s < S) (hh : h ≤ 900) {μ0 : am_M} :
    ∀ (n m t : Nat) (μ : am_M), t + n = T → n + 1 ≤ m → Cv μ T S a W tx → TC μ T (hm a h t) (h0 a t) → WM μ T (cwt (wf tx a T (a 1) (a 2) s)) → fr p_ex μ0 μ →
      ∃ μ' b, f_X0_coinWorth_2_lp N m (nI s) (nI h) (nI t) μ = some (nI (bw (cwt (wf tx a T (a 1) (a 2) s)) T b), μ') ∧ fr p_ex μ0 μ' ∧ Bst (cwt (wf tx a T (a 1) (a 2) s)) (hc a h) (fun _ => 0) T (fun b => bc (hc a h) T b ≤ a 5 s) (fun _ => True) (some b)
  | n, 0, t, μ, h1, h2, hC, hT, hw, hF => by omega
  | 0, m + 1, t, μ, h1, h2, hC, hT, hw, hF => by
    have hT6 := hC.1.1
    have hS5 := hC.1.2.1
    have hb := hC.1.2.2.2.1
    have hbs := hb s
    unfold f_X0_coinWorth_2_lp f_X0_coinWorth_2
    rw [hC.2.1, if_pos ((nI_leI (by omega) (by omega)).mpr (by omega)), li_5, at_cls N (by omega) (by omega), bd_some, hC.2.2.2.2.2.1 5 s (by omega) (by omega) hs, li_0]
    have : t = T := by omega
    subst this
    have hwf := wf_le tx a t (a 1) (a 2) s
    have hT' : TC μ t (hc a h) (fun _ => 0) := fun i hi => ⟨by rw [(hT i hi).1]; unfold hm; rw [if_pos hi], by rw [(hT i hi).2]; unfold h0; rw [if_pos hi]⟩
    obtain ⟨μ', b', g1, g2, g3, -, -, -, g7⟩ := search_c N hN (pu := a 5 s) (bo := 0) (pr := 0) (w := cwt (wf tx a t (a 1) (a 2) s)) (c := hc a h) (p := fun _ => 0) ⟨hT6, fun t m hm => Nat.le_trans (cwt_le hwf t m) (by omega), fun t m hm => cwt_mono _ t m hm, fun i => by have := hc_le hC.1 hh i; omega, fun t => Nat.zero_le _, by omega, by omega, by omega⟩ hC.2.1 hT' hw
    rw [g1, bd_some, g3.1]
    exact ⟨μ', b', rfl, hF.tr (wk_ex (k5_wk g2)), Bst_congr g7 (fun z _ => by unfold pay; simp) (fun _ _ => Iff.rfl)⟩
  | n + 1, m + 1, t, μ, h1, h2, hC, hT, hw, hF => by
    have hT6 := hC.1.1
    have hb := (hC.1.2.2.2.1 t).2.1
    have e1 : μ.1 82 0 t = nI (a 1 t) := by rw [(hT t (by omega)).1]; unfold hm; rw [if_neg (by omega)]
    have hm' : a 1 t * h ≤ 99 * 900 := Nat.mul_le_mul hb hh
    unfold f_X0_coinWorth_2_lp f_X0_coinWorth_2
    rw [hC.2.1, if_neg (fun z => by have := (nI_leI (by omega) (by omega)).mp z; omega), coinOf_c N (by omega), bd_some, e1, pk_mul, li_100, pk_div (by omega) (by decide) (by decide), think_c N (by omega), bd_some, nI_1]
    have hG : fr p_rc μ (am_ui (am_ui μ 82 0 t (nI (a 1 t * h / 100))) 83 0 t 0) := (fr.rf.ui rfl).ui rfl
    refine cwk_lp N hN hs hh n m (t + 1) _ (by omega) (by omega) (hC.of (rc_C hG)) (fun i hi => ⟨?_, ?_⟩) (hw.of hG (fun _ => rfl) (fun _ => rfl)) (hF.tr (rc_ex hG))
    · rw [ui1, if_neg (by omega), ui1]
      by_cases c : i = t
      · subst c; unfold hm; rw [if_pos ⟨rfl, rfl, rfl⟩, if_pos (by omega)]; rfl
      · rw [if_neg (by omega), (hT i hi).1]
        unfold hm
        by_cases d : i < t
        · rw [if_pos d, if_pos (by omega)]
        · rw [if_neg d, if_neg (by omega)]
    · rw [ui1]
      by_cases c : i = t
      · subst c; unfold h0; rw [if_pos ⟨rfl, rfl, rfl⟩, if_pos (by omega), li_0]
      · rw [if_neg (by omega), ui1, if_neg (by omega), (hT i hi).2]
        unfold h0
        by_cases d : i < t
        · rw [if_pos d, if_pos (by omega)]
        · rw [if_neg d, if_neg (by omega)]
theorem other_2 (N : Nat) (hN : 5000 ≤ N) {T S : Nat} {a : Nat → Nat → Nat} {W : Nat} {tx : Nat → tx_T} {s h : Nat} (hs : s < S) (hh : h ≤ 900) {μ ν : am_M} (hC : Cv μ T S a W tx) (hR : Rv ν T S a W tx) :
    ∃ v μ' ν', f_X0_otherwise N (nI s) (nI h) μ = some (v, μ') ∧ fr p_ex μ μ' ∧ f_X10_besideOf N (nI s) (nI h) ν = some (v, ν') ∧ fr p_RR ν ν' ∧ Rv ν' T S a W tx := by
  have hT6 := hC.1.1
  have hS5 := hC.1.2.1
  have hb := hC.1.2.2.2.1
  unfold f_X0_otherwise f_X0_otherwise_0 f_X10_besideOf f_X10_besideOf_0
  obtain ⟨μ1, e1, e2, e3⟩ := recall_C N (by omega) hC
  obtain ⟨μ2, e4, e5, e6⟩ := weigh_c N (by omega) (hC.of (rc_C e2)) e3 hs
  have hF := (rc_ex e2).tr (wk_ex (wg_wk e5))
  have hC2 := hC.of (ex_C hF)
  rw [e1, bd_some, e4, bd_some]
  by_cases c : h = 0
  · subst c
    have hA := ah_lp N hC2 S N 0 (by omega) (by omega)
    have hA' : f_X5_allHeads_4_lp N N 0 0 μ2 = _ := hA
    have hE := ew_lp N hs hC2 e6 T N 0 (by omega) (by omega)
    have hE' : f_X0_equalWorth_12_lp N N (nI (sN (a 4) S)) 0 0 μ2 = _ := hE
    have hH := rh_lp N (x1 := nI s) hR S N 0 (by omega) (by omega)
    have hH' : f_X10_besideOf_39_lp N N (nI s) 0 0 ν = _ := hH
    obtain ⟨ν1, r1, r2, r3⟩ := lay_r N (by omega) hR hs
    have hR1 := hR.of (la_R r2)
    have hG := re_lp N hs hR1 r3 T N 0 (by omega) (by omega)
    have hG' : f_X10_besideOf_75_lp N N (nI (sN (a 4) S)) 0 0 ν1 = _ := hG
    unfold f_X0_equalWorth f_X0_equalWorth_0 f_X5_allHeads f_X5_allHeads_0
    rw [if_pos (show nI 0 = 0 by decide), hA', bd_some, hE', bd_some, if_pos (show nI 0 ≤ 0 by decide), hH', r1, bd_some, hG']
    exact ⟨_, μ2, ν1, rfl, hF, rfl, R_RR (la_R r2), hR1⟩
  · have c1 : ¬ nI h = 0 := nI_ne0 (by omega) (by omega)
    have c2 : ¬ nI h ≤ 0 := nI_nle (by omega) (by omega)
    obtain ⟨μ3, b1, g1, g2, g3⟩ := cwk_lp N (by omega) hs hh (μ0 := μ2) T N 0 μ2 (by omega) (by omega) hC2 (fun i hi => ⟨by unfold hm; rw [if_neg (by omega)]; exact (e5.1 82 0 i rfl).trans (e3 i hi).1, by unfold h0; rw [if_neg (by omega)]; exact (e5.1 83 0 i rfl).trans (e3 i hi).2⟩) e6 fr.rf
    have g1' : f_X0_coinWorth_2_lp N N (nI s) (nI h) 0 μ2 = _ := g1
    have hW := hR.w.u29 (nI h)
    have hbs := hb s
    obtain ⟨ν2, b2, q1, q2, q3, q4⟩ := findBest_w N hN hW hs (dr := h) (by simp [ui1]) hh (pu := a 5 s) (bo := 1000000000) (by omega) (by decide)
    have hbw := bw_eq g3 q4 (fun z _ => by
      have := Nat.le_trans (bc_le (a 2) 99 (fun t => (hb t).2.2.1) T z) (show T * (3 * 99) ≤ 1782 by omega)
      exact ⟨fun q => ⟨q, by omega⟩, fun q => q.1⟩)
    unfold f_X0_coinWorth f_X0_coinWorth_0
    rw [if_neg c1, if_neg c2, g1', bd_some]
    simp only [am_nme]
    rw [purseOf_rw N hW hs, bd_some, li_1000000000, q1, bd_some]
    have hW2 : Rw ν2 T S a W tx := hW.of (fb_R q2)
    have hfin := (hW2.u29 100).v (by simp [ui1]; rfl)
    have hF9 : fr p_RR ν (am_ui ν 10 0 29 (nI h)) := k29_RR (fr.rf.ui rfl)
    have hF8 : fr p_RR ν2 (am_ui ν2 10 0 29 100) := k29_RR (fr.rf.ui rfl)
    refine ⟨_, μ3, _, rfl, hF.tr g2, ?_, (hF9.tr (R_RR (fb_R q2))).tr hF8, hfin⟩
    rw [ui1, if_neg (by omega), q3, hbw]
theorem isShare_c (N : Nat) (x : Int32) (μ : am_M) : f_X9_isShare N x μ = some (if x = 0 ∨ (100 ≤ x ∧ x ≤ 900) then nI 1 else nI 0, μ) := by
  unfold f_X9_isShare f_X9_isShare_0 f_X9_isShare_16
  by_cases c : x = 0
  · rw [if_pos c, if_pos (Or.inl c), li_1, z_1]
  · rw [if_neg c, w_cls, bd_some, gI]
    by_cases d : 100 ≤ x ∧ x ≤ 900
    · rw [if_pos d, if_pos (Or.inr d), li_1, z_1]
    · rw [if_neg d, if_neg (fun q => q.elim c d), li_0, z_0]
theorem isHow_r (N : Nat) (x : Int32) (μ : am_M) : f_X10_isHow N x μ = some (if x = 0 ∨ (100 ≤ x ∧ x ≤ 900) then nI 1 else nI 0, μ) := by
  unfold f_X10_isHow f_X10_isHow_0 f_X10_isHow_18
  by_cases c : x = 0
  · rw [if_pos c, if_pos (Or.inl c), li_1, z_1]
  · rw [if_neg c, w_ref N x 100 900 _ _ (by decide) (by decide), bd_some, gI]
    by_cases d : 100 ≤ x ∧ x ≤ 900
    · rw [if_pos d, if_pos (Or.inr d), li_1, z_1]
    · rw [if_neg d, if_neg (fun q => q.elim c d), li_0, z_0]
theorem how_ex {x : Int32} (h : x = 0 ∨ (100 ≤ x ∧ x ≤ 900)) : ∃ j, j ≤ 900 ∧ x = nI j := by
  rcases h with h | h
  · exact ⟨0, by omega, h⟩
  · exact nI_of2 (M := 900) (n := 900) (by decide) (fun q => absurd (Int32.lt_of_lt_of_le q (show (0 : Int32) ≤ 100 by decide)) (Int32.not_lt.mpr h.1)) h.2
theorem beside_q (N : Nat) (hN : 5000 ≤ N) {T S : Nat} {a : Nat → Nat → Nat} {W : Nat} {tx : Nat → tx_T} (x y : Int32) : Q3 T S a W tx (f_X9_beside N x y) (f_X10_beside N x y) := by
  intro μ ν hC hR
  have hS5 := hC.1.2.1
  unfold f_X9_beside f_X9_beside_0 f_X10_beside f_X10_beside_0
  simp only [hasSort_c N hC.2.2.1, isSort_r N hR.2.2.1, bd_some, gI]
  by_cases c1 : IT S x
  · rw [if_pos c1, if_pos c1]
    simp only [isShare_c, isHow_r, bd_some, gI]
    by_cases c2 : y = 0 ∨ (100 ≤ y ∧ y ≤ 900)
    · rw [if_pos c2, if_pos c2]
      obtain ⟨s, hs, rfl⟩ := IT_ex (by omega) c1
      obtain ⟨h, hh, rfl⟩ := how_ex c2
      obtain ⟨v, μ', ν', e1, e2, e3, e4, e5⟩ := other_2 N hN hs hh hC hR
      rw [e1, e3, bd_some, bd_some]
      exact ⟨v, μ', ν', rfl, ex_C e2, rfl, e4, e5⟩
    · rw [if_neg c2, if_neg c2]; exact ⟨_, _, _, rfl, fr.rf, rfl, fr.rf, hR⟩
  · rw [if_neg c1, if_neg c1]; exact ⟨_, _, _, rfl, fr.rf, rfl, fr.rf, hR⟩
theorem lo_lp (N : Nat) (hN : 5000 ≤ N) {T S : Nat} {a : Nat → Nat → Nat} {W : Nat} {tx : Nat → tx_T} {B : Nat → Nat} (hB : ∀ s, CB a tx T (a 1) (a 2) s (B s)) {h : Nat} (hh : h ≤ 900) {μ0 ν0 : am_M} : ∀ (n m s : Nat) (x : Int32) (μ ν : am_M), s + n = S → n + 1 ≤ m → Cv μ T S a W tx → Rv ν T S a W tx → fr p_C μ0 μ → fr p_RR ν0 ν → ∃ r μ' ν', f_X0_losers_4_lp N m (nI h) x (nI s) μ = some (r, μ') ∧ f_X10_loses_13_lp N m (nI h) x (nI s) ν = some (r, ν') ∧ fr p_C μ0 μ' ∧ fr p_RR ν0 ν' ∧ Rv ν' T S a W tx
  | n, 0, s, x, μ, ν, h1, h2, hC, hR, hF, hG => by omega
  | 0, m + 1, s, x, μ, ν, h1, h2, hC, hR, hF, hG => by
    have hS5 := hC.1.2.1
    unfold f_X0_losers_4_lp f_X0_losers_4 f_X10_loses_13_lp f_X10_loses_13
    rw [hC.2.2.1, hR.2.2.1, if_pos ((nI_leI (by omega) (by omega)).mpr (by omega)), if_pos ((nI_leI (by omega) (by omega)).mpr (by omega))]
    exact ⟨x, μ, ν, rfl, rfl, hF, hG, hR⟩
  | n + 1, m + 1, s, x, μ, ν, h1, h2, hC, hR, hF, hG => by
    have hS5 := hC.1.2.1
    have hs : s < S := by omega
    obtain ⟨μ1, e1, e2⟩ := plain_c N (by omega) hC hs (hB s)
    have hC1 := hC.of (ex_C e2)
    obtain ⟨ν1, g1, g2, g3⟩ := bestOf_r N hN hR hs (hB s)
    have hR1 := hR.of (fb_R g2)
    obtain ⟨v, μ2, ν2, q1, q2, q3, q4, q5⟩ := other_2 N hN hs hh hC1 hR1
    have hC2 := hC1.of (ex_C q2)
    have hF2 := (hF.tr (ex_C e2)).tr (ex_C q2)
    have hG2 := (hG.tr (R_RR (fb_R g2))).tr q4
    unfold f_X0_losers_4_lp f_X0_losers_4 f_X0_losers_35 f_X10_loses_13_lp f_X10_loses_13 f_X10_loses_53
    rw [hC.2.2.1, hR.2.2.1, if_neg (fun z => by have := (nI_leI (by omega) (by omega)).mp z; omega), if_neg (fun z => by have := (nI_leI (by omega) (by omega)).mp z; omega), e1, bd_some, q1, bd_some, g1, bd_some, g3.1]
    simp only [am_nme]
    rw [q3, bd_some, nI_1]
    by_cases c : v ≤ nI (bw (cwt (wf tx a T (a 1) (a 2) s)) T (B s))
    · rw [if_pos c, if_pos c, Int32.or_zero]
      exact lo_lp N hN hB hh n m (s + 1) x μ2 ν2 (by omega) (by omega) hC2 q5 hF2 hG2
    · rw [if_neg c, if_neg c]
      exact lo_lp N hN hB hh n m (s + 1) _ μ2 ν2 (by omega) (by omega) hC2 q5 hF2 hG2
theorem loses_q (N : Nat) (hN : 5000 ≤ N) {T S : Nat} {a : Nat → Nat → Nat} {W : Nat} {tx : Nat → tx_T} (x : Int32) : Q3 T S a W tx (f_X9_loses N x) (f_X10_loses N x) := by
  intro μ ν hC hR
  have hS5 := hC.1.2.1
  unfold f_X9_loses f_X9_loses_0 f_X10_loses f_X10_loses_0 f_X0_losers f_X0_losers_0
  simp only [isShare_c, isHow_r, bd_some, gI]
  by_cases c2 : x = 0 ∨ (100 ≤ x ∧ x ≤ 900)
  · rw [if_pos c2, if_pos c2]
    obtain ⟨h, hh, rfl⟩ := how_ex c2
    obtain ⟨B, hB⟩ := CB_ex a tx T (a 1) (a 2)
    obtain ⟨r, μ', ν', e1, e2, e3, e4, e5⟩ := lo_lp N hN hB hh S N 0 0 μ ν (by omega) (by omega) hC hR fr.rf fr.rf
    have e1' : f_X0_losers_4_lp N N (nI h) 0 0 μ = _ := e1
    have e2' : f_X10_loses_13_lp N N (nI h) 0 0 ν = _ := e2
    rw [e1', e2', bd_some]
    exact ⟨r, μ', ν', rfl, e3, rfl, e4, e5⟩
  · rw [if_neg c2, if_neg c2]; exact ⟨_, _, _, rfl, fr.rf, rfl, fr.rf, hR⟩
