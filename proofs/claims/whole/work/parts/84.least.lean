/-! least, cheap, wrong -/
theorem ls_lp (N : Nat) (hN : 130 ≤ N) {T S : Nat} {a : Nat → Nat → Nat} {W : Nat} {tx : Nat → tx_T} {B : Nat → Nat} (hB : ∀ s, CB a tx T (a 1) (a 2) s (B s)) {t : Nat} (ht : t < T) {μ0 ν : am_M} (hR : Rv ν T S a W tx) (h94 : ∀ z i, z < S → i < T → ν.1 194 0 (6 * z + i) = nI (ld a B T i z)) :
    ∀ (n m s : Nat) (x : Int32) (μ : am_M), s + n = S → n + 1 ≤ m → Cv μ T S a W tx → TC μ T (a 1) (a 2) → fr p_C μ0 μ → ∃ r μ', f_X2_takersOf_11_lp N m (nI t) x (nI s) μ = some (r, μ') ∧ fr p_C μ0 μ' ∧ f_X10_least_18_lp N m (nI t) x (nI s) ν = some (r, ν)
  | n, 0, s, x, μ, h1, h2, hC, hT, hF => by omega
  | 0, m + 1, s, x, μ, h1, h2, hC, hT, hF => by
    have hS5 := hC.1.2.1
    unfold f_X2_takersOf_11_lp f_X2_takersOf_11 f_X10_least_18_lp f_X10_least_18
    rw [hC.2.2.1, hR.2.2.1, if_pos ((nI_leI (by omega) (by omega)).mpr (by omega)), if_pos ((nI_leI (by omega) (by omega)).mpr (by omega))]
    exact ⟨x, μ, rfl, hF, rfl⟩
  | n + 1, m + 1, s, x, μ, h1, h2, hC, hT, hF => by
    have hT6 := hC.1.1
    have hS5 := hC.1.2.1
    have hb := hC.1.2.2.2.1
    have hs : s < S := by omega
    have h4 := (hC.1.2.2.2.2 s hs).1
    have hl := ld_le hC.1 B t s
    have hd := dg3 T (B s) t
    obtain ⟨μ3, μ4, e4, e5, e6, e7, e8, e9, e10⟩ := wc_c N hN hC (fun t => (hb t).2.1) (fun t => (hb t).2.2.1) hT hs (hB s)
    have hC1 := hC.of (wk_C e6)
    have hT1 := hT.of e6 (fun _ => rfl) (fun _ => rfl)
    unfold f_X2_takersOf_11_lp f_X2_takersOf_11 f_X2_takersOf_62 f_X10_least_18_lp f_X10_least_18 f_X10_least_48
    rw [hC.2.2.1, hR.2.2.1, if_neg (fun z => by have := (nI_leI (by omega) (by omega)).mp z; omega), if_neg (fun z => by have := (nI_leI (by omega) (by omega)).mp z; omega), e4, bd_some, e5, bd_some, e10, digitOf_c N hN hC1.2.1 hT6 ht, bd_some, li_6, pk_mul, nI_add, gd_nI (by omega) (by omega), h94 s t hs ht, nI_1]
    simp only [am_nme]
    by_cases c : dg T (B s) t = 0
    · rw [if_pos (by rw [c]; decide), if_pos (by unfold ld; rw [c, Nat.mul_zero]; decide), Int32.or_zero]
      exact ls_lp N hN hB ht hR h94 n m (s + 1) x μ4 (by omega) (by omega) hC1 hT1 (hF.tr (wk_C e6))
    · have hpos : 0 < ld a B T t s := Nat.mul_pos (by omega) (by omega)
      rw [if_neg (nI_nle (by omega) (by omega)), if_neg (nI_nle hpos (by omega))]
      exact ls_lp N hN hB ht hR h94 n m (s + 1) _ μ4 (by omega) (by omega) hC1 hT1 (hF.tr (wk_C e6))
theorem least_q (N : Nat) (hN : 5000 ≤ N) {T S : Nat} {a : Nat → Nat → Nat} {W : Nat} {tx : Nat → tx_T} (x : Int32) : Q2 T S a W tx (f_X9_least N x) (f_X10_least N x) := by
  intro μ ν hC hR
  have hT6 := hC.1.1
  have hS5 := hC.1.2.1
  unfold f_X9_least f_X9_least_0 f_X10_least f_X10_least_0 f_X2_takersOf f_X2_takersOf_0
  simp only [hasThing_c N hC.2.1, isThing_r N hR.2.1, bd_some, gI]
  by_cases c : IT T x
  · rw [if_pos c, if_pos c]
    obtain ⟨t, ht, rfl⟩ := IT_ex (by omega) c
    obtain ⟨B, hB⟩ := CB_ex a tx T (a 1) (a 2)
    obtain ⟨μ1, e1, e2, e3⟩ := recall_C N (by omega) hC
    obtain ⟨ν1, g1, g2, g3, g4⟩ := findWanted_r N hN hR hB
    obtain ⟨r, μ', q1, q2, q3⟩ := ls_lp N (by omega) hB ht (hR.of (fw_R g2)) g4 S N 0 0 μ1 (by omega) (by omega) (hC.of (rc_C e2)) e3 (rc_C e2)
    have q1' : f_X2_takersOf_11_lp N N (nI t) 0 0 μ1 = _ := q1
    have q3' : f_X10_least_18_lp N N (nI t) 0 0 ν1 = _ := q3
    rw [e1, bd_some, q1', bd_some, g1, bd_some, q3']
    exact ⟨r, μ', ν1, rfl, q2, rfl, fw_R g2⟩
  · rw [if_neg c, if_neg c]; exact ⟨_, _, _, rfl, fr.rf, rfl, fr.rf⟩
theorem ch_lp (N : Nat) {T S : Nat} {a : Nat → Nat → Nat} {W : Nat} {tx : Nat → tx_T} {x : Int32} {μ ν : am_M} (hC : Cv μ T S a W tx) (hR : Rv ν T S a W tx) : ∀ (n m t : Nat) (cur : Option Nat), t + n = T → n + 1 ≤ m → (∀ b, cur = some b → b < T) → ∃ r, f_X2_cheapest_5_lp N m x (cF cur) (nI t) μ = some (r, μ) ∧ f_X10_cheap_15_lp N m x (cF cur) (nI t) ν = some (r, ν)
  | n, 0, t, cur, h1, h2, h3 => by omega
  | 0, m + 1, t, cur, h1, h2, h3 => by
    have hT6 := hC.1.1
    unfold f_X2_cheapest_5_lp f_X2_cheapest_5 f_X10_cheap_15_lp f_X10_cheap_15
    rw [hC.2.1, hR.2.1, if_pos ((nI_leI (by omega) (by omega)).mpr (by omega)), if_pos ((nI_leI (by omega) (by omega)).mpr (by omega))]
    exact ⟨_, rfl, rfl⟩
  | n + 1, m + 1, t, cur, h1, h2, h3 => by
    have hT6 := hC.1.1
    have ht : t < T := by omega
    have q := hR.2.2.2.2.1 t ht
    unfold f_X2_cheapest_5_lp f_X2_cheapest_5 f_X2_cheapest_44 f_X2_cheapest_78 f_X2_cheapest_80 f_X10_cheap_15_lp f_X10_cheap_15 f_X10_cheap_68 f_X10_cheap_70
    rw [hC.2.1, hR.2.1, if_neg (fun z => by have := (nI_leI (by omega) (by omega)).mp z; omega), if_neg (fun z => by have := (nI_leI (by omega) (by omega)).mp z; omega), li_3, at_cls N (by omega) (by omega), bd_some, li_1, at_cls N (by omega) (by omega), bd_some, gd_nI (by omega) (by omega), gdp_6 (by omega) (by omega), q.2.1, q.2.2.2, hC.2.2.2.2.1 3 t (by omega) ht, hC.2.2.2.2.1 1 t (by omega) ht, nI_add]
    by_cases c1 : nI (a 1 t) - x < nI (a 3 t)
    · rw [if_pos c1, if_pos c1, if_pos rfl]
      exact ch_lp N hC hR n m (t + 1) cur (by omega) (by omega) h3
    · rw [if_neg c1, if_neg c1, if_neg (show ¬ nI 1 = 0 by decide)]
      cases cur with
      | none =>
        rw [if_pos (show cF none = -2 from rfl), if_pos (show cF none < 0 by decide)]
        exact ch_lp N hC hR n m (t + 1) (some t) (by omega) (by omega) (fun b hb => by cases hb; exact ht)
      | some b =>
        have hb := h3 b rfl
        have hn : ¬ cF (some b) < 0 := nI_pos (by omega)
        have hn2 : ¬ cF (some b) = -2 := fun z => hn (by rw [z]; decide)
        have ec : cF (some b) = nI b := rfl
        rw [if_neg hn2, if_neg hn, ec, li_2, at_cls N (by omega) (by omega), bd_some, at_cls N (by omega) (by omega), bd_some, gdp_12 (by omega) (by omega), gdp_12 (by omega) (by omega), q.2.2.1, (hR.2.2.2.2.1 b hb).2.2.1, hC.2.2.2.2.1 2 t (by omega) ht, hC.2.2.2.2.1 2 b (by omega) hb]
        by_cases c2 : nI (a 2 b) ≤ nI (a 2 t)
        · rw [if_pos c2, if_pos c2]
          exact ch_lp N hC hR n m (t + 1) (some b) (by omega) (by omega) h3
        · rw [if_neg c2, if_neg c2]
          exact ch_lp N hC hR n m (t + 1) (some t) (by omega) (by omega) (fun b hb => by cases hb; exact ht)
theorem cheap_q (N : Nat) (hN : 5000 ≤ N) {T S : Nat} {a : Nat → Nat → Nat} {W : Nat} {tx : Nat → tx_T} (x : Int32) : Q2 T S a W tx (f_X9_cheap N x) (f_X10_cheap N x) := by
  intro μ ν hC hR
  have hT6 := hC.1.1
  unfold f_X9_cheap f_X9_cheap_0 f_X10_cheap f_X10_cheap_0 f_X2_cheapest f_X2_cheapest_0
  simp only [w_cls, two_ref, bd_some, gI]
  by_cases c : 0 ≤ x ∧ x ≤ 99
  · rw [if_pos c, if_pos c]
    obtain ⟨r, e1, e2⟩ := ch_lp N (x := x) hC hR T N 0 none (by omega) (by omega) (fun b hb => by cases hb)
    have e1' : f_X2_cheapest_5_lp N N x (-2) 0 μ = _ := e1
    have e2' : f_X10_cheap_15_lp N N x (-2) 0 ν = _ := e2
    rw [e1', e2', bd_some]
    exact ⟨_, _, _, rfl, fr.rf, rfl, fr.rf⟩
  · rw [if_neg c, if_neg c]; exact ⟨_, _, _, rfl, fr.rf, rfl, fr.rf⟩
/-! wrong -/
def ak (a : Nat → Nat → Nat) (B : Nat → Nat) (T S t : Nat) : Nat := (a 0 t - wn a B T S t) + (wn a B T S t - a 0 t)
theorem ab_ov {T S : Nat} {a : Nat → Nat → Nat} {W : Nat} (h : BD T S a W) (B : Nat → Nat) (t : Nat) : ab (ov a B T S t) = nI (ak a B T S t) ∧ ak a B T S t ≤ 1485 := by
  have h1 := (h.2.2.2.1 t).1
  have h2 := wn_le h B t
  refine ⟨?_, by unfold ak; omega⟩
  unfold ov ab ak
  by_cases c : wn a B T S t ≤ a 0 t
  · rw [pk_sub c, if_pos (nI_pos' (by omega))]
    congr 1; omega
  · have hneg : nI (a 0 t) - nI (wn a B T S t) < 0 := pk_sneg (by omega) (by omega)
    rw [if_neg (Int32.not_le.mpr hneg), Int32.neg_sub, pk_sub (by omega)]
    congr 1; omega
def ofv (a : Nat → Nat → Nat) (B : Nat → Nat) (T S t : Nat) : Nat := ak a B T S t * 1000 / a 0 t
theorem ofv_le {T S : Nat} {a : Nat → Nat → Nat} {W : Nat} (h : BD T S a W) (B : Nat → Nat) (t : Nat) : ofv a B T S t ≤ 1485000 := by
  have h2 := (ab_ov (T := T) (S := S) h B t).2
  have := Nat.div_le_self (ak a B T S t * 1000) (a 0 t)
  unfold ofv; omega
theorem offOf_c (N : Nat) {T S : Nat} {a : Nat → Nat → Nat} {W : Nat} {tx : Nat → tx_T} {B : Nat → Nat} {μ : am_M} (hC : Cv μ T S a W tx) (h : ∀ i, i < T → μ.1 98 0 i = nI (wn a B T S i)) {t : Nat} (ht : t < T) (h0 : a 0 t ≠ 0) : f_X2_offOf N (nI t) μ = some (nI (ofv a B T S t), μ) := by
  have hT6 := hC.1.1
  have hb := (hC.1.2.2.2.1 t).1
  obtain ⟨g1, g2⟩ := ab_ov hC.1 B t
  have e := at_cls N (c := 0) (t := t) (by omega) (by omega) μ
  rw [← li_0] at e
  have hne : ¬ nI (a 0 t) = 0 := nI_ne0 (by omega) (by omega)
  unfold f_X2_offOf f_X2_offOf_0
  rw [e, bd_some, hC.2.2.2.2.1 0 t (by omega) ht, if_neg hne, overOf_c N hC h ht, bd_some]
  simp only [am_nme, zsub]
  unfold ab at g1
  rw [g1]
  unfold am_dv
  rw [if_neg hne, li_1000, pk_mul, pk_div (by omega) (by omega) (by omega)]
  rfl
theorem fwc_lp (N : Nat) {T S : Nat} {a : Nat → Nat → Nat} {W : Nat} {tx : Nat → tx_T} {B : Nat → Nat} {x : Int32} {μ ν : am_M} (hC : Cv μ T S a W tx) (h98 : ∀ i, i < T → μ.1 98 0 i = nI (wn a B T S i)) (hR : Rv ν T S a W tx) (h193 : ∀ i, i < T → ν.1 193 0 i = nI (wn a B T S i)) : ∀ (n m t : Nat) (cur : Option Nat) (o : Int32), t + n = T → n + 1 ≤ m → (∀ b, cur = some b → b < T ∧ a 0 b ≠ 0 ∧ o = nI (ofv a B T S b)) → ∃ k cur' o', f_X2_findWorst_16_lp N m (cF cur) (nI t) μ = some (cF cur', μ) ∧ f_X10_wrong_28_lp N m x (cF cur) o (nI t) ν = f_X10_wrong_28 N k x (cF cur') o' (nI T) ν ∧ (∀ b, cur' = some b → b < T ∧ a 0 b ≠ 0 ∧ o' = nI (ofv a B T S b))
  | n, 0, t, cur, o, h1, h2, h3 => by omega
  | 0, m + 1, t, cur, o, h1, h2, h3 => by
    have hT6 := hC.1.1
    unfold f_X2_findWorst_16_lp f_X2_findWorst_16
    rw [hC.2.1, if_pos ((nI_leI (by omega) (by omega)).mpr (by omega))]
    have : t = T := by omega
    subst this
    exact ⟨f_X10_wrong_28_lp N m, cur, o, rfl, rfl, h3⟩
  | n + 1, m + 1, t, cur, o, h1, h2, h3 => by
    have hT6 := hC.1.1
    have ht : t < T := by omega
    have hb := (hC.1.2.2.2.1 t).1
    have q := hR.2.2.2.2.1 t ht
    obtain ⟨g1, g2⟩ := ab_ov hC.1 B t
    have hol := ofv_le (T := T) (S := S) hC.1 B
    have e := at_cls N (c := 0) (t := t) (by omega) (by omega) μ
    rw [← li_0] at e
    have es : f_X10_size N (ov a B T S t) ν = some (ab (ov a B T S t), ν) := by
      unfold f_X10_size f_X10_size_0 ab
      by_cases q : 0 ≤ ov a B T S t
      · rw [if_pos q, if_pos q]
      · rw [if_neg q, if_neg q]
    have step : f_X10_wrong_28_lp N (m + 1) x (cF cur) o (nI t) ν = if a 0 t = 0 then f_X10_wrong_28_lp N m x (cF cur) o (nI (t + 1)) ν else f_X10_wrong_72 N (f_X10_wrong_28_lp N m) x (cF cur) o (nI t) (nI (ofv a B T S t)) ν := by
      show f_X10_wrong_28 N (f_X10_wrong_28_lp N m) x (cF cur) o (nI t) ν = _
      unfold f_X10_wrong_28
      rw [hR.2.1, if_neg (fun z => by have := (nI_leI (by omega) (by omega)).mp z; omega), gd_nI (by omega) (by omega), q.1]
      by_cases c : a 0 t = 0
      · rw [if_pos c, if_pos (by rw [c]; decide)]
        unfold f_X10_wrong_72 f_X10_wrong_95
        rw [if_pos (show (-1 : Int32) < 0 by decide), nI_1]
      · have hne : ¬ nI (a 0 t) = 0 := nI_ne0 (by omega) (by omega)
        rw [if_neg c, if_neg hne, over_r N hR h193 ht, bd_some, es, bd_some, gd_nI (by omega) (by omega), q.1]
        unfold am_dv
        rw [if_neg hne, g1, li_1000, pk_mul, pk_div (by omega) (by omega) (by omega)]
        rfl
    rw [step]
    unfold f_X2_findWorst_16_lp f_X2_findWorst_16 f_X2_findWorst_58 f_X2_findWorst_60
    rw [hC.2.1, if_neg (fun z => by have := (nI_leI (by omega) (by omega)).mp z; omega), e, bd_some, hC.2.2.2.2.1 0 t (by omega) ht, nI_1]
    by_cases c : a 0 t = 0
    · rw [if_pos c, if_pos (by rw [c]; decide)]
      exact fwc_lp N hC h98 hR h193 n m (t + 1) cur o (by omega) (by omega) h3
    · rw [if_neg c, if_neg (nI_nle (by omega) (by omega))]
      unfold f_X10_wrong_72 f_X10_wrong_89 f_X10_wrong_95
      rw [if_neg (nI_pos (n := ofv a B T S t) (by have := hol t; omega)), nI_1]
      cases cur with
      | none =>
        rw [if_pos (show cF none = -2 from rfl), if_pos (show cF none < 0 by decide)]
        exact fwc_lp N hC h98 hR h193 n m (t + 1) (some t) _ (by omega) (by omega) (fun b hb => by cases hb; exact ⟨ht, c, rfl⟩)
      | some b =>
        obtain ⟨k1, k2, k3⟩ := h3 b rfl
        have hn : ¬ cF (some b) < 0 := nI_pos (by omega)
        have hn2 : ¬ cF (some b) = -2 := fun z => hn (by rw [z]; decide)
        have ec : cF (some b) = nI b := rfl
        rw [if_neg hn2, if_neg hn, offOf_c N hC h98 ht c, bd_some, ec, offOf_c N hC h98 k1 k2, bd_some, k3]
        by_cases c2 : nI (ofv a B T S t) ≤ nI (ofv a B T S b)
        · rw [if_pos c2, if_pos c2]
          exact fwc_lp N hC h98 hR h193 n m (t + 1) (some b) _ (by omega) (by omega) (fun b' hb => by cases hb; exact ⟨k1, k2, rfl⟩)
        · rw [if_neg c2, if_neg c2]
          exact fwc_lp N hC h98 hR h193 n m (t + 1) (some t) _ (by omega) (by omega) (fun b' hb => by cases hb; exact ⟨ht, c, rfl⟩)
theorem wrong_q (N : Nat) (hN : 5000 ≤ N) {T S : Nat} {a : Nat → Nat → Nat} {W : Nat} {tx : Nat → tx_T} (x : Int32) : Q2 T S a W tx (f_X9_wrong N x) (f_X10_wrong N x) := by
  intro μ ν hC hR
  have hT6 := hC.1.1
  have hb := hC.1.2.2.2.1
  unfold f_X9_wrong f_X9_wrong_0 f_X10_wrong f_X10_wrong_0 f_X2_findWorst f_X2_findWorst_0
  simp only [w_cls, w_ref N x 0 2 0 2 (by decide) (by decide), bd_some, gI]
  by_cases c : 0 ≤ x ∧ x ≤ 2
  · rw [if_pos c, if_pos c]
    obtain ⟨B, hB⟩ := CB_ex a tx T (a 1) (a 2)
    obtain ⟨μ1, e1, e2, e3⟩ := recall_C N (by omega) hC
    obtain ⟨μ2, e4, e5, e6⟩ := wantAll_c N (by omega) (hC.of (rc_C e2)) e3 (fun t => (hb t).2.1) (fun t => (hb t).2.2.1) hB
    have hF := (rc_C e2).tr (wt_C e5)
    have hC2 := hC.of hF
    obtain ⟨ν1, g1, g2, g3, g4⟩ := findWanted_r N hN hR hB
    have hR1 := hR.of (fw_R g2)
    obtain ⟨k, cur, o, q1, q2, q3⟩ := fwc_lp N (x := x) hC2 e6 hR1 g3 T N 0 none 0 (by omega) (by omega) (fun b hb => by cases hb)
    have q1' : f_X2_findWorst_16_lp N N (-2) 0 μ2 = _ := q1
    have q2' : f_X10_wrong_28_lp N N x (-2) 0 0 ν1 = _ := q2
    rw [e1, bd_some, e4, bd_some, q1', bd_some, g1, bd_some, q2']
    unfold f_X10_wrong_28
    rw [hR1.2.1, if_pos ((nI_leI (by omega) (by omega)).mpr (Nat.le_refl _))]
    cases cur with
    | none =>
      rw [if_neg (show ¬ 0 ≤ cF none by decide), if_pos (show cF none = -2 from rfl)]
      by_cases d : x = 0
      · rw [if_pos d]; exact ⟨_, _, _, rfl, hF, rfl, fw_R g2⟩
      · rw [if_neg d]; exact ⟨_, _, _, rfl, hF, rfl, fw_R g2⟩
    | some b =>
      obtain ⟨k1, k2, k3⟩ := q3 b rfl
      have hn : ¬ cF (some b) < 0 := nI_pos (by omega)
      have hn2 : ¬ cF (some b) = -2 := fun z => hn (by rw [z]; decide)
      have ec : cF (some b) = nI b := rfl
      rw [if_pos (Int32.not_lt.mp hn), if_neg hn2]
      by_cases d : x = 0
      · rw [if_pos d, if_pos d]; exact ⟨_, _, _, rfl, hF, rfl, fw_R g2⟩
      · rw [if_neg d, if_neg d, ec, offOf_c N hC2 e6 k1 k2, bd_some, overOf_c N hC2 e6 k1, bd_some, over_r N hR1 g3 k1, bd_some, over_r N hR1 g3 k1, bd_some]
        by_cases d1 : x = 1
        · rw [if_pos d1, if_pos d1, k3]; exact ⟨_, _, _, rfl, hF, rfl, fw_R g2⟩
        · rw [if_neg d1, if_neg d1]
          unfold f_J_compare f_J_compare_0
          by_cases d2 : 0 ≤ ov a B T S b
          · rw [if_pos d2]
            by_cases d3 : ov a B T S b ≤ 0
            · have d4 : (0 : Int32) = ov a B T S b := Int32.le_antisymm d2 d3
              rw [if_pos d3, if_pos d3, if_pos d4, bd_some]; exact ⟨_, _, _, rfl, hF, rfl, fw_R g2⟩
            · rw [if_neg d3, if_neg d3, bd_some]; exact ⟨_, _, _, rfl, hF, rfl, fw_R g2⟩
          · have d3 : ov a B T S b ≤ 0 := Int32.le_of_lt (Int32.not_le.mp d2)
            have d4 : ¬ (0 : Int32) = ov a B T S b := fun z => d2 (by rw [← z]; decide)
            rw [if_neg d2, if_pos d3, if_neg d4, bd_some]; exact ⟨_, _, _, rfl, hF, rfl, fw_R g2⟩
  · rw [if_neg c, if_neg c]; exact ⟨_, _, _, rfl, fr.rf, rfl, fr.rf⟩
