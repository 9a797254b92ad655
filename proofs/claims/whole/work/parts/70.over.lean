/-! over, both, wanted, led -/
def ov (a : Nat → Nat → Nat) (B : Nat → Nat) (T S t : Nat) : Int32 := nI (a 0 t) - nI (wn a B T S t)
def ab (y : Int32) : Int32 := if 0 ≤ y then y else -y
def sI (f : Nat → Int32) : Nat → Int32
  | 0 => nI 0
  | n + 1 => sI f n + ab (f n)
theorem zsub (y : Int32) : (0 : Int32) - y = -y := by simp
theorem wantedOf_c (N : Nat) {μ : am_M} {t : Nat} (ht : t < 6) : f_X2_wantedOf N (nI t) μ = some (μ.1 98 0 t, μ) := by
  unfold f_X2_wantedOf f_X2_wantedOf_0
  rw [w_cls, bd_some, gI, if_pos (by rw [li_0, li_5]; exact ⟨nI_pos' (by omega), (nI_leI (by omega) (by omega)).mpr (by omega)⟩), gd_nI (by omega) (by omega)]
theorem overOf_c (N : Nat) {μ : am_M} {T S : Nat} {a : Nat → Nat → Nat} {W : Nat} {tx : Nat → tx_T} {B : Nat → Nat} (hC : Cv μ T S a W tx) (h : ∀ i, i < T → μ.1 98 0 i = nI (wn a B T S i)) {t : Nat} (ht : t < T) : f_X2_overOf N (nI t) μ = some (ov a B T S t, μ) := by
  have hT6 := hC.1.1
  have e := at_cls N (c := 0) (t := t) (by omega) (by omega) μ
  rw [← li_0] at e
  unfold f_X2_overOf f_X2_overOf_0
  rw [e, bd_some, wantedOf_c N (by omega), bd_some, h t ht, hC.2.2.2.2.1 0 t (by omega) ht]
  rfl
theorem both_lp (N : Nat) {μ : am_M} {T S : Nat} {a : Nat → Nat → Nat} {W : Nat} {tx : Nat → tx_T} {B : Nat → Nat} (hC : Cv μ T S a W tx) (h : ∀ i, i < T → μ.1 98 0 i = nI (wn a B T S i)) : ∀ (n m t : Nat), t + n = T → n + 1 ≤ m → f_X2_bothTogether_4_lp N m (sI (ov a B T S) t) (nI t) μ = some (sI (ov a B T S) T, μ)
  | n, 0, t, h1, h2 => by omega
  | 0, m + 1, t, h1, h2 => by
    have hT6 := hC.1.1
    unfold f_X2_bothTogether_4_lp f_X2_bothTogether_4
    rw [hC.2.1, if_pos ((nI_leI (by omega) (by omega)).mpr (by omega))]
    have : t = T := by omega
    subst this; rfl
  | n + 1, m + 1, t, h1, h2 => by
    have hT6 := hC.1.1
    unfold f_X2_bothTogether_4_lp f_X2_bothTogether_4
    rw [hC.2.1, if_neg (fun z => by have := (nI_leI (by omega) (by omega)).mp z; omega), overOf_c N hC h (by omega), bd_some, nI_1]
    simp only [am_nme, zsub]
    exact both_lp N hC h n m (t + 1) (by omega) (by omega)
theorem both_c (N : Nat) (hN : 130 ≤ N) {μ : am_M} {T S : Nat} {a : Nat → Nat → Nat} {W : Nat} {tx : Nat → tx_T} {B : Nat → Nat} (hC : Cv μ T S a W tx) (h : ∀ i, i < T → μ.1 98 0 i = nI (wn a B T S i)) : f_X2_bothTogether N μ = some (sI (ov a B T S) T, μ) := by
  have hT6 := hC.1.1
  unfold f_X2_bothTogether f_X2_bothTogether_0
  exact both_lp N hC h T N 0 (by omega) (by omega)
theorem over_r (N : Nat) {μ : am_M} {T S : Nat} {a : Nat → Nat → Nat} {W : Nat} {tx : Nat → tx_T} {B : Nat → Nat} (hC : Rv μ T S a W tx) (h : ∀ i, i < T → μ.1 193 0 i = nI (wn a B T S i)) {t : Nat} (ht : t < T) : f_X10_over N (nI t) μ = some (ov a B T S t, μ) := by
  have hT6 := hC.1.1
  unfold f_X10_over f_X10_over_0
  rw [gd_nI (by omega) (by omega), gd_nI (by omega) (by omega), h t ht, (hC.2.2.2.2.1 t ht).1]
  rfl
theorem bothr_lp (N : Nat) {μ : am_M} {T S : Nat} {a : Nat → Nat → Nat} {W : Nat} {tx : Nat → tx_T} {B : Nat → Nat} (hC : Rv μ T S a W tx) (h : ∀ i, i < T → μ.1 193 0 i = nI (wn a B T S i)) : ∀ (n m t : Nat), t + n = T → n + 1 ≤ m → f_X10_bothOver_4_lp N m (sI (ov a B T S) t) (nI t) μ = some (sI (ov a B T S) T, μ)
  | n, 0, t, h1, h2 => by omega
  | 0, m + 1, t, h1, h2 => by
    have hT6 := hC.1.1
    unfold f_X10_bothOver_4_lp f_X10_bothOver_4
    rw [hC.2.1, if_pos ((nI_leI (by omega) (by omega)).mpr (by omega))]
    have : t = T := by omega
    subst this; rfl
  | n + 1, m + 1, t, h1, h2 => by
    have hT6 := hC.1.1
    unfold f_X10_bothOver_4_lp f_X10_bothOver_4
    have e : f_X10_size N (ov a B T S t) μ = some (ab (ov a B T S t), μ) := by
      unfold f_X10_size f_X10_size_0 ab
      by_cases q : 0 ≤ ov a B T S t
      · rw [if_pos q, if_pos q]
      · rw [if_neg q, if_neg q]
    rw [hC.2.1, if_neg (fun z => by have := (nI_leI (by omega) (by omega)).mp z; omega), over_r N hC h (by omega), bd_some, nI_1, e, bd_some]
    simp only [am_nme]
    exact bothr_lp N hC h n m (t + 1) (by omega) (by omega)
theorem both_r (N : Nat) (hN : 130 ≤ N) {μ : am_M} {T S : Nat} {a : Nat → Nat → Nat} {W : Nat} {tx : Nat → tx_T} {B : Nat → Nat} (hC : Rv μ T S a W tx) (h : ∀ i, i < T → μ.1 193 0 i = nI (wn a B T S i)) : f_X10_bothOver N μ = some (sI (ov a B T S) T, μ) := by
  have hT6 := hC.1.1
  unfold f_X10_bothOver f_X10_bothOver_0
  exact bothr_lp N hC h T N 0 (by omega) (by omega)
theorem wanted_in (N : Nat) (hN : 5000 ≤ N) {T S : Nat} {a : Nat → Nat → Nat} {W : Nat} {tx : Nat → tx_T} (x y z : Int32) (hz : z = 0 → IT T x) : Q2 T S a W tx (f_X9_wanted_43 N x y z) (f_X10_wanted_42 N x y z) := by
  intro μ μ2 hC hR
  have hT6 := hC.1.1
  have hb := hC.1.2.2.2.1
  obtain ⟨B, hB⟩ := CB_ex a tx T (a 1) (a 2)
  unfold f_X9_wanted_43 f_X10_wanted_42
  obtain ⟨μ1, e1, e2, e3⟩ := recall_C N (by omega) hC
  obtain ⟨μ3, e4, e5, e6⟩ := wantAll_c N (by omega) (hC.of (rc_C e2)) e3 (fun t => (hb t).2.1) (fun t => (hb t).2.2.1) hB
  obtain ⟨μ4, g1, g2, g3, -⟩ := findWanted_r N hN hR hB
  have hF := (rc_C e2).tr (wt_C e5)
  have hG := fw_R g2
  have hC' := hC.of hF
  have hR' := hR.of hG
  rw [e1, bd_some, e4, bd_some, g1, bd_some]
  by_cases d : z = 0
  · rw [if_pos d, if_pos d]
    obtain ⟨t, ht, rfl⟩ := IT_ex (by omega) (hz d)
    by_cases d1 : y = 0
    · rw [if_pos d1, if_pos d1, wantedOf_c N (by omega), bd_some, gd_nI (by omega) (by omega), e6 t ht, g3 t ht]
      exact ⟨_, _, _, rfl, hF, rfl, hG⟩
    · rw [if_neg d1, if_neg d1, overOf_c N hC' e6 ht, over_r N hR' g3 ht, bd_some, bd_some]
      exact ⟨_, _, _, rfl, hF, rfl, hG⟩
  · rw [if_neg d, if_neg d, both_c N (by omega) hC' e6, both_r N (by omega) hR' g3, bd_some, bd_some]
    exact ⟨_, _, _, rfl, hF, rfl, hG⟩
theorem wanted_14 (N : Nat) (hN : 5000 ≤ N) {T S : Nat} {a : Nat → Nat → Nat} {W : Nat} {tx : Nat → tx_T} (x y : Int32) : Q2 T S a W tx (f_X9_wanted_14 N x y) (f_X10_wanted_14 N x y) := by
  intro μ μ2 hC hR
  unfold f_X9_wanted_14 f_X9_wanted_15 f_X10_wanted_14 f_X10_wanted_15
  rw [if_pos (show (0 : Int32) = 0 from rfl), if_pos (show (0 : Int32) = 0 from rfl)]
  simp only [hasThing_c N hC.2.1, isThing_r N hR.2.1, bd_some, gI]
  by_cases c : IT T x
  · rw [if_pos c, if_pos c]
    simp only [w_cls, w_ref N y 0 1 0 1 (by decide) (by decide), bd_some, gI]
    by_cases c4 : 0 ≤ y ∧ y ≤ 1
    · rw [if_pos c4, if_pos c4]
      exact wanted_in N hN x y 0 (fun _ => c) μ μ2 hC hR
    · rw [if_neg c4, if_neg c4]; exact ⟨_, _, _, rfl, fr.rf, rfl, fr.rf⟩
  · rw [if_neg c, if_neg c]; exact ⟨_, _, _, rfl, fr.rf, rfl, fr.rf⟩
theorem wanted_q (N : Nat) (hN : 5000 ≤ N) {T S : Nat} {a : Nat → Nat → Nat} {W : Nat} {tx : Nat → tx_T} (x y : Int32) : Q2 T S a W tx (f_X9_wanted N x y) (f_X10_wanted N x y) := by
  intro μ μ2 hC hR
  unfold f_X9_wanted f_X9_wanted_0 f_X10_wanted f_X10_wanted_0
  by_cases c : x = -1
  · rw [if_pos c, if_pos c]
    by_cases d : y = 1
    · rw [if_pos d, if_pos d]
      unfold f_X9_wanted_15 f_X10_wanted_15
      rw [if_neg (show ¬ (1 : Int32) = 0 by decide), if_neg (show ¬ (1 : Int32) = 0 by decide)]
      exact wanted_in N hN x y 1 (fun q => absurd q (by decide)) μ μ2 hC hR
    · rw [if_neg d, if_neg d]; exact wanted_14 N hN x y μ μ2 hC hR
  · rw [if_neg c, if_neg c]; exact wanted_14 N hN x y μ μ2 hC hR
theorem led_q (N : Nat) (hN : 5000 ≤ N) {T S : Nat} {a : Nat → Nat → Nat} {W : Nat} {tx : Nat → tx_T} (x y : Int32) : Q2 T S a W tx (f_X9_led N x y) (f_X10_led N x y) := by
  intro μ μ2 hC hR
  have hT6 := hC.1.1
  have hS5 := hC.1.2.1
  have hb := hC.1.2.2.2.1
  unfold f_X9_led f_X9_led_0 f_X10_led f_X10_led_0
  simp only [hasThing_c N hC.2.1, isThing_r N hR.2.1, bd_some, gI]
  by_cases c : IT T x
  · rw [if_pos c, if_pos c]
    simp only [hasSort_c N hC.2.2.1, isSort_r N hR.2.2.1, bd_some, gI]
    by_cases d : IT S y
    · rw [if_pos d, if_pos d]
      obtain ⟨t, ht, rfl⟩ := IT_ex (by omega) c
      obtain ⟨s, hs, rfl⟩ := IT_ex (by omega) d
      obtain ⟨B, hB⟩ := CB_ex a tx T (a 1) (a 2)
      obtain ⟨μ1, e1, e2, e3⟩ := recall_C N (by omega) hC
      obtain ⟨μ3, μ4, e4, e5, e6, e7, e8, e9, e10⟩ := wc_c N (by omega) (hC.of (rc_C e2)) (fun t => (hb t).2.1) (fun t => (hb t).2.2.1) e3 hs (hB s)
      obtain ⟨μ5, g1, g2, g3, g4⟩ := findWanted_r N hN hR hB
      have hF := (rc_C e2).tr (wk_C e6)
      have hC' := hC.of hF
      rw [e1, bd_some, e4, bd_some, e5, bd_some, g1, bd_some, li_4, at_cls N (by omega) (by omega), bd_some, e10, digitOf_c N (by omega) hC'.2.1 hT6 ht, bd_some, hC'.2.2.2.2.2.1 4 s (by omega) (by omega) hs, pk_mul, li_6, pk_mul, nI_add, gd_nI (by omega) (by omega), g4 s t hs ht]
      exact ⟨_, _, _, rfl, hF, rfl, fw_R g2⟩
    · rw [if_neg d, if_neg d]; exact ⟨_, _, _, rfl, fr.rf, rfl, fr.rf⟩
  · rw [if_neg c, if_neg c]; exact ⟨_, _, _, rfl, fr.rf, rfl, fr.rf⟩
