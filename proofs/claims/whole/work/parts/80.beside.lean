/-! beside, loses -/
theorem Rv.w {μ : am_M} {T S : Nat} {a : Nat → Nat → Nat} {W : Nat} {tx : Nat → tx_T} (h : Rv μ T S a W tx) : Rw μ T S a W tx := ⟨h.1, h.2.1, h.2.2.1, h.2.2.2.1, h.2.2.2.2.1, h.2.2.2.2.2.1, h.2.2.2.2.2.2.1, trivial⟩
theorem Rw.v {μ : am_M} {T S : Nat} {a : Nat → Nat → Nat} {W : Nat} {tx : Nat → tx_T} (h : Rw μ T S a W tx) (h9 : μ.1 10 0 29 = nI 100) : Rv μ T S a W tx := ⟨h.1, h.2.1, h.2.2.1, h.2.2.2.1, h.2.2.2.2.1, h.2.2.2.2.2.1, h.2.2.2.2.2.2.1, h9⟩
theorem Rw.u29 {μ : am_M} {T S : Nat} {a : Nat → Nat → Nat} {W : Nat} {tx : Nat → tx_T} (h : Rw μ T S a W tx) (v : Int32) : Rw (am_ui μ 10 0 29 v) T S a W tx := by
  obtain ⟨h1, h2, h3, h4, h5, h6, h7, h8⟩ := h
  have e : ∀ k r i, ¬ (k = 10 ∧ r = 0 ∧ i = 29) → (am_ui μ 10 0 29 v).1 k r i = μ.1 k r i := fun k r i q => by rw [ui1, if_neg q]
  exact ⟨h1, (e _ _ _ (by omega)).trans h2, (e _ _ _ (by omega)).trans h3, (e _ _ _ (by omega)).trans h4, fun i hi => ⟨(e _ _ _ (by omega)).trans (h5 i hi).1, (e _ _ _ (by omega)).trans (h5 i hi).2.1, (e _ _ _ (by omega)).trans (h5 i hi).2.2.1, (e _ _ _ (by omega)).trans (h5 i hi).2.2.2⟩, fun s hs => ⟨(e _ _ _ (by omega)).trans (h6 s hs).1, (e _ _ _ (by omega)).trans (h6 s hs).2.1, (e _ _ _ (by omega)).trans (h6 s hs).2.2.1, (e _ _ _ (by omega)).trans (h6 s hs).2.2.2.1, (e _ _ _ (by omega)).trans (h6 s hs).2.2.2.2⟩, fun w hw => ⟨(h7 w hw).1, (e _ _ _ (by omega)).trans (h7 w hw).2.1, fun j hj => (e _ _ _ (by omega)).trans ((h7 w hw).2.2 j hj)⟩, trivial⟩
def p_29 (k i : Nat) : Bool := k == 10 && i == 29
theorem k29_RR {μ μ' : am_M} (h : fr p_29 μ μ') : fr p_RR μ μ' := h.mono' (fun k i q => by simp only [p_RR, p_29, Bool.or_eq_true] at q ⊢; exact Or.inr q)
theorem purseOf_rw (N : Nat) {μ : am_M} {T S : Nat} {a : Nat → Nat → Nat} {W : Nat} {tx : Nat → tx_T} (hC : Rw μ T S a W tx) {s : Nat} (hs : s < S) : f_X10_purseOf N (nI s) μ = some (nI (a 5 s), μ) := by
  have := hC.1.2.1
  unfold f_X10_purseOf f_X10_purseOf_0
  rw [gdp_18 (by omega) (by omega), (hC.2.2.2.2.2.1 s hs).2.1]
theorem findBest_w (N : Nat) (hN : 5000 ≤ N) {μ : am_M} {T S : Nat} {a : Nat → Nat → Nat} {W : Nat} {tx : Nat → tx_T} (hC : Rw μ T S a W tx) {s : Nat} (hs : s < S) {dr : Nat} (h29 : μ.1 10 0 29 = nI dr) (hdr : dr ≤ 900) {pu bo : Nat} (hpu : pu < 2147483648) (hbo : bo < 2147483648) :
    ∃ μ' b, f_X10_findBest N (nI s) (nI pu) (nI bo) μ = some (nI b, μ') ∧ fr p_fb μ μ' ∧ μ'.1 10 0 30 = nI (bw (cwt (wf tx a T (a 1) (a 2) s)) T b) ∧ NB (cwt (wf tx a T (a 1) (a 2) s)) (fun t => a 1 t * dr / 100) (a 2) T pu bo b := by
  have hT6 := hC.1.1
  have hbd := hC.1.2.2.2.1
  have h4T : 4 ^ T ≤ 4 ^ 6 := Nat.pow_le_pow_right (by decide) hT6
  have h46 : (4 : Nat) ^ 6 = 4096 := by decide
  unfold f_X10_findBest f_X10_findBest_0
  obtain ⟨μ1, e1, e2, e3⟩ := lay_rw N (by omega) hC hs
  have hC1 := hC.of (la_R e2)
  have hcb : ∀ t, a 1 t * dr / 100 ≤ 10000 := fun t => by
    have : a 1 t * dr ≤ 99 * 900 := Nat.mul_le_mul (hbd t).2.1 hdr
    omega
  have hR : RC μ1 T (cwt (wf tx a T (a 1) (a 2) s)) (fun t => a 1 t * dr / 100) (a 2) := ⟨hC1.2.1, e3, a 1, dr, (e2.1 10 0 29 rfl).trans h29, hdr, fun t ht => ⟨(hbd t).2.1, (hC1.2.2.2.2.1 t ht).2.1, rfl, (hC1.2.2.2.2.1 t ht).2.2.1⟩⟩
  have hwb : ∀ t m, m ≤ 3 → cwt (wf tx a T (a 1) (a 2) s) t m ≤ 2997 := fun t m hm => Nat.le_trans (cwt_le (wf_le tx a T (a 1) (a 2) s) t m) (by omega)
  rw [e1, bd_some, li_0]
  obtain ⟨μ2, b, g1, g2, g3, g4, g5⟩ := fb_lp N (by omega) hT6 hwb hcb (fun t => (hbd t).2.2.1) hpu hbo (4 ^ T) N 0 none μ1 (by omega) (by omega) hR fr.rf trivial (fun z hz => by omega)
  have g1' : f_X10_findBest_11_lp N N (nI pu) (nI bo) (-1) (nI 0) μ1 = some (nI b, μ2) := g1
  exact ⟨μ2, b, g1', (la_fb e2).tr g2, g3.1, g4⟩
theorem bw_eq {w : Nat → Nat → Nat} {c p c' p' : Nat → Nat} {T : Nat} {py py' : Nat → Prop} {b b' : Nat} (h : Bst w c p T py (fun _ => True) (some b)) (h' : Bst w c' p' T py' (fun _ => True) (some b')) (hp : ∀ z, z < 4 ^ T → (py z ↔ py' z)) : bw w T b = bw w T b' := by
  obtain ⟨-, a2, a3, a4⟩ := h
  obtain ⟨-, b2, b3, b4⟩ := h'
  have h1 := (a4 b' trivial b2 ((hp b' b2).mpr b3)).1
  have h2 := (b4 b trivial a2 ((hp b a2).mp a3)).1
  unfold beats at h1 h2
  omega
/-! even shares -/
def eqk (a : Nat → Nat → Nat) (S t : Nat) : Nat := if a 0 t / sN (a 4) S < 3 then a 0 t / sN (a 4) S else 3
theorem eqk_le (a : Nat → Nat → Nat) (S t : Nat) : eqk a S t ≤ 3 := by
  unfold eqk
  by_cases c : a 0 t / sN (a 4) S < 3
  · rw [if_pos c]; omega
  · rw [if_neg c]; omega
theorem H_bd {T S : Nat} {a : Nat → Nat → Nat} {W : Nat} (h : BD T S a W) {s : Nat} (hs : s < S) : 1 ≤ sN (a 4) S ∧ sN (a 4) S ≤ 495 := by
  have h1 := sN_le (f := a 4) (M := 99) S (fun i _ => (h.2.2.2.1 i).2.2.2.2.1)
  have h2 := h.2.1
  refine ⟨?_, by omega⟩
  cases S with
  | zero => omega
  | succ S =>
    have := (h.2.2.2.2 S (by omega)).1
    show 1 ≤ sN (a 4) S + a 4 S
    omega
theorem ah_lp (N : Nat) {T S : Nat} {a : Nat → Nat → Nat} {W : Nat} {tx : Nat → tx_T} {μ : am_M} (hC : Cv μ T S a W tx) : ∀ (n m s : Nat), s + n = S → n + 1 ≤ m → f_X5_allHeads_4_lp N m (nI (sN (a 4) s)) (nI s) μ = some (nI (sN (a 4) S), μ)
  | n, 0, s, h1, h2 => by omega
  | 0, m + 1, s, h1, h2 => by
    have hS5 := hC.1.2.1
    unfold f_X5_allHeads_4_lp f_X5_allHeads_4
    rw [hC.2.2.1, if_pos ((nI_leI (by omega) (by omega)).mpr (by omega))]
    have : s = S := by omega
    subst this; rfl
  | n + 1, m + 1, s, h1, h2 => by
    have hS5 := hC.1.2.1
    unfold f_X5_allHeads_4_lp f_X5_allHeads_4
    rw [hC.2.2.1, if_neg (fun z => by have := (nI_leI (by omega) (by omega)).mp z; omega), li_4, at_cls N (by omega) (by omega), bd_some, hC.2.2.2.2.2.1 4 s (by omega) (by omega) (by omega), nI_add, nI_1]
    simp only [am_nme]
    exact ah_lp N hC n m (s + 1) (by omega) (by omega)
theorem ew_lp (N : Nat) {T S : Nat} {a : Nat → Nat → Nat} {W : Nat} {tx : Nat → tx_T} {μ : am_M} {w : Nat → Nat → Nat} {s : Nat} (hs : s < S) (hC : Cv μ T S a W tx) (hw : WM μ T w) : ∀ (n m t : Nat), t + n = T → n + 1 ≤ m → f_X0_equalWorth_12_lp N m (nI (sN (a 4) S)) (nI (sN (fun t => w t (eqk a S t)) t)) (nI t) μ = some (nI (sN (fun t => w t (eqk a S t)) T), μ)
  | n, 0, t, h1, h2 => by omega
  | 0, m + 1, t, h1, h2 => by
    have hT6 := hC.1.1
    unfold f_X0_equalWorth_12_lp f_X0_equalWorth_12
    rw [hC.2.1, if_pos ((nI_leI (by omega) (by omega)).mpr (by omega))]
    have : t = T := by omega
    subst this; rfl
  | n + 1, m + 1, t, h1, h2 => by
    have hT6 := hC.1.1
    obtain ⟨hH1, hH2⟩ := H_bd hC.1 hs
    have hb := (hC.1.2.2.2.1 t).1
    have hk := eqk_le a S t
    have e := at_cls N (c := 0) (t := t) (by omega) (by omega) μ
    rw [← li_0] at e
    have hq : a 0 t / sN (a 4) S ≤ a 0 t := Nat.div_le_self _ _
    have hne : ¬ nI (sN (a 4) S) = 0 := nI_ne0 hH1 (by omega)
    have ek : (if nI (a 0 t / sN (a 4) S) < 3 then nI (a 0 t / sN (a 4) S) else 3) = nI (eqk a S t) := by
      unfold eqk
      by_cases c : a 0 t / sN (a 4) S < 3
      · rw [if_pos c, if_pos (by rw [li_3]; exact (nI_ltI (by omega) (by omega)).mpr c)]
      · rw [if_neg c, if_neg (by rw [li_3]; exact fun z => c ((nI_ltI (by omega) (by omega)).mp z)), li_3]
    unfold f_X0_equalWorth_12_lp f_X0_equalWorth_12 f_X0_equalWorth_42
    rw [hC.2.1, if_neg (fun z => by have := (nI_leI (by omega) (by omega)).mp z; omega), if_neg hne, e, bd_some, hC.2.2.2.2.1 0 t (by omega) (by omega), pk_div (by omega) (by omega) (by omega)]
    unfold am_dv
    rw [if_neg hne, ek]
    simp only [am_nme]
    rw [first_c N (by omega) hk, bd_some, hw.1 t _ (by omega) hk, nI_add, nI_1]
    exact ew_lp N hs hC hw n m (t + 1) (by omega) (by omega)
theorem rh_lp (N : Nat) {T S : Nat} {a : Nat → Nat → Nat} {W : Nat} {tx : Nat → tx_T} {μ : am_M} {x1 : Int32} (hC : Rv μ T S a W tx) : ∀ (n m s : Nat), s + n = S → n + 1 ≤ m → f_X10_besideOf_39_lp N m x1 (nI (sN (a 4) s)) (nI s) μ = am_bd (f_X10_layWorths N x1 μ) (fun _ μ1 => f_X10_besideOf_75_lp N N (nI (sN (a 4) S)) 0 0 μ1)
  | n, 0, s, h1, h2 => by omega
  | 0, m + 1, s, h1, h2 => by
    have hS5 := hC.1.2.1
    unfold f_X10_besideOf_39_lp f_X10_besideOf_39
    rw [hC.2.2.1, if_pos ((nI_leI (by omega) (by omega)).mpr (by omega))]
    have : s = S := by omega
    subst this; rfl
  | n + 1, m + 1, s, h1, h2 => by
    have hS5 := hC.1.2.1
    unfold f_X10_besideOf_39_lp f_X10_besideOf_39
    rw [hC.2.2.1, if_neg (fun z => by have := (nI_leI (by omega) (by omega)).mp z; omega), gd_nI (by omega) (by omega), (hC.2.2.2.2.2.1 s (by omega)).1, nI_add, nI_1]
    simp only [am_nme]
    exact rh_lp N hC n m (s + 1) (by omega) (by omega)
theorem re_lp (N : Nat) {T S : Nat} {a : Nat → Nat → Nat} {W : Nat} {tx : Nat → tx_T} {μ : am_M} {w : Nat → Nat → Nat} {s : Nat} (hs : s < S) (hC : Rv μ T S a W tx) (hw : RW μ T w) : ∀ (n m t : Nat), t + n = T → n + 1 ≤ m → f_X10_besideOf_75_lp N m (nI (sN (a 4) S)) (nI (sN (fun t => w t (eqk a S t)) t)) (nI t) μ = some (nI (sN (fun t => w t (eqk a S t)) T), μ)
  | n, 0, t, h1, h2 => by omega
  | 0, m + 1, t, h1, h2 => by
    have hT6 := hC.1.1
    unfold f_X10_besideOf_75_lp f_X10_besideOf_75
    rw [hC.2.1, if_pos ((nI_leI (by omega) (by omega)).mpr (by omega))]
    have : t = T := by omega
    subst this; rfl
  | n + 1, m + 1, t, h1, h2 => by
    have hT6 := hC.1.1
    obtain ⟨hH1, hH2⟩ := H_bd hC.1 hs
    have hb := (hC.1.2.2.2.1 t).1
    have hk := eqk_le a S t
    have hq : a 0 t / sN (a 4) S ≤ a 0 t := Nat.div_le_self _ _
    have hne : ¬ nI (sN (a 4) S) = 0 := nI_ne0 hH1 (by omega)
    have step : ∀ k, k = eqk a S t → f_X10_besideOf_117 N (f_X10_besideOf_75_lp N m) (nI (sN (a 4) S)) (nI t) (nI k) (4 * nI t) (nI (sN (fun t => w t (eqk a S t)) t)) μ = some (nI (sN (fun t => w t (eqk a S t)) T), μ) := by
      intro k hk2
      subst hk2
      unfold f_X10_besideOf_117
      rw [li_4, pk_mul, nI_add, gd_nI (by omega) (by omega), hw t _ (by omega) hk, nI_add, nI_1]
      simp only [am_nme]
      exact re_lp N hs hC hw n m (t + 1) (by omega) (by omega)
    unfold f_X10_besideOf_75_lp f_X10_besideOf_75
    rw [hC.2.1, if_neg (fun z => by have := (nI_leI (by omega) (by omega)).mp z; omega), gd_nI (by omega) (by omega), (hC.2.2.2.2.1 t (by omega)).1, pk_div (by omega) (by omega) (by omega)]
    unfold am_dv
    rw [if_neg hne]
    simp only [am_nme]
    rw [li_3]
    by_cases c : a 0 t / sN (a 4) S ≤ 3
    · rw [if_pos ((nI_leI (by omega) (by omega)).mpr c)]
      refine step _ ?_
      unfold eqk
      by_cases d : a 0 t / sN (a 4) S < 3
      · rw [if_pos d]
      · rw [if_neg d]; omega
    · rw [if_neg (fun z => c ((nI_leI (by omega) (by omega)).mp z))]
      refine step _ ?_
      unfold eqk
      rw [if_neg (by omega)]
