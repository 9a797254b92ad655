/-! the reference with any dearer: copies of worth_r, lay_r for the weaker relation -/
def Rw (μ : am_M) (T S : Nat) (a : Nat → Nat → Nat) (W : Nat) (tx : Nat → tx_T) : Prop := BD T S a W ∧ μ.1 10 0 6 = nI T ∧ μ.1 10 0 8 = nI S ∧ μ.1 10 0 15 = nI W ∧ (∀ i, i < T → μ.1 160 0 i = nI (a 0 i) ∧ μ.1 160 0 (6 + i) = nI (a 1 i) ∧ μ.1 160 0 (12 + i) = nI (a 2 i) ∧ μ.1 167 0 i = nI (a 3 i)) ∧ (∀ s, s < S → μ.1 169 0 s = nI (a 4 s) ∧ μ.1 160 0 (18 + s) = nI (a 5 s) ∧ μ.1 160 0 (23 + s) = nI (a 6 s) ∧ μ.1 170 0 s = nI (a 7 s) ∧ μ.1 171 0 s = nI (a 8 s)) ∧ (∀ w, w < W → tx_ok (tx w) ∧ μ.1 177 0 w = nI (tx w).1 ∧ ∀ j, j < (tx w).1 → μ.1 176 0 (120 * w + j) = nI ((tx w).2 j)) ∧ True
theorem Rw.of {μ μ' : am_M} {T S : Nat} {a : Nat → Nat → Nat} {W : Nat} {tx : Nat → tx_T} (h : Rw μ T S a W tx) (hf : fr p_R μ μ') : Rw μ' T S a W tx := by
  obtain ⟨h1, h2, h3, h4, h5, h6, h7, h8⟩ := h
  exact ⟨h1, (hf.1 10 0 6 rfl).trans h2, (hf.1 10 0 8 rfl).trans h3, (hf.1 10 0 15 rfl).trans h4, fun i hi => ⟨(hf.1 160 0 i rfl).trans (h5 i hi).1, (hf.1 160 0 _ rfl).trans (h5 i hi).2.1, (hf.1 160 0 _ rfl).trans (h5 i hi).2.2.1, (hf.1 167 0 i rfl).trans (h5 i hi).2.2.2⟩, fun s hs => ⟨(hf.1 169 0 s rfl).trans (h6 s hs).1, (hf.1 160 0 _ rfl).trans (h6 s hs).2.1, (hf.1 160 0 _ rfl).trans (h6 s hs).2.2.1, (hf.1 170 0 s rfl).trans (h6 s hs).2.2.2.1, (hf.1 171 0 s rfl).trans (h6 s hs).2.2.2.2⟩, fun w hw => ⟨(h7 w hw).1, (hf.1 177 0 w rfl).trans (h7 w hw).2.1, fun j hj => (hf.1 176 0 _ rfl).trans ((h7 w hw).2.2 j hj)⟩, trivial⟩
theorem worth_rw (N : Nat) (hN : 130 ≤ N) {μ : am_M} {T S : Nat} {a : Nat → Nat → Nat} {W : Nat} {tx : Nat → tx_T} (h : Rw μ T S a W tx) {s t k : Nat} (hs : s < S) (ht : t < T) :
    ∃ μ', f_X10_worthOf N (nI s) (nI t) (nI k) μ = some (nI (wv (tx (a 8 s)) s (a 7 s) T t k (a 1 t) (a 2 t)), μ') ∧ fr p_wr μ μ' := by
  obtain ⟨h1, h2, h3, h4, h5, h6, h7, h8⟩ := h
  obtain ⟨b1, b2', b3, b4, b5⟩ := h1
  have hw := (b5 s hs).2
  obtain ⟨s1, s2, s3, s4, s5⟩ := h6 s hs
  obtain ⟨q1, q2, q3, q4⟩ := h5 t ht
  unfold f_X10_worthOf f_X10_worthOf_0
  simp (disch := omega) only [↓gdl_0, ↓gdl_1, ↓gdl_2, ↓gdl_3, ↓gdl_4, ↓gdl_5, ↓gdl_6, ↓gdp_6, ↓gdp_12, ↓am_nme, ↓gd_nI]
  simp only [ui1]
  simp only [Nat.reduceEqDiff, false_and, if_false, q2, q3, h2, s4, s5]
  obtain ⟨μ7, e7⟩ : ∃ μ7, μ7 = am_ui (am_ui (am_ui (am_ui (am_ui (am_ui (am_ui μ 183 0 0 (nI t)) 183 0 1 (nI k)) 183 0 2 (nI (a 1 t))) 183 0 3 (nI (a 2 t))) 183 0 4 (nI s)) 183 0 5 (nI (a 7 s))) 183 0 6 (nI T) := ⟨_, rfl⟩
  have hF : fr p_wr μ μ7 := by rw [e7]; exact ((((((fr.rf.ui rfl).ui rfl).ui rfl).ui rfl).ui rfl).ui rfl).ui rfl
  rw [← e7]
  obtain ⟨t1, t2, t3⟩ := h7 (a 8 s) hw
  have hE : EN (en s (a 7 s) T t k (a 1 t) (a 2 t)) μ7 := by
    refine ⟨?_, ?_, ?_, ?_, ?_, ?_, ?_⟩ <;> rw [e7] <;> simp [ui1, en]
  obtain ⟨z, μ', g1, g2, g3, -⟩ := work_r N hN (L := (tx (a 8 s)).1) (by_ := (tx (a 8 s)).2) (env := en s (a 7 s) T t k (a 1 t) (a 2 t)) (μ := μ7) (B := nI (120 * a 8 s)) t1.1 t1.2.1 hE (Or.inr ⟨a 8 s, by omega, rfl, fun j hj => (hF.1 176 0 _ rfl).trans (t3 j hj)⟩)
  simp (disch := omega) only [gd_nI, li_120, pk_mul, t2, g1, bd_some]
  have hz := (g3 t1.2.2).2
  refine ⟨μ', ?_, hF.tr (g2.mono (fun k i h => by simp only [p_wr, p_rw, Bool.or_eq_false_iff] at h ⊢; exact h.2))⟩
  have e : wo (en s (a 7 s) T t k (a 1 t) (a 2 t)) (tx_s (tx (a 8 s))) false [] = z := by unfold tx_s; exact hz.symm
  unfold wv
  rw [e]
  by_cases c : z < 0
  · rw [if_neg (fun q => absurd c (Int32.not_lt.mpr q))]
    unfold cl9
    rw [if_pos c]; rfl
  · rw [if_pos (Int32.not_lt.mp c)]
    by_cases d : z ≤ 999
    · rw [if_pos d, cl9_nI z c d]
    · rw [if_neg d]
      unfold cl9
      rw [if_neg c, if_neg d]; rfl
theorem lay_inw (N : Nat) (hN : 130 ≤ N) {T S : Nat} {a : Nat → Nat → Nat} {W : Nat} {tx : Nat → tx_T} {s t : Nat} (hs : s < S) (ht : t < T) {r : Int32 → Int32 → am_M → Option (Unit × am_M)} {μ0 : am_M} :
    ∀ (j m k : Nat) (μ : am_M), k + j = 4 → 1 ≤ k → j + 1 ≤ m → Rw μ T S a W tx → fr p_la μ0 μ → (∀ z, z < k → μ.1 184 0 (4 * t + z) = nI (cwt (wf tx a T (a 1) (a 2) s) t z)) → (∀ i, i < 4 * t → μ.1 184 0 i = μ0.1 184 0 i) →
      ∃ μ', f_X10_layWorths_21_lp N r m (nI s) (nI t) (nI k) μ = r (nI s) (nI (t + 1)) μ' ∧ fr p_la μ0 μ' ∧ (∀ z, z ≤ 3 → μ'.1 184 0 (4 * t + z) = nI (cwt (wf tx a T (a 1) (a 2) s) t z)) ∧ (∀ i, i < 4 * t → μ'.1 184 0 i = μ0.1 184 0 i)
  | j, 0, k, μ, h1, h2, h3, hC, h4, h5, h6 => by omega
  | 0, m + 1, k, μ, h1, h2, h3, hC, h4, h5, h6 => by
    have hT6 := hC.1.1
    unfold f_X10_layWorths_21_lp f_X10_layWorths_21
    rw [if_pos (by rw [li_3, nI_ltI (by omega) (by omega)]; omega), nI_1]
    exact ⟨μ, rfl, h4, fun z hz => h5 z (by omega), h6⟩
  | j + 1, m + 1, k, μ, h1, h2, h3, hC, h4, h5, h6 => by
    have hT6 := hC.1.1
    unfold f_X10_layWorths_21_lp f_X10_layWorths_21
    rw [if_neg (by rw [li_3, nI_ltI (by omega) (by omega)]; omega)]
    obtain ⟨k, rfl⟩ : ∃ k', k = k' + 1 := ⟨k - 1, by omega⟩
    obtain ⟨μ1, e1, e2⟩ := worth_rw N hN hC (k := k + 1) hs ht
    have e3 : (4 * nI t + nI (k + 1) - 1 : Int32) = nI (4 * t + k) := by
      rw [li_4, pk_mul, nI_add, show 4 * t + (k + 1) = (4 * t + k) + 1 by omega, nI_pred]
    have e4 : (4 * nI t + nI (k + 1) : Int32) = nI (4 * t + (k + 1)) := by rw [li_4, pk_mul, nI_add]
    rw [e3, e4]
    simp (disch := omega) only [gd_nI, am_nme, e1, bd_some, nI_1, h5 k (by omega), nI_add]
    have hF : fr p_la μ (am_ui μ1 184 0 (4 * t + (k + 1)) (nI (cwt (wf tx a T (a 1) (a 2) s) t k + wv (tx (a 8 s)) s (a 7 s) T t (k + 1) (a 1 t) (a 2 t)))) := (wr_la e2).ui rfl
    refine lay_inw N hN hs ht j m (k + 2) _ (by omega) (by omega) (by omega) (hC.of (la_R hF)) (h4.tr hF) (fun z hz => ?_) (fun i hi => ?_)
    · by_cases e : z = k + 1
      · subst e; simp [ui1, cwt, wf]
      · rw [ui1, if_neg (by omega), e2.1 184 0 _ rfl]; exact h5 z (by omega)
    · rw [ui1, if_neg (by omega), e2.1 184 0 _ rfl]; exact h6 i hi
theorem lay_lpw (N : Nat) (hN : 130 ≤ N) {T S : Nat} {a : Nat → Nat → Nat} {W : Nat} {tx : Nat → tx_T} {s : Nat} (hs : s < S) {μ0 : am_M} : ∀ (n m t : Nat) (μ : am_M), t + n = T → n + 1 ≤ m → Rw μ T S a W tx → fr p_la μ0 μ → (∀ i z, i < t → z ≤ 3 → μ.1 184 0 (4 * i + z) = nI (cwt (wf tx a T (a 1) (a 2) s) i z)) →
      ∃ μ', f_X10_layWorths_2_lp N m (nI s) (nI t) μ = some ((), μ') ∧ fr p_la μ0 μ' ∧ RW μ' T (cwt (wf tx a T (a 1) (a 2) s))
  | n, 0, t, μ, h1, h2, hC, h4, h5 => by omega
  | 0, m + 1, t, μ, h1, h2, hC, h4, h5 => by
    have hT6 := hC.1.1
    unfold f_X10_layWorths_2_lp f_X10_layWorths_2
    rw [hC.2.1, if_pos ((nI_leI (by omega) (by omega)).mpr (by omega))]
    exact ⟨μ, rfl, h4, fun i z hi hz => h5 i z (by omega) hz⟩
  | n + 1, m + 1, t, μ, h1, h2, hC, h4, h5 => by
    have hT6 := hC.1.1
    unfold f_X10_layWorths_2_lp f_X10_layWorths_2
    rw [hC.2.1, if_neg (fun z => by have := (nI_leI (by omega) (by omega)).mp z; omega), li_4, pk_mul, li_0, li_1]
    simp (disch := omega) only [gd_nI, am_nme]
    have hF : fr p_la μ (am_ui μ 184 0 (4 * t) (nI 0)) := fr.rf.ui rfl
    obtain ⟨μ1, e1, e2, e3, e4⟩ := lay_inw N hN hs (show t < T by omega) (r := f_X10_layWorths_2_lp N m) 3 N 1 _ (by omega) (by omega) (by omega) (hC.of (la_R hF)) fr.rf (fun z hz => by
      have : z = 0 := by omega
      subst this
      simp [ui1, cwt]) (fun _ _ => rfl)
    rw [e1]
    refine lay_lpw N hN hs n m (t + 1) μ1 (by omega) (by omega) (hC.of (la_R (hF.tr e2))) ((h4.tr hF).tr e2) (fun i z hi hz => ?_)
    by_cases e : i = t
    · subst e; exact e3 z hz
    · rw [e4 _ (by omega), ui1, if_neg (by omega)]; exact h5 i z (by omega) hz
theorem lay_rw (N : Nat) (hN : 130 ≤ N) {μ : am_M} {T S : Nat} {a : Nat → Nat → Nat} {W : Nat} {tx : Nat → tx_T} (hC : Rw μ T S a W tx) {s : Nat} (hs : s < S) : ∃ μ', f_X10_layWorths N (nI s) μ = some ((), μ') ∧ fr p_la μ μ' ∧ RW μ' T (cwt (wf tx a T (a 1) (a 2) s)) := by
  have hT6 := hC.1.1
  unfold f_X10_layWorths f_X10_layWorths_0
  rw [li_0]
  exact lay_lpw N hN hs T N 0 μ (by omega) (by omega) hC fr.rf (fun i z hi => by omega)
