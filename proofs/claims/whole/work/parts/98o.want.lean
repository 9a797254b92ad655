/-! want -/
def p_ln (k i : Nat) : Bool := k == 364 || k == 65 || (k == 4 && i == 2)
def p_lr (k i : Nat) : Bool := k == 176 || k == 177 || (k == 10 && i == 15)
theorem ln_lp (N : Nat) {W z : Nat} (hW : W < 4) (hz : z ≤ 121) {μ0 : am_M} (h4 : μ0.1 4 0 2 = nI W) : ∀ (n m j : Nat) (μ : am_M), j + n = z → n + 1 ≤ m → fr (fun k _ => k == 364) μ0 μ → (∀ w i, w ≠ W → μ.1 364 w i = μ0.1 364 w i) → (∀ i, i < j → μ.1 364 W i = μ0.1 51 0 i) →
    ∃ μ', f_X8_learn_23_lp N m (nI z) (nI j) μ = some (nI W, μ') ∧ fr p_ln μ0 μ' ∧ (∀ w i, w ≠ W → μ'.1 364 w i = μ0.1 364 w i ∧ μ'.1 65 0 w = μ0.1 65 0 w) ∧ (∀ i, i < z → μ'.1 364 W i = μ0.1 51 0 i) ∧ μ'.1 65 0 W = nI z ∧ μ'.1 4 0 2 = nI (W + 1)
  | n, 0, j, μ, h1, h2, hF, h3, h5 => by omega
  | 0, m + 1, j, μ, h1, h2, hF, h3, h5 => by
    have e4 : μ.1 4 0 2 = nI W := (hF.1 4 0 2 rfl).trans h4
    unfold f_X8_learn_23_lp f_X8_learn_23
    rw [if_pos ((nI_leI (by omega) (by omega)).mpr (by omega)), e4, gd_nI (by omega) (by omega), am_nme, am_nme]
    simp only [ui1, Nat.reduceEqDiff, false_and, if_false, e4, nI_1]
    have hF' : fr p_ln μ0 μ := hF.mono' (fun k i q => by simp only [p_ln, Bool.or_eq_true, beq_iff_eq] at q ⊢; exact Or.inl (Or.inl q))
    refine ⟨_, rfl, (hF'.ui rfl).ui rfl, fun w i hw => ⟨?_, ?_⟩, fun i hi => ?_, ?_, ?_⟩
    · simp only [ui1, Nat.reduceEqDiff, false_and, if_false]; exact h3 w i hw
    · simp only [ui1, Nat.reduceEqDiff, false_and, if_false, hw, and_false]; exact hF.1 65 0 w rfl
    · simp only [ui1, Nat.reduceEqDiff, false_and, if_false]; exact h5 i (by omega)
    · simp [ui1]
    · simp [ui1]
  | n + 1, m + 1, j, μ, h1, h2, hF, h3, h5 => by
    have e4 : μ.1 4 0 2 = nI W := (hF.1 4 0 2 rfl).trans h4
    unfold f_X8_learn_23_lp f_X8_learn_23 f_X6_stepAt f_X6_stepAt_0
    rw [if_neg (fun z => by have := (nI_leI (by omega) (by omega)).mp z; omega), e4, gd_nI (by omega) (by omega), w_cls, bd_some, gI, if_pos (by rw [li_0, li_120]; exact ⟨nI_pos' (by omega), (nI_leI (by omega) (by omega)).mpr (by omega)⟩), gd_nI (by omega) (by omega), bd_some, gd_nI (by omega) (by omega), am_nme, nI_1, hF.1 51 0 j rfl]
    refine ln_lp N hW hz h4 n m (j + 1) _ (by omega) (by omega) (hF.ui rfl) (fun w i hw => ?_) (fun i hi => ?_)
    · simp only [ui1, hw, false_and, and_false, if_false]; exact h3 w i hw
    · rw [ui1]
      by_cases q : i = j
      · rw [if_pos ⟨rfl, rfl, q⟩, q]
      · rw [if_neg (fun y => q y.2.2)]; exact h5 i (by omega)
theorem lr_lp (N : Nat) {W L : Nat} (hW : W < 4) (hL : L ≤ 120) {ν0 : am_M} (h4 : ν0.1 10 0 15 = nI W) : ∀ (n m j : Nat) (ν : am_M), j + n = L → n + 1 ≤ m → fr (fun k _ => k == 176) ν0 ν → (∀ i, i < 120 * W → ν.1 176 0 i = ν0.1 176 0 i) → (∀ i, i < j → ν.1 176 0 (120 * W + i) = ν0.1 173 0 i) →
    ∃ ν', f_X10_want_48_lp N m (nI L) (nI j) ν = some (nI W, ν') ∧ fr p_lr ν0 ν' ∧ (∀ i, i < 120 * W → ν'.1 176 0 i = ν0.1 176 0 i) ∧ (∀ w, w ≠ W → ν'.1 177 0 w = ν0.1 177 0 w) ∧ (∀ i, i < L → ν'.1 176 0 (120 * W + i) = ν0.1 173 0 i) ∧ ν'.1 177 0 W = nI L ∧ ν'.1 10 0 15 = nI (W + 1)
  | n, 0, j, ν, h1, h2, hF, h3, h5 => by omega
  | 0, m + 1, j, ν, h1, h2, hF, h3, h5 => by
    have e4 : ν.1 10 0 15 = nI W := (hF.1 10 0 15 rfl).trans h4
    unfold f_X10_want_48_lp f_X10_want_48
    rw [if_pos ((nI_leI (by omega) (by omega)).mpr (by omega)), e4, gd_nI (by omega) (by omega), am_nme, am_nme]
    simp only [ui1, Nat.reduceEqDiff, false_and, if_false, e4, nI_1, and_self, if_true, nI_pred]
    have hF' : fr p_lr ν0 ν := hF.mono' (fun k i q => by simp only [p_lr, Bool.or_eq_true, beq_iff_eq] at q ⊢; exact Or.inl (Or.inl q))
    refine ⟨_, rfl, (hF'.ui rfl).ui rfl, fun i hi => ?_, fun w hw => ?_, fun i hi => ?_, ?_, ?_⟩
    · simp only [ui1, Nat.reduceEqDiff, false_and, if_false]; exact h3 i hi
    · simp only [ui1, Nat.reduceEqDiff, false_and, if_false, hw, and_false]; exact hF.1 177 0 w rfl
    · simp only [ui1, Nat.reduceEqDiff, false_and, if_false]; exact h5 i (by omega)
    · simp [ui1]
    · simp [ui1]
  | n + 1, m + 1, j, ν, h1, h2, hF, h3, h5 => by
    have e4 : ν.1 10 0 15 = nI W := (hF.1 10 0 15 rfl).trans h4
    unfold f_X10_want_48_lp f_X10_want_48
    rw [if_neg (fun z => by have := (nI_leI (by omega) (by omega)).mp z; omega), e4, gd_nI (by omega) (by omega), li_120, pk_mul, nI_add, gd_nI (by omega) (by omega), am_nme, nI_1, hF.1 173 0 j rfl]
    refine lr_lp N hW hL h4 n m (j + 1) _ (by omega) (by omega) (hF.ui rfl) (fun i hi => ?_) (fun i hi => ?_)
    · rw [ui1, if_neg (by omega)]; exact h3 i hi
    · rw [ui1]
      by_cases q : i = j
      · rw [if_pos ⟨rfl, rfl, by omega⟩, q]
      · rw [if_neg (by omega)]; exact h5 i (by omega)
theorem tp_C : ∀ k i, p_tape k i = true → isR k = false := fun k i q => by
  simp only [p_tape, Bool.or_eq_true, Bool.and_eq_true, beq_iff_eq] at q
  exact decide_eq_false (by omega)
set_option maxHeartbeats 2000000 in
theorem want_ag (N : Nat) (hN : 5000 ≤ N) : AG (f_X9_want N) (f_X10_want N) := by
  intro μ ν h
  have h0 := h
  obtain ⟨⟨T, S, a, W, tx, d, u, E, D, h1, h2, h3, h4, h5, h6, h7, h8⟩, ⟨L, b, hL, t1, t2, t3⟩, hD⟩ := h
  have hW4 := h1.1.2.2.1
  unfold f_X9_want f_X9_want_0 f_X10_want f_X10_want_0 f_X8_known f_X8_known_0
  rw [bd_some, h1.2.2.2.1, h2.2.2.2.1]
  by_cases c : W = 4
  · subst c
    rw [if_neg (by decide), if_pos (by decide)]
    exact ⟨_, μ, ν, rfl, rfl, h0, cO.rf, rO.rf⟩
  · have hW : W < 4 := by omega
    rw [if_pos (by rw [li_4]; exact (nI_ltI (by omega) (by omega)).mpr hW), if_neg (by rw [li_4]; exact fun z => c ((nI_eq (by omega) (by omega)).mp z)), t2]
    obtain ⟨μ1, w', e1, e2, e3, e4, e5⟩ := reads_c N (by omega) t1 hL (fun j hj => ⟨(t3 j hj).2.1, (t3 j hj).1⟩)
    obtain ⟨z, ν1, g1, g2, g3, g4⟩ := work_r N (by omega) (L := L) (by_ := b) (env := fun z => if z = 116 then ν.1 183 0 0 else if z = 107 then ν.1 183 0 1 else if z = 99 then ν.1 183 0 2 else if z = 112 then ν.1 183 0 3 else if z = 115 then ν.1 183 0 4 else if z = 98 then ν.1 183 0 5 else ν.1 183 0 6) (μ := ν) (B := -1) hL (fun j hj => (t3 j hj).1) ⟨rfl, rfl, rfl, rfl, rfl, rfl, rfl⟩ (Or.inl ⟨rfl, fun j hj => (t3 j hj).2.2⟩)
    rw [e1, bd_some, g1, bd_some, am_nme, am_nme]
    have hC1 : Cv μ1 T S a W tx := h1.of (e2.mono' (fun k i q => by simp only [p_tape, p_C, Bool.or_eq_true, Bool.and_eq_true, beq_iff_eq, bne_iff_ne] at q ⊢; omega))
    have hR1 : Rv ν1 T S a W tx := h2.of (g2.mono' (fun k i q => by simp only [p_rw, p_R, Bool.or_eq_true, Bool.and_eq_true, beq_iff_eq] at q ⊢; omega))
    have g14 : ν1.1 10 0 14 = nI L := (g2.1 10 0 14 rfl).trans t2
    rw [g14]
    cases q : (pz_t (chL L b)).1 && (pz_t (chL L b)).2.1 == L with
    | false =>
      have f1 := g4 q
      have hp := (pz_t_ok (chL_0 (L := L) (by_ := b))).1
      unfold f_X6_place f_X6_place_0 f_X9_want_50 f_X6_empty f_X6_empty_0
      rw [if_pos (show b2 false = 0 from rfl), bd_some, e3, am_nme, bd_some]
      have f1' : (am_ui ν1 10 0 14 0).1 10 0 21 = nI (pz_t (chL L b)).2.1 := by rw [ui1, if_neg (by omega)]; exact f1
      rw [f1', if_neg (nI_pos (by omega))]
      have eF : fr (fun k i => p_tape k i || (k == 3 && i == 1)) μ (am_ui μ1 3 0 1 0) := (e2.mono' (fun k i z => by simp only [Bool.or_eq_true]; exact Or.inl z)).ui rfl
      have eG : fr (fun k i => p_rw k i || (k == 10 && i == 14)) ν (am_ui ν1 10 0 14 0) := (g2.mono' (fun k i z => by simp only [Bool.or_eq_true]; exact Or.inl z)).ui rfl
      refine ⟨_, _, _, rfl, rfl, ⟨h0.1.ag (eF.nt ?_) (eG.nt ?_), ⟨0, b, by omega, by simp [ui1]; rfl, by simp [ui1]; rfl, fun j hj => by omega⟩, hD.ag (eF.nt ?_) (fun r i => by rw [eF.2]) (eG.nt ?_) (fun i => by rw [eG.2])⟩, eF.cO ?_, eG.rO ?_⟩
      · intro k i q z
        simp only [p_tape, qA, Bool.or_eq_true, Bool.and_eq_true, beq_iff_eq] at q z
        omega
      · intro k i q z
        simp only [p_rw, rA, Bool.or_eq_true, Bool.and_eq_true, beq_iff_eq] at q z
        omega
      · intro k i q z
        simp only [p_tape, qD, Bool.or_eq_true, Bool.and_eq_true, beq_iff_eq] at q z
        omega
      · intro k i q z
        simp only [p_rw, rD, Bool.or_eq_true, Bool.and_eq_true, beq_iff_eq] at q z
        omega
      · intro k i q
        simp only [p_tape, Bool.or_eq_true, Bool.and_eq_true, beq_iff_eq] at q
        exact decide_eq_false (by omega)
      · intro k i q
        simp only [p_rw, Bool.or_eq_true, Bool.and_eq_true, beq_iff_eq] at q
        exact decide_eq_true (by omega)
    | true =>
      have f1 := (g3 q).1
      have hok : tx_ok (L, b) := ⟨hL, fun j hj => (t3 j hj).1, q⟩
      have hlen := tx_len hok
      have q1 : (pz_t (chL L b)).1 = true := by simp only [Bool.and_eq_true] at q; exact q.1
      obtain ⟨e6, e7⟩ := e5 (by have := hlen; unfold tx_s at this; exact this)
      unfold f_X8_learn f_X8_learn_0 f_X6_size f_X6_size_0 f_X9_want_50 f_X6_empty f_X6_empty_0
      rw [if_neg (show ¬ b2 true = 0 by decide), hC1.2.2.2.1, if_pos (by rw [li_4]; exact (nI_ltI (by omega) (by omega)).mpr hW), bd_some, e4, am_nme]
      have hw' : w' ≤ 121 := by rw [e6]; have := hlen; unfold tx_s at this; exact this
      have em : (if (121 : Int32) < nI w' then 121 else nI w') = nI w' := if_neg (by rw [li_121, nI_ltI (by omega) (by omega)]; omega)
      rw [em]
      obtain ⟨μ2, k1, k2, k3, k4, k5, k6⟩ := ln_lp N hW hw' (μ0 := μ1) hC1.2.2.2.1 w' N 0 μ1 (by omega) (by omega) fr.rf (fun _ _ _ => rfl) (fun i hi => by omega)
      have f1' : (am_ui ν1 10 0 14 0).1 10 0 21 = -1 := by rw [ui1, if_neg (by omega)]; exact f1
      have hR2 : (am_ui ν1 10 0 14 0).1 10 0 15 = nI W := by rw [ui1, if_neg (by omega)]; exact hR1.2.2.2.1
      obtain ⟨ν2, l1, l2, l3, l4, l5, l6, l7⟩ := lr_lp N hW hL (ν0 := am_ui ν1 10 0 14 0) hR2 L N 0 (am_ui ν1 10 0 14 0) (by omega) (by omega) fr.rf (fun _ _ => rfl) (fun i hi => by omega)
      have k1' : f_X8_learn_23_lp N N (nI w') 0 μ1 = _ := k1
      have l1' : f_X10_want_48_lp N N (nI L) 0 (am_ui ν1 10 0 14 0) = _ := l1
      rw [k1', bd_some, am_nme, bd_some, f1', if_pos (by decide), l1']
      have eF : fr (fun k i => p_tape k i || (p_ln k i || (k == 3 && i == 1))) μ (am_ui μ2 3 0 1 0) := ((e2.mono' (fun k i z => by simp only [Bool.or_eq_true]; exact Or.inl z)).tr (k2.mono' (fun k i z => by simp only [Bool.or_eq_true]; exact Or.inr (Or.inl z)))).ui rfl
      have eG0 : fr (fun k i => p_rw k i || (p_lr k i || (k == 10 && i == 14))) ν (am_ui ν1 10 0 14 0) := (g2.mono' (fun k i z => by simp only [Bool.or_eq_true]; exact Or.inl z)).ui rfl
      have eG : fr (fun k i => p_rw k i || (p_lr k i || (k == 10 && i == 14))) ν ν2 := eG0.tr (l2.mono' (fun k i z => by simp only [Bool.or_eq_true]; exact Or.inr (Or.inl z)))
      refine ⟨_, _, ν2, rfl, rfl, ⟨⟨T, S, a, W + 1, fun w => if w = W then (L, b) else tx w, d, u, E, D, ?_, ?_, h3.ag (eF.nt ?_), h4.ag (eG.nt ?_), h5, h6.ag (fun s => eF.1 99 0 s rfl), h7.ag (fun s => eG.1 172 0 s rfl), h8⟩, ⟨0, b, by omega, by simp [ui1]; rfl, (l2.1 10 0 14 rfl).trans (by simp [ui1]; rfl), fun j hj => by omega⟩, hD.ag (eF.nt ?_) (fun r i => by rw [eF.2]) (eG.nt ?_) (fun i => by rw [eG.2])⟩, eF.cO ?_, eG.rO ?_⟩
      · obtain ⟨a1, a2, a3, a4, a5, a6, a7, a8⟩ := h1
        refine ⟨⟨a1.1, a1.2.1, by omega, a1.2.2.2.1, fun s hs => ⟨(a1.2.2.2.2 s hs).1, by have := (a1.2.2.2.2 s hs).2; omega⟩⟩, (eF.1 1 0 1 rfl).trans a2, (eF.1 1 0 2 rfl).trans a3, by rw [ui1, if_neg (by omega)]; exact k6, fun c i hc hi => (eF.1 316 c i rfl).trans (a5 c i hc hi), fun c i hc hc2 hi => (eF.1 316 c i rfl).trans (a6 c i hc hc2 hi), fun w hw => ?_, fun t ht => (eF.1 384 t 0 rfl).trans (a8 t ht)⟩
        by_cases r : w = W
        · subst r
          simp only [if_true]
          refine ⟨hok, ?_, fun j hj => ?_⟩
          · rw [ui1, if_neg (by omega), k5, e6]; rfl
          · have hj' : j < w' := by rw [e6]; exact hj
            rw [ui1, if_neg (by omega), k4 j hj', e7 j hj']; rfl
        · simp only [r, if_false]
          obtain ⟨b1, b2, b3⟩ := a7 w (by omega)
          refine ⟨b1, ?_, fun j hj => ?_⟩
          · rw [ui1, if_neg (by omega), (k3 w 0 r).2, e2.1 65 0 w rfl]; exact b2
          · rw [ui1, if_neg (by omega), (k3 w j r).1, e2.1 364 w j rfl]; exact b3 j hj
      · obtain ⟨a1, a2, a3, a4, a5, a6, a7, a8⟩ := h2
        refine ⟨⟨a1.1, a1.2.1, by omega, a1.2.2.2.1, fun s hs => ⟨(a1.2.2.2.2 s hs).1, by have := (a1.2.2.2.2 s hs).2; omega⟩⟩, (eG.1 10 0 6 rfl).trans a2, (eG.1 10 0 8 rfl).trans a3, l7, fun i hi => ⟨(eG.1 160 0 i rfl).trans (a5 i hi).1, (eG.1 160 0 _ rfl).trans (a5 i hi).2.1, (eG.1 160 0 _ rfl).trans (a5 i hi).2.2.1, (eG.1 167 0 i rfl).trans (a5 i hi).2.2.2⟩, fun s hs => ⟨(eG.1 169 0 s rfl).trans (a6 s hs).1, (eG.1 160 0 _ rfl).trans (a6 s hs).2.1, (eG.1 160 0 _ rfl).trans (a6 s hs).2.2.1, (eG.1 170 0 s rfl).trans (a6 s hs).2.2.2.1, (eG.1 171 0 s rfl).trans (a6 s hs).2.2.2.2⟩, fun w hw => ?_, (eG.1 10 0 29 rfl).trans a8⟩
        by_cases r : w = W
        · subst r
          simp only [if_true]
          refine ⟨hok, l6, fun j hj => ?_⟩
          rw [l5 j hj, ui1, if_neg (by omega), g2.1 173 0 j rfl]
          exact (t3 j hj).2.2
        · simp only [r, if_false]
          obtain ⟨b1, b2, b3⟩ := a7 w (by omega)
          have hx := b1.1
          refine ⟨b1, ?_, fun j hj => ?_⟩
          · rw [l4 w r, ui1, if_neg (by omega), g2.1 177 0 w rfl]; exact b2
          · rw [l3 _ (by omega), ui1, if_neg (by omega), g2.1 176 0 _ rfl]; exact b3 j hj
      · intro k i q z
        simp only [p_tape, p_ln, p_h, Bool.or_eq_true, Bool.and_eq_true, beq_iff_eq] at q z
        omega
      · intro k i q z
        simp only [p_rw, p_lr, p_hr, Bool.or_eq_true, Bool.and_eq_true, beq_iff_eq] at q z
        omega
      · intro k i q z
        simp only [p_tape, p_ln, qD, Bool.or_eq_true, Bool.and_eq_true, beq_iff_eq] at q z
        omega
      · intro k i q z
        simp only [p_rw, p_lr, rD, Bool.or_eq_true, Bool.and_eq_true, beq_iff_eq] at q z
        omega
      · intro k i q
        simp only [p_tape, p_ln, Bool.or_eq_true, Bool.and_eq_true, beq_iff_eq] at q
        exact decide_eq_false (by omega)
      · intro k i q
        simp only [p_rw, p_lr, Bool.or_eq_true, Bool.and_eq_true, beq_iff_eq] at q
        exact decide_eq_true (by omega)
