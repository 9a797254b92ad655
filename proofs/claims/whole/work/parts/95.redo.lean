/-! redo -/
theorem redo_2 (N : Nat) {T S : Nat} {a : Nat → Nat → Nat} {W : Nat} {tx : Nat → tx_T} {μ ν : am_M} {d u : Nat} {E : hE} (hC : Cv μ T S a W tx) (hR : Rv ν T S a W tx) (h1 : HC μ d u E) (h2 : HQ ν d u E) (h3 : HV T S d u E) :
    ∃ r μ' ν' d' u' a', f_X9_redo N μ = some (r, μ') ∧ f_X10_redo N ν = some (r, ν') ∧ fr p_hc μ μ' ∧ fr p_hq ν ν' ∧ Cv μ' T S a' W tx ∧ Rv ν' T S a' W tx ∧ HC μ' d' u' E ∧ HQ ν' d' u' E ∧ HV T S d' u' E := by
  have hT6 := hC.1.1
  have hS5 := hC.1.2.1
  obtain ⟨c1, c2, c3, c4⟩ := h1
  obtain ⟨k1, k2, k3, k4⟩ := h2
  unfold f_X9_redo f_X9_redo_0 f_X1_goOn f_X1_goOn_0 f_X10_redo f_X10_redo_0
  rw [c1, c2, k1, k2]
  cases u with
  | zero =>
    rw [if_pos (by decide), if_pos (by rfl), bd_some]
    exact ⟨_, μ, ν, d, 0, a, rfl, rfl, fr.rf, fr.rf, hC, hR, ⟨c1, c2, c3, c4⟩, ⟨k1, k2, k3, k4⟩, h3⟩
  | succ u =>
    have hv := (h3 d (by omega)).2
    obtain ⟨b1, b2, b3, b4⟩ := VE_b hT6 hS5 hv
    obtain ⟨e1, e2, e3, e4⟩ := c4 d (by omega)
    obtain ⟨g1, g2, g3⟩ := k4 d (by omega)
    rw [if_neg (nI_nle (by omega) (by omega)), if_pos (by rw [li_40]; exact (nI_ltI (by omega) (by omega)).mpr (by omega)), if_neg (fun z => by have := (nI_eq (by omega) (by omega)).mp z; omega)]
    simp (disch := omega) only [↓gd_nI, e1, e2, e4, g1, g3]
    rw [write_v N b1 b2, bd_some]
    simp only [am_nme, ui1, Nat.reduceEqDiff, false_and, and_false, if_false, and_self, if_true, c1, c2, k1, k2, nI_1, nI_pred]
    rw [bd_some, pk_sub (show d + 1 ≤ d + (u + 1) by omega), show d + (u + 1) - (d + 1) = u by omega]
    have hG : fr p_hr (am_ui ν 160 0 (pl (E d).1 (E d).2.1) (nI (E d).2.2.2)) (am_ui (am_ui ν 160 0 (pl (E d).1 (E d).2.1) (nI (E d).2.2.2)) 10 0 5 (nI (d + 1))) := fr.rf.ui rfl
    have hF : fr p_h (am_ui μ 316 (E d).1 (E d).2.1 (nI (E d).2.2.2)) (am_ui (am_ui (am_ui μ 316 (E d).1 (E d).2.1 (nI (E d).2.2.2)) 2 0 5 (nI (d + 1))) 2 0 6 (nI u)) := (fr.rf.ui rfl).ui rfl
    have hF0 : fr p_hc μ (am_ui μ 316 (E d).1 (E d).2.1 (nI (E d).2.2.2)) := fr.rf.ui rfl
    have hG0 : fr p_hq ν (am_ui ν 160 0 (pl (E d).1 (E d).2.1) (nI (E d).2.2.2)) := fr.rf.ui rfl
    refine ⟨_, _, _, d + 1, u, st a (E d).1 (E d).2.1 (E d).2.2.2, rfl, rfl, hF0.tr (h_hc hF), hG0.tr (hr_hq hG), Cv_h (Cv_set hC hv) hF, Rv_h (Rv_set hR hv) hG, ⟨by simp [ui1], by simp [ui1], by omega, fun j hj => ?_⟩, ⟨by simp [ui1], ?_, by omega, fun j hj => ?_⟩, fun j hj => h3 j (by omega)⟩
    · simp only [ui1, Nat.reduceEqDiff, false_and, if_false]; exact c4 j (by omega)
    · simp only [ui1, Nat.reduceEqDiff, false_and, and_false, if_false]
      rw [k2]; congr 1; omega
    · simp only [ui1, Nat.reduceEqDiff, false_and, if_false]; exact k4 j (by omega)
