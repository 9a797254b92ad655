/-! undo, redo -/
theorem undo_2 (N : Nat) {T S : Nat} {a : Nat → Nat → Nat} {W : Nat} {tx : Nat → tx_T} {μ ν : am_M} {d u : Nat} {E : hE} (hC : Cv μ T S a W tx) (hR : Rv ν T S a W tx) (h1 : HC μ d u E) (h2 : HQ ν d u E) (h3 : HV T S d u E) :
    ∃ r μ' ν' d' u' a', f_X9_undo N μ = some (r, μ') ∧ f_X10_undo N ν = some (r, ν') ∧ fr p_hc μ μ' ∧ fr p_hq ν ν' ∧ Cv μ' T S a' W tx ∧ Rv ν' T S a' W tx ∧ HC μ' d' u' E ∧ HQ ν' d' u' E ∧ HV T S d' u' E := by
  have hT6 := hC.1.1
  have hS5 := hC.1.2.1
  obtain ⟨c1, c2, c3, c4⟩ := h1
  obtain ⟨k1, k2, k3, k4⟩ := h2
  unfold f_X9_undo f_X9_undo_0 f_X1_goBack f_X1_goBack_0 f_X10_undo f_X10_undo_0
  rw [c1, k1]
  cases d with
  | zero =>
    rw [if_neg (by decide), if_pos (by decide), bd_some]
    exact ⟨_, μ, ν, 0, u, a, rfl, rfl, fr.rf, fr.rf, hC, hR, ⟨c1, c2, c3, c4⟩, ⟨k1, k2, k3, k4⟩, h3⟩
  | succ d =>
    have hv := (h3 d (by omega)).1
    obtain ⟨b1, b2, b3, b4⟩ := VE_b hT6 hS5 hv
    obtain ⟨e1, e2, e3, e4⟩ := c4 d (by omega)
    obtain ⟨g1, g2, g3⟩ := k4 d (by omega)
    rw [if_pos (by rw [li_0]; exact (nI_ltI (by omega) (by omega)).mpr (by omega)), if_neg (nI_ne0 (by omega) (by omega)), nI_pred]
    simp only [am_nme, ui1, Nat.reduceEqDiff, false_and, and_false, if_false, and_self, if_true, c2, nI_1]
    simp (disch := omega) only [↓gd_nI, e1, e2, e3, g1, g2]
    rw [write_v N b1 b2, bd_some, bd_some]
    simp only [ui1, Nat.reduceEqDiff, false_and, and_false, if_false, and_self, if_true]
    have hF : fr p_h μ (am_ui (am_ui μ 2 0 5 (nI d)) 2 0 6 (nI (u + 1))) := (fr.rf.ui rfl).ui rfl
    have hG : fr p_hr ν (am_ui ν 10 0 5 (nI d)) := fr.rf.ui rfl
    refine ⟨_, _, _, d, u + 1, st a (E d).1 (E d).2.1 (E d).2.2.1, rfl, rfl, (h_hc hF).ui rfl, (hr_hq hG).ui rfl, Cv_set (Cv_h hC hF) hv, Rv_set (Rv_h hR hG) hv, ⟨by simp [ui1], by simp [ui1], by omega, fun j hj => ?_⟩, ⟨by simp [ui1], ?_, by omega, fun j hj => ?_⟩, fun j hj => h3 j (by omega)⟩
    · simp only [ui1, Nat.reduceEqDiff, false_and, if_false]; exact c4 j (by omega)
    · simp only [ui1, Nat.reduceEqDiff, false_and, and_false, if_false]
      rw [k2]; congr 1; omega
    · simp only [ui1, Nat.reduceEqDiff, false_and, if_false]; exact k4 j (by omega)
