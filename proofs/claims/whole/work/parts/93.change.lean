/-! one change, both sides -/
def p_hc (k i : Nat) : Bool := p_h k i || k == 316
def p_hq (k i : Nat) : Bool := p_hr k i || k == 160
theorem h_hc {μ μ' : am_M} (h : fr p_h μ μ') : fr p_hc μ μ' := h.mono' (fun k i q => by simp only [p_hc, Bool.or_eq_true] at q ⊢; exact Or.inl q)
theorem hr_hq {μ μ' : am_M} (h : fr p_hr μ μ') : fr p_hq μ μ' := h.mono' (fun k i q => by simp only [p_hq, Bool.or_eq_true] at q ⊢; exact Or.inl q)
theorem change_2 (N : Nat) (hN : 130 ≤ N) {T S : Nat} {a : Nat → Nat → Nat} {W : Nat} {tx : Nat → tx_T} {μ ν : am_M} {d u : Nat} {E : hE} (hC : Cv μ T S a W tx) (hR : Rv ν T S a W tx) (h1 : HC μ d u E) (h2 : HQ ν d u E) (h3 : HV T S d u E) {c i v : Nat} (hv : VE T S c i v) :
    ∃ r μ' ν' d' u' E', f_X1_change N (nI c) (nI i) (nI v) μ = some (r, μ') ∧ f_X10_becomes N (nI (pl c i)) (nI v) ν = some (r, ν') ∧ fr p_hc μ μ' ∧ fr p_hq ν ν' ∧ Cv μ' T S (st a c i v) W tx ∧ Rv ν' T S (st a c i v) W tx ∧ HC μ' d' u' E' ∧ HQ ν' d' u' E' ∧ HV T S d' u' E' := by
  have hT6 := hC.1.1
  have hS5 := hC.1.2.1
  obtain ⟨b1, b2, b3, b4⟩ := VE_b hT6 hS5 hv
  have hold : VE T S c i (a c i) := by
    have hb := hC.1.2.2.2.1 i
    unfold VE at hv ⊢
    rcases hv with hv | hv | hv | hv | hv <;> obtain ⟨rfl, q1, q2⟩ := hv <;> omega
  obtain ⟨-, -, b5, -⟩ := VE_b hT6 hS5 hold
  have em := at_v hC hv
  have en := rat_v hR hv
  obtain ⟨k1, k2, k3, k4⟩ := h2
  unfold f_X1_change f_X1_change_0 f_X10_becomes f_X10_becomes_0
  rw [at_cls N b1 b2, bd_some, em, gd_nI b4 (by omega), en]
  simp only [am_nme]
  by_cases q : a c i = v
  · rw [if_pos (by rw [q]), if_pos (by rw [q]), st_same q]
    exact ⟨_, μ, ν, d, u, E, rfl, rfl, fr.rf, fr.rf, hC, hR, h1, ⟨k1, k2, k3, k4⟩, h3⟩
  · have q' : ¬ nI (a c i) = nI v := fun z => q ((nI_eq (by omega) (by omega)).mp z)
    rw [if_neg q', if_neg q']
    obtain ⟨μ1, e1, e2, e3⟩ := note_c N hN h1 c i (a c i) v
    rw [e1, bd_some, write_v N b1 b2, bd_some, k1, li_40]
    have hC1 := Cv_set (Cv_h hC e2) hv
    have hFm : fr p_hc μ (am_ui μ1 316 c i (nI v)) := (h_hc e2).ui rfl
    have hcm : ∀ {d u E}, HC μ1 d u E → HC (am_ui μ1 316 c i (nI v)) d u E := fun {d u E} h => ⟨by rw [ui1, if_neg (by omega)]; exact h.1, by rw [ui1, if_neg (by omega)]; exact h.2.1, h.2.2.1, fun j hj => by
      have := h.2.2.2 j hj
      simp only [ui1, Nat.reduceEqDiff, false_and, if_false]
      exact this⟩
    by_cases hd : d < 40
    · rw [if_pos hd] at e3
      obtain ⟨ν1, g1, g2, g3⟩ := b97_r N (E := E) k1 hd (fun j hj => k4 j (by omega)) c i (a c i) v b4
      rw [if_neg (fun z => by have := (nI_eq (by omega) (by omega)).mp z; omega), g1]
      refine ⟨_, _, _, d + 1, 0, Eput E d c i (a c i) v, rfl, rfl, hFm, (hr_hq g2).ui rfl, hC1, Rv_set (Rv_h hR g2) hv, hcm e3, g3, fun j hj => ?_⟩
      unfold Eput
      by_cases z : j = d
      · simp only [if_pos z]; exact ⟨hold, hv⟩
      · simp only [if_neg z]; exact h3 j (by omega)
    · have hd40 : d = 40 := by omega
      subst hd40
      rw [if_neg hd] at e3
      obtain ⟨ν1, r1, r2, r3, r4⟩ := b26_lp N (E := E) (x1 := nI (pl c i)) (x2 := nI v) (x3 := nI (a c i)) (μ0 := ν) 39 N 0 ν (by omega) (by omega) fr.rf k1 (fun j hj => by unfold HB; rw [if_neg (by omega)]; exact k4 j (by omega))
      have r1' : f_X10_becomes_26_lp N N (nI (pl c i)) (nI v) (nI (a c i)) 1 ν = _ := r1
      obtain ⟨ν2, g1, g2, g3⟩ := b97_r N (E := Eshift E) r3 (by omega) r4 c i (a c i) v b4
      rw [if_pos rfl, r1', g1]
      refine ⟨_, _, _, 40, 0, Eput (Eshift E) 39 c i (a c i) v, rfl, rfl, hFm, (hr_hq (r2.tr g2)).ui rfl, hC1, Rv_set (Rv_h hR (r2.tr g2)) hv, hcm e3, g3, fun j hj => ?_⟩
      unfold Eput
      by_cases z : j = 39
      · simp only [if_pos z]; exact ⟨hold, hv⟩
      · simp only [if_neg z]; exact h3 (j + 1) (by omega)
