/-! the history when it is full -/
def HA (μ : am_M) (E : hE) (x j : Nat) : Prop := μ.1 33 0 j = nI (if j < x then E (j + 1) else E j).1 ∧ μ.1 34 0 j = nI (if j < x then E (j + 1) else E j).2.1 ∧ μ.1 35 0 j = nI (if j < x then E (j + 1) else E j).2.2.1 ∧ μ.1 36 0 j = nI (if j < x then E (j + 1) else E j).2.2.2
theorem drop_lp (N : Nat) {E : hE} {μ0 : am_M} : ∀ (n m x : Nat) (μ : am_M), x + 1 + n = 40 → n + 1 ≤ m → fr p_h μ0 μ → (∀ j, j < 40 → HA μ E x j) → ∃ μ', f_X1_dropFirst_2_lp N m (nI (x + 1)) μ = some ((), μ') ∧ fr p_h μ0 μ' ∧ μ'.1 2 0 5 = nI 39 ∧ ∀ j, j < 39 → μ'.1 33 0 j = nI (E (j + 1)).1 ∧ μ'.1 34 0 j = nI (E (j + 1)).2.1 ∧ μ'.1 35 0 j = nI (E (j + 1)).2.2.1 ∧ μ'.1 36 0 j = nI (E (j + 1)).2.2.2
  | n, 0, x, μ, h1, h2, hF, h3 => by omega
  | 0, m + 1, x, μ, h1, h2, hF, h3 => by
    unfold f_X1_dropFirst_2_lp f_X1_dropFirst_2
    rw [li_40, if_pos ((nI_leI (by omega) (by omega)).mpr (by omega)), li_39]
    simp only [am_nme]
    refine ⟨_, rfl, hF.ui rfl, by simp [ui1], fun j hj => ?_⟩
    have := h3 j (by omega)
    unfold HA at this
    rw [if_pos (by omega)] at this
    simp only [ui1, Nat.reduceEqDiff, false_and, if_false]
    exact this
  | n + 1, m + 1, x, μ, h1, h2, hF, h3 => by
    have hx := h3 (x + 1) (by omega)
    unfold HA at hx
    rw [if_neg (by omega)] at hx
    obtain ⟨x1, x2, x3, x4⟩ := hx
    unfold f_X1_dropFirst_2_lp f_X1_dropFirst_2
    rw [li_40, if_neg (fun z => by have := (nI_leI (by omega) (by omega)).mp z; omega), nI_pred]
    simp (disch := omega) only [↓gd_nI, ↓am_nme]
    simp only [ui1, Nat.reduceEqDiff, false_and, if_false, x1, x2, x3, x4, nI_1]
    refine drop_lp N n m (x + 1) _ (by omega) (by omega) ((((hF.ui rfl).ui rfl).ui rfl).ui rfl) (fun j hj => ?_)
    have hj3 := h3 j hj
    unfold HA at hj3 ⊢
    by_cases q : j = x
    · subst q
      rw [if_pos (by omega)]
      simp [ui1]
    · have e : (if j < x + 1 then E (j + 1) else E j) = (if j < x then E (j + 1) else E j) := by
        by_cases r : j < x
        · rw [if_pos r, if_pos (by omega)]
        · rw [if_neg r, if_neg (by omega)]
      rw [e]
      simp only [ui1, Nat.reduceEqDiff, false_and, if_false, q, and_false]
      exact hj3
def Eshift (E : hE) : hE := fun j => E (j + 1)
theorem note_c (N : Nat) (hN : 130 ≤ N) {μ : am_M} {d u : Nat} {E : hE} (h : HC μ d u E) (c i b v : Nat) :
    ∃ μ', f_X1_note N (nI c) (nI i) (nI b) (nI v) μ = some ((), μ') ∧ fr p_h μ μ' ∧ (if d < 40 then HC μ' (d + 1) 0 (Eput E d c i b v) else HC μ' 40 0 (Eput (Eshift E) 39 c i b v)) := by
  obtain ⟨h1, h2, h3, h4⟩ := h
  unfold f_X1_note f_X1_note_0
  rw [h1, li_40]
  by_cases q : d < 40
  · rw [if_pos ((nI_ltI (by omega) (by omega)).mpr q)]
    obtain ⟨μ', e1, e2, e3⟩ := note13_c N (u := u) h1 q (fun j hj => h4 j (by omega)) c i b v
    exact ⟨μ', e1, e2, by rw [if_pos q]; exact e3⟩
  · rw [if_neg (fun z => q ((nI_ltI (by omega) (by omega)).mp z))]
    obtain ⟨μ1, e1, e2, e3, e4⟩ := drop_lp N (E := E) (μ0 := μ) 39 N 0 μ (by omega) (by omega) fr.rf (fun j hj => by unfold HA; rw [if_neg (by omega)]; exact h4 j (by omega))
    have e1' : f_X1_dropFirst N μ = some ((), μ1) := e1
    obtain ⟨μ', g1, g2, g3⟩ := note13_c N (u := 0) (E := Eshift E) e3 (by omega) e4 c i b v
    rw [e1', bd_some]
    exact ⟨μ', g1, e2.tr g2, by rw [if_neg q]; exact g3⟩
