/-! the reference's history -/
theorem b97_r (N : Nat) {μ : am_M} {d : Nat} {E : hE} (h : μ.1 10 0 5 = nI d) (hd : d < 40) (hE_ : ∀ j, j < d → μ.1 161 0 j = nI (pl (E j).1 (E j).2.1) ∧ μ.1 162 0 j = nI (E j).2.2.1 ∧ μ.1 163 0 j = nI (E j).2.2.2) (c i b v : Nat) (hp : pl c i < 28) :
    ∃ μ1, f_X10_becomes_97 N (nI (pl c i)) (nI v) (nI b) μ = some (nI b, am_ui μ1 160 0 (pl c i) (nI v)) ∧ fr p_hr μ μ1 ∧ HQ (am_ui μ1 160 0 (pl c i) (nI v)) (d + 1) 0 (Eput E d c i b v) := by
  unfold f_X10_becomes_97
  rw [h, gd_nI (by omega) (by omega)]
  simp only [am_nme, ui1, Nat.reduceEqDiff, false_and, if_false, h]
  rw [gd_nI (by omega) (by omega), gd_nI (by omega) (by omega), gd_nI (by omega) (by omega), nI_1]
  simp only [and_self, if_true]
  refine ⟨_, rfl, ((((fr.rf.ui rfl).ui rfl).ui rfl).ui rfl).ui rfl, by simp [ui1], by simp [ui1], by omega, fun j hj => ?_⟩
  unfold Eput
  by_cases q : j = d
  · subst q
    simp [ui1]
  · have := hE_ j (by omega)
    simp only [ui1, Nat.reduceEqDiff, false_and, if_false, q, and_false]
    exact this
def HB (μ : am_M) (E : hE) (x j : Nat) : Prop := μ.1 161 0 j = nI (pl (if j < x then E (j + 1) else E j).1 (if j < x then E (j + 1) else E j).2.1) ∧ μ.1 162 0 j = nI (if j < x then E (j + 1) else E j).2.2.1 ∧ μ.1 163 0 j = nI (if j < x then E (j + 1) else E j).2.2.2
theorem b26_lp (N : Nat) {E : hE} {x1 x2 x3 : Int32} {μ0 : am_M} : ∀ (n m x : Nat) (μ : am_M), x + 1 + n = 40 → n + 1 ≤ m → fr p_hr μ0 μ → μ.1 10 0 5 = nI 40 → (∀ j, j < 40 → HB μ E x j) → ∃ μ', f_X10_becomes_26_lp N m x1 x2 x3 (nI (x + 1)) μ = f_X10_becomes_97 N x1 x2 x3 μ' ∧ fr p_hr μ0 μ' ∧ μ'.1 10 0 5 = nI 39 ∧ ∀ j, j < 39 → μ'.1 161 0 j = nI (pl (E (j + 1)).1 (E (j + 1)).2.1) ∧ μ'.1 162 0 j = nI (E (j + 1)).2.2.1 ∧ μ'.1 163 0 j = nI (E (j + 1)).2.2.2
  | n, 0, x, μ, h1, h2, hF, h5, h3 => by omega
  | 0, m + 1, x, μ, h1, h2, hF, h5, h3 => by
    unfold f_X10_becomes_26_lp f_X10_becomes_26
    rw [li_40, if_pos ((nI_leI (by omega) (by omega)).mpr (by omega)), h5, nI_pred]
    simp only [am_nme]
    refine ⟨_, rfl, hF.ui rfl, by simp [ui1], fun j hj => ?_⟩
    have := h3 j (by omega)
    unfold HB at this
    rw [if_pos (by omega)] at this
    simp only [ui1, Nat.reduceEqDiff, false_and, if_false]
    exact this
  | n + 1, m + 1, x, μ, h1, h2, hF, h5, h3 => by
    have hx := h3 (x + 1) (by omega)
    unfold HB at hx
    rw [if_neg (by omega)] at hx
    obtain ⟨y1, y2, y3⟩ := hx
    unfold f_X10_becomes_26_lp f_X10_becomes_26
    rw [li_40, if_neg (fun z => by have := (nI_leI (by omega) (by omega)).mp z; omega), nI_pred]
    simp (disch := omega) only [↓gd_nI, ↓am_nme]
    simp only [ui1, Nat.reduceEqDiff, false_and, if_false, y1, y2, y3, nI_1]
    refine b26_lp N n m (x + 1) _ (by omega) (by omega) (((hF.ui rfl).ui rfl).ui rfl) (by simp [ui1, h5]) (fun j hj => ?_)
    have hj3 := h3 j hj
    unfold HB at hj3 ⊢
    by_cases q : j = x
    · subst q
      rw [if_pos (by omega)]
      simp [ui1]
    · have e : (if j < x + 1 then E (j + 1) else E j) = (if j < x then E (j + 1) else E j) := by
        by_cases r : j < x
        · rw [if_pos r, if_pos (by omega)]
        · rw [if_neg r, if_neg (by omega)]
      rw [e]
      simp only [ui1, Nat.reduceEqDiff, false_and, if_false, q, and_false]
      exact hj3
