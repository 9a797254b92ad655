theorem adds_r (N : Nat) {μ : am_M} {T S : Nat} {a : Nat → Nat → Nat} {W : Nat} {tx : Nat → tx_T} (h : Rv μ T S a W tx) (hT : T < 6) {v0 v1 v2 v3 : Nat} (h0 : v0 ≤ 999) (h1 : v1 ≤ 99) (h2 : v2 ≤ 99) (h3 : v3 ≤ 99) :
    ∃ μ', f_X10_adds N (nI v0) (nI v1) (nI v2) (nI v3) μ = some ((), μ') ∧ fr (fun k i => k == 160 || k == 167 || (k == 10 && i == 6)) μ μ' ∧ Rv μ' (T + 1) S (nt a T v0 v1 v2 v3) W tx := by
  obtain ⟨b1, g2, g3, g4, g5, g6, g7, g8⟩ := h
  have hS5 := b1.2.1
  unfold f_X10_adds f_X10_adds_0
  rw [g2, gd_nI (by omega) (by omega)]
  simp only [am_nme, ui1, Nat.reduceEqDiff, false_and, if_false, g2]
  rw [gdp_6 (by omega) (by omega), gdp_12 (by omega) (by omega), gd_nI (by omega) (by omega), nI_1]
  have hF : fr (fun k i => k == 160 || k == 167 || (k == 10 && i == 6)) μ (am_ui (am_ui (am_ui (am_ui (am_ui μ 160 0 T (nI v0)) 160 0 (6 + T) (nI v1)) 160 0 (12 + T) (nI v2)) 167 0 T (nI v3)) 10 0 6 (nI (T + 1))) := ((((fr.rf.ui rfl).ui rfl).ui rfl).ui rfl).ui rfl
  have e : ∀ j, j ≠ T → j ≠ 6 + T → j ≠ 12 + T → (am_ui (am_ui (am_ui (am_ui (am_ui μ 160 0 T (nI v0)) 160 0 (6 + T) (nI v1)) 160 0 (12 + T) (nI v2)) 167 0 T (nI v3)) 10 0 6 (nI (T + 1))).1 160 0 j = μ.1 160 0 j := fun j n1 n2 n3 => by
    simp only [ui1, Nat.reduceEqDiff, false_and, if_false, n1, n2, n3, and_false]
  refine ⟨_, rfl, hF, BD_nt b1 hT h0 h1 h2 h3, by simp [ui1], (hF.1 10 0 8 rfl).trans g3, (hF.1 10 0 15 rfl).trans g4, fun i hi => ?_, fun s hs => ⟨?_, ?_, ?_, ?_, ?_⟩, fun w hw => ⟨(g7 w hw).1, (hF.1 177 0 w rfl).trans (g7 w hw).2.1, fun j hj => (hF.1 176 0 _ rfl).trans ((g7 w hw).2.2 j hj)⟩, (hF.1 10 0 29 rfl).trans g8⟩
  · by_cases q : i = T
    · subst q
      unfold nt
      refine ⟨?_, ?_, ?_, ?_⟩
      · simp only [ui1, Nat.reduceEqDiff, false_and, if_false, show ¬ i = 12 + i by omega, show ¬ i = 6 + i by omega, and_false]
        simp
      · simp only [ui1, Nat.reduceEqDiff, false_and, if_false, show ¬ 6 + i = 12 + i by omega, and_false]
        simp
      · simp [ui1]
      · simp [ui1]
    · obtain ⟨k1, k2, k3, k4⟩ := g5 i (by omega)
      unfold nt
      simp only [q, if_false]
      refine ⟨(e _ (by omega) (by omega) (by omega)).trans k1, (e _ (by omega) (by omega) (by omega)).trans k2, (e _ (by omega) (by omega) (by omega)).trans k3, ?_⟩
      simp only [ui1, Nat.reduceEqDiff, false_and, if_false, q, and_false]
      exact k4
  · obtain ⟨k1, k2, k3, k4, k5⟩ := g6 s hs
    unfold nt
    rw [(hF.1 169 0 s rfl).trans k1]; simp
  · obtain ⟨k1, k2, k3, k4, k5⟩ := g6 s hs
    unfold nt
    rw [(e _ (by omega) (by omega) (by omega)).trans k2]; simp
  · obtain ⟨k1, k2, k3, k4, k5⟩ := g6 s hs
    unfold nt
    rw [(e _ (by omega) (by omega) (by omega)).trans k3]; simp
  · obtain ⟨k1, k2, k3, k4, k5⟩ := g6 s hs
    unfold nt
    rw [(hF.1 170 0 s rfl).trans k4]; simp
  · obtain ⟨k1, k2, k3, k4, k5⟩ := g6 s hs
    unfold nt
    rw [(hF.1 171 0 s rfl).trans k5]; simp
