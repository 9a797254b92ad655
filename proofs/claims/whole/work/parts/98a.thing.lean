/-! a thing more -/
def nt (a : Nat → Nat → Nat) (T v0 v1 v2 v3 : Nat) : Nat → Nat → Nat := fun c i => if i = T then (if c = 0 then v0 else if c = 1 then v1 else if c = 2 then v2 else if c = 3 then v3 else a c i) else a c i
theorem BD_nt {T S : Nat} {a : Nat → Nat → Nat} {W : Nat} (h : BD T S a W) (hT : T < 6) {v0 v1 v2 v3 : Nat} (h0 : v0 ≤ 999) (h1 : v1 ≤ 99) (h2 : v2 ≤ 99) (h3 : v3 ≤ 99) : BD (T + 1) S (nt a T v0 v1 v2 v3) W := by
  obtain ⟨b1, b2, b3, b4, b5⟩ := h
  refine ⟨by omega, b2, b3, fun i => ?_, fun s hs => ?_⟩
  · have := b4 i
    unfold nt
    by_cases q : i = T
    · simp only [if_pos q]; simp; omega
    · simp only [if_neg q]; exact this
  · have := b5 s hs
    unfold nt
    by_cases q : s = T
    · simp only [if_pos q]; simp; exact this
    · simp only [if_neg q]; exact this
theorem addThing_c (N : Nat) {μ : am_M} {T S : Nat} {a : Nat → Nat → Nat} {W : Nat} {tx : Nat → tx_T} (h : Cv μ T S a W tx) (hT : T < 6) {v0 v1 v2 v3 : Nat} (h0 : v0 ≤ 999) (h1 : v1 ≤ 99) (h2 : v2 ≤ 99) (h3 : v3 ≤ 99) :
    ∃ μ', f_X5_addThing N (nI v0) (nI v1) (nI v2) (nI v3) μ = some (nI T, μ') ∧ fr (fun k i => k == 316 || (k == 1 && i == 1)) μ μ' ∧ Cv μ' (T + 1) S (nt a T v0 v1 v2 v3) W tx := by
  obtain ⟨b1, g2, g3, g4, g5, g6, g7, g8⟩ := h
  have hS5 := b1.2.1
  unfold f_X5_addThing f_X5_addThing_0
  rw [g2, if_pos (by rw [li_6]; exact (nI_ltI (by omega) (by omega)).mpr hT), li_0, write_v N (by omega) hT, bd_some]
  simp only [ui1, Nat.reduceEqDiff, false_and, if_false, g2]
  rw [li_1, write_v N (by omega) hT, bd_some]
  simp only [ui1, Nat.reduceEqDiff, false_and, if_false, g2]
  rw [li_2, write_v N (by omega) hT, bd_some]
  simp only [ui1, Nat.reduceEqDiff, false_and, if_false, g2]
  rw [li_3, write_v N (by omega) hT, bd_some]
  simp only [ui1, Nat.reduceEqDiff, false_and, if_false, g2, am_nme, nI_add]
  have hF : fr (fun k i => k == 316 || (k == 1 && i == 1)) μ (am_ui (am_ui (am_ui (am_ui (am_ui μ 316 0 T (nI v0)) 316 1 T (nI v1)) 316 2 T (nI v2)) 316 3 T (nI v3)) 1 0 1 (nI (T + 1))) := ((((fr.rf.ui rfl).ui rfl).ui rfl).ui rfl).ui rfl
  refine ⟨_, rfl, hF, BD_nt b1 hT h0 h1 h2 h3, by simp [ui1], (hF.1 1 0 2 rfl).trans g3, (hF.1 4 0 2 rfl).trans g4, fun c i hc hi => ?_, fun c i hc hc2 hi => ?_, fun w hw => ⟨(g7 w hw).1, (hF.1 65 0 w rfl).trans (g7 w hw).2.1, fun j hj => (hF.1 364 w j rfl).trans ((g7 w hw).2.2 j hj)⟩, fun t ht => (hF.1 384 t 0 rfl).trans (g8 t ht)⟩
  · unfold nt
    by_cases q : i = T
    · subst q
      rcases (by omega : c = 0 ∨ c = 1 ∨ c = 2 ∨ c = 3) with r | r | r | r <;> subst r <;> simp [ui1]
    · have := g5 c i hc (by omega)
      simp only [ui1, Nat.reduceEqDiff, false_and, if_false, q, and_false]
      exact this
  · have := g6 c i hc hc2 hi
    have n0 : c ≠ 0 := by omega
    have n1 : c ≠ 1 := by omega
    have n2 : c ≠ 2 := by omega
    have n3 : c ≠ 3 := by omega
    unfold nt
    simp only [ui1, Nat.reduceEqDiff, false_and, if_false, n0, n1, n2, n3, and_false, ite_self]
    exact this
