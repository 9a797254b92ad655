/-! one cell of the view changes -/
def st (a : Nat → Nat → Nat) (c i v : Nat) : Nat → Nat → Nat := fun c' i' => if c' = c ∧ i' = i then v else a c' i'
theorem st_eq (a : Nat → Nat → Nat) (c i v : Nat) : st a c i v c i = v := if_pos ⟨rfl, rfl⟩
theorem st_ne (a : Nat → Nat → Nat) {c i c' i' : Nat} (v : Nat) (h : ¬ (c' = c ∧ i' = i)) : st a c i v c' i' = a c' i' := if_neg h
/-- a change that the history knows -/
def VE (T S c i v : Nat) : Prop := (c = 0 ∧ i < T ∧ v ≤ 999) ∨ (c = 1 ∧ i < T ∧ v ≤ 99) ∨ (c = 2 ∧ i < T ∧ v ≤ 99) ∨ (c = 5 ∧ i < S ∧ v ≤ 99) ∨ (c = 6 ∧ i < S ∧ v ≤ 99)
def pl (c i : Nat) : Nat := if c = 0 then i else if c = 1 then 6 + i else if c = 2 then 12 + i else if c = 5 then 18 + i else 23 + i
theorem BD_st {T S : Nat} {a : Nat → Nat → Nat} {W : Nat} (h : BD T S a W) {c i v : Nat} (hv : VE T S c i v) : BD T S (st a c i v) W := by
  obtain ⟨h1, h2, h3, h4, h5⟩ := h
  refine ⟨h1, h2, h3, fun j => ?_, fun s hs => ?_⟩
  · have hj := h4 j
    unfold VE at hv
    unfold st
    refine ⟨?_, ?_, ?_, ?_, ?_, ?_, ?_, ?_⟩ <;> split <;> omega
  · have hs5 := h5 s hs
    unfold VE at hv
    rw [st_ne a v (by omega), st_ne a v (by omega)]
    exact hs5
theorem Cv_set {μ : am_M} {T S : Nat} {a : Nat → Nat → Nat} {W : Nat} {tx : Nat → tx_T} (h : Cv μ T S a W tx) {c i v : Nat} (hv : VE T S c i v) : Cv (am_ui μ 316 c i (nI v)) T S (st a c i v) W tx := by
  obtain ⟨h1, h2, h3, h4, h5, h6, h7, h8⟩ := h
  have e : ∀ k r j, k ≠ 316 → (am_ui μ 316 c i (nI v)).1 k r j = μ.1 k r j := fun k r j q => by rw [ui1, if_neg (fun z => q z.1)]
  have e2 : ∀ c' j, μ.1 316 c' j = nI (a c' j) → (am_ui μ 316 c i (nI v)).1 316 c' j = nI (st a c i v c' j) := fun c' j q => by
    rw [ui1]
    by_cases z : c' = c ∧ j = i
    · rw [if_pos ⟨rfl, z.1, z.2⟩, z.1, z.2, st_eq]
    · rw [if_neg (fun y => z ⟨y.2.1, y.2.2⟩), st_ne a v z, q]
  exact ⟨BD_st h1 hv, (e _ _ _ (by omega)).trans h2, (e _ _ _ (by omega)).trans h3, (e _ _ _ (by omega)).trans h4, fun c' j hc hj => e2 c' j (h5 c' j hc hj), fun c' j hc hc2 hj => e2 c' j (h6 c' j hc hc2 hj), fun w hw => ⟨(h7 w hw).1, (e _ _ _ (by omega)).trans (h7 w hw).2.1, fun j hj => (e _ _ _ (by omega)).trans ((h7 w hw).2.2 j hj)⟩, fun t ht => (e _ _ _ (by omega)).trans (h8 t ht)⟩
theorem Rv_set {μ : am_M} {T S : Nat} {a : Nat → Nat → Nat} {W : Nat} {tx : Nat → tx_T} (h : Rv μ T S a W tx) {c i v : Nat} (hv : VE T S c i v) : Rv (am_ui μ 160 0 (pl c i) (nI v)) T S (st a c i v) W tx := by
  obtain ⟨h1, h2, h3, h4, h5, h6, h7, h8⟩ := h
  have hT := h1.1
  have hS := h1.2.1
  have e : ∀ k r j, k ≠ 160 → (am_ui μ 160 0 (pl c i) (nI v)).1 k r j = μ.1 k r j := fun k r j q => by rw [ui1, if_neg (fun z => q z.1)]
  have e2 : ∀ c' j p', (c' = c ∧ j = i ↔ p' = pl c i) → μ.1 160 0 p' = nI (a c' j) → (am_ui μ 160 0 (pl c i) (nI v)).1 160 0 p' = nI (st a c i v c' j) := fun c' j p' z q => by
    rw [ui1]
    by_cases y : c' = c ∧ j = i
    · rw [if_pos ⟨rfl, rfl, z.mp y⟩, y.1, y.2, st_eq]
    · rw [if_neg (fun x => y (z.mpr x.2.2)), st_ne a v y, q]
  have hne : ∀ c' j, c' = 3 ∨ c' = 4 ∨ c' = 7 ∨ c' = 8 → st a c i v c' j = a c' j := fun c' j q => by
    unfold VE at hv
    exact st_ne a v (by omega)
  refine ⟨BD_st h1 hv, (e _ _ _ (by omega)).trans h2, (e _ _ _ (by omega)).trans h3, (e _ _ _ (by omega)).trans h4, fun j hj => ⟨e2 0 j _ ?_ (h5 j hj).1, e2 1 j _ ?_ (h5 j hj).2.1, e2 2 j _ ?_ (h5 j hj).2.2.1, ?_⟩, fun s hs => ⟨?_, e2 5 s _ ?_ (h6 s hs).2.1, e2 6 s _ ?_ (h6 s hs).2.2.1, ?_, ?_⟩, fun w hw => ⟨(h7 w hw).1, (e _ _ _ (by omega)).trans (h7 w hw).2.1, fun j hj => (e _ _ _ (by omega)).trans ((h7 w hw).2.2 j hj)⟩, (e _ _ _ (by omega)).trans h8⟩
  · unfold VE at hv; unfold pl; rcases hv with hv | hv | hv | hv | hv <;> obtain ⟨rfl, q1, q2⟩ := hv <;> simp <;> omega
  · unfold VE at hv; unfold pl; rcases hv with hv | hv | hv | hv | hv <;> obtain ⟨rfl, q1, q2⟩ := hv <;> simp <;> omega
  · unfold VE at hv; unfold pl; rcases hv with hv | hv | hv | hv | hv <;> obtain ⟨rfl, q1, q2⟩ := hv <;> simp <;> omega
  · rw [hne 3 j (by omega)]; exact (e _ _ _ (by omega)).trans (h5 j hj).2.2.2
  · rw [hne 4 s (by omega)]; exact (e _ _ _ (by omega)).trans (h6 s hs).1
  · unfold VE at hv; unfold pl; rcases hv with hv | hv | hv | hv | hv <;> obtain ⟨rfl, q1, q2⟩ := hv <;> simp <;> omega
  · unfold VE at hv; unfold pl; rcases hv with hv | hv | hv | hv | hv <;> obtain ⟨rfl, q1, q2⟩ := hv <;> simp <;> omega
  · rw [hne 7 s (by omega)]; exact (e _ _ _ (by omega)).trans (h6 s hs).2.2.2.1
  · rw [hne 8 s (by omega)]; exact (e _ _ _ (by omega)).trans (h6 s hs).2.2.2.2
