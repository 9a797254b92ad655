/-! the history -/
abbrev hE : Type := Nat → Nat × Nat × Nat × Nat
def HC (μ : am_M) (d u : Nat) (E : hE) : Prop := μ.1 2 0 5 = nI d ∧ μ.1 2 0 6 = nI u ∧ d + u ≤ 40 ∧ ∀ j, j < d + u → μ.1 33 0 j = nI (E j).1 ∧ μ.1 34 0 j = nI (E j).2.1 ∧ μ.1 35 0 j = nI (E j).2.2.1 ∧ μ.1 36 0 j = nI (E j).2.2.2
def HQ (μ : am_M) (d u : Nat) (E : hE) : Prop := μ.1 10 0 5 = nI d ∧ μ.1 10 0 4 = nI (d + u) ∧ d + u ≤ 40 ∧ ∀ j, j < d + u → μ.1 161 0 j = nI (pl (E j).1 (E j).2.1) ∧ μ.1 162 0 j = nI (E j).2.2.1 ∧ μ.1 163 0 j = nI (E j).2.2.2
def HV (T S d u : Nat) (E : hE) : Prop := ∀ j, j < d + u → VE T S (E j).1 (E j).2.1 (E j).2.2.1 ∧ VE T S (E j).1 (E j).2.1 (E j).2.2.2
def p_h (k i : Nat) : Bool := k == 33 || k == 34 || k == 35 || k == 36 || (k == 2 && (i == 5 || i == 6))
def p_hr (k i : Nat) : Bool := k == 161 || k == 162 || k == 163 || (k == 10 && (i == 4 || i == 5))
theorem Cv_h {μ μ' : am_M} {T S : Nat} {a : Nat → Nat → Nat} {W : Nat} {tx : Nat → tx_T} (h : Cv μ T S a W tx) (hf : fr p_h μ μ') : Cv μ' T S a W tx := by
  obtain ⟨h1, h2, h3, h4, h5, h6, h7, h8⟩ := h
  exact ⟨h1, (hf.1 1 0 1 rfl).trans h2, (hf.1 1 0 2 rfl).trans h3, (hf.1 4 0 2 rfl).trans h4, fun c i hc hi => (hf.1 316 c i rfl).trans (h5 c i hc hi), fun c i hc hc2 hi => (hf.1 316 c i rfl).trans (h6 c i hc hc2 hi), fun w hw => ⟨(h7 w hw).1, (hf.1 65 0 w rfl).trans (h7 w hw).2.1, fun j hj => (hf.1 364 w j rfl).trans ((h7 w hw).2.2 j hj)⟩, fun t ht => (hf.1 384 t 0 rfl).trans (h8 t ht)⟩
theorem Rv_h {μ μ' : am_M} {T S : Nat} {a : Nat → Nat → Nat} {W : Nat} {tx : Nat → tx_T} (h : Rv μ T S a W tx) (hf : fr p_hr μ μ') : Rv μ' T S a W tx := by
  obtain ⟨h1, h2, h3, h4, h5, h6, h7, h8⟩ := h
  exact ⟨h1, (hf.1 10 0 6 rfl).trans h2, (hf.1 10 0 8 rfl).trans h3, (hf.1 10 0 15 rfl).trans h4, fun i hi => ⟨(hf.1 160 0 i rfl).trans (h5 i hi).1, (hf.1 160 0 _ rfl).trans (h5 i hi).2.1, (hf.1 160 0 _ rfl).trans (h5 i hi).2.2.1, (hf.1 167 0 i rfl).trans (h5 i hi).2.2.2⟩, fun s hs => ⟨(hf.1 169 0 s rfl).trans (h6 s hs).1, (hf.1 160 0 _ rfl).trans (h6 s hs).2.1, (hf.1 160 0 _ rfl).trans (h6 s hs).2.2.1, (hf.1 170 0 s rfl).trans (h6 s hs).2.2.2.1, (hf.1 171 0 s rfl).trans (h6 s hs).2.2.2.2⟩, fun w hw => ⟨(h7 w hw).1, (hf.1 177 0 w rfl).trans (h7 w hw).2.1, fun j hj => (hf.1 176 0 _ rfl).trans ((h7 w hw).2.2 j hj)⟩, (hf.1 10 0 29 rfl).trans h8⟩
theorem st_same {a : Nat → Nat → Nat} {c i v : Nat} (h : a c i = v) : st a c i v = a := by
  funext c' i'
  by_cases q : c' = c ∧ i' = i
  · rw [q.1, q.2, st_eq, h]
  · exact st_ne a v q
theorem at_v {μ : am_M} {T S : Nat} {a : Nat → Nat → Nat} {W : Nat} {tx : Nat → tx_T} (h : Cv μ T S a W tx) {c i v : Nat} (hv : VE T S c i v) : μ.1 316 c i = nI (a c i) := by
  unfold VE at hv
  rcases hv with hv | hv | hv | hv | hv
  · exact h.2.2.2.2.1 c i (by omega) hv.2.1
  · exact h.2.2.2.2.1 c i (by omega) hv.2.1
  · exact h.2.2.2.2.1 c i (by omega) hv.2.1
  · exact h.2.2.2.2.2.1 c i (by omega) (by omega) hv.2.1
  · exact h.2.2.2.2.2.1 c i (by omega) (by omega) hv.2.1
theorem rat_v {μ : am_M} {T S : Nat} {a : Nat → Nat → Nat} {W : Nat} {tx : Nat → tx_T} (h : Rv μ T S a W tx) {c i v : Nat} (hv : VE T S c i v) : μ.1 160 0 (pl c i) = nI (a c i) := by
  unfold VE at hv
  rcases hv with hv | hv | hv | hv | hv <;> obtain ⟨rfl, q1, q2⟩ := hv
  · exact (h.2.2.2.2.1 i q1).1
  · exact (h.2.2.2.2.1 i q1).2.1
  · exact (h.2.2.2.2.1 i q1).2.2.1
  · exact (h.2.2.2.2.2.1 i q1).2.1
  · exact (h.2.2.2.2.2.1 i q1).2.2.1
theorem VE_b {T S c i v : Nat} (hT : T ≤ 6) (hS : S ≤ 5) (h : VE T S c i v) : c < 9 ∧ i < 6 ∧ v ≤ 999 ∧ pl c i < 28 := by
  unfold VE at h
  unfold pl
  rcases h with h | h | h | h | h <;> obtain ⟨rfl, q1, q2⟩ := h <;> simp <;> omega
theorem write_v (N : Nat) {c i : Nat} (hc : c < 9) (hi : i < 6) (x : Int32) (μ : am_M) : f_X5_write N (nI c) (nI i) x μ = some ((), am_ui μ 316 c i x) := by
  unfold f_X5_write f_X5_write_0
  rw [w_cls, bd_some, gI, if_pos (by rw [li_0, li_8]; exact ⟨nI_pos' (by omega), (nI_leI (by omega) (by omega)).mpr (by omega)⟩), w_cls, bd_some, gI, if_pos (by rw [li_0, li_5]; exact ⟨nI_pos' (by omega), (nI_leI (by omega) (by omega)).mpr (by omega)⟩), gd_nI (by omega) (by omega), gd_nI (by omega) (by omega)]
  simp only [am_nme]
def Eput (E : hE) (d c i b v : Nat) : hE := fun j => if j = d then (c, i, b, v) else E j
theorem note13_c (N : Nat) {μ : am_M} {d u : Nat} {E : hE} (h : μ.1 2 0 5 = nI d) (hd : d < 40) (hE : ∀ j, j < d → μ.1 33 0 j = nI (E j).1 ∧ μ.1 34 0 j = nI (E j).2.1 ∧ μ.1 35 0 j = nI (E j).2.2.1 ∧ μ.1 36 0 j = nI (E j).2.2.2) (c i b v : Nat) :
    ∃ μ', f_X1_note_13 N (nI c) (nI i) (nI b) (nI v) μ = some ((), μ') ∧ fr p_h μ μ' ∧ HC μ' (d + 1) 0 (Eput E d c i b v) := by
  unfold f_X1_note_13
  rw [h, gd_nI (by omega) (by omega)]
  simp only [am_nme, ui1, Nat.reduceEqDiff, false_and, if_false, h]
  rw [gd_nI (by omega) (by omega), gd_nI (by omega) (by omega), gd_nI (by omega) (by omega), nI_1]
  refine ⟨_, rfl, (((((fr.rf.ui rfl).ui rfl).ui rfl).ui rfl).ui rfl).ui rfl, by simp [ui1], by simp [ui1]; rfl, by omega, fun j hj => ?_⟩
  unfold Eput
  by_cases q : j = d
  · subst q
    simp [ui1]
  · have := hE j (by omega)
    simp only [ui1, Nat.reduceEqDiff, false_and, if_false, q, and_false]
    exact this
