/-! of -/
theorem of_q (N : Nat) {T S : Nat} {a : Nat → Nat → Nat} {W : Nat} {tx : Nat → tx_T} (x y : Int32) : Q2 T S a W tx (f_X9_of N x y) (f_X10_of N x y) := by
  intro μ ν hC hR
  have hT6 := hC.1.1
  have hS5 := hC.1.2.1
  unfold f_X9_of f_X9_of_0 f_X10_of f_X10_of_0
  simp only [w_cls, w_ref N y 0 3 0 3 (by decide) (by decide), bd_some, gI]
  by_cases c : 0 ≤ y ∧ y ≤ 3
  · rw [if_pos c, if_pos c]
    simp only [hasThing_c N hC.2.1, isThing_r N hR.2.1, bd_some, gI]
    by_cases d : IT T x
    · rw [if_pos d, if_pos d]
      obtain ⟨t, ht, rfl⟩ := IT_ex (by omega) d
      obtain ⟨j, hj, rfl⟩ := nI_of2 (M := 3) (n := 3) (by decide) (Int32.not_lt.mpr c.1) c.2
      obtain ⟨q1, q2, q3, q4⟩ := hR.2.2.2.2.1 t ht
      rw [Int32.zero_add, at_cls N (by omega) (by omega), bd_some, hC.2.2.2.2.1 j t (by omega) ht]
      by_cases e : j = 3
      · subst e
        rw [if_pos (by decide), gd_nI (by omega) (by omega), q4]
        exact ⟨_, _, _, rfl, fr.rf, rfl, fr.rf⟩
      · rw [if_neg (by rw [li_3]; exact fun z => e ((nI_eq (by omega) (by omega)).mp z)), li_6, pk_mul, nI_add, gd_nI (by omega) (by omega)]
        have : ν.1 160 0 (6 * j + t) = nI (a j t) := by
          rcases (by omega : j = 0 ∨ j = 1 ∨ j = 2) with r | r | r <;> subst r
          · rw [show 6 * 0 + t = t by omega]; exact q1
          · exact q2
          · exact q3
        rw [this]
        exact ⟨_, _, _, rfl, fr.rf, rfl, fr.rf⟩
    · rw [if_neg d, if_neg d]; exact ⟨_, _, _, rfl, fr.rf, rfl, fr.rf⟩
  · rw [if_neg c, if_neg c]
    simp only [hasSort_c N hC.2.2.1, isSort_r N hR.2.2.1, bd_some, gI]
    by_cases d : IT S x
    · obtain ⟨s, hs, rfl⟩ := IT_ex (by omega) d
      obtain ⟨q1, q2, q3, q4, q5⟩ := hR.2.2.2.2.2.1 s hs
      have col : ∀ k, 4 ≤ k → k ≤ 8 → μ.1 316 k s = nI (a k s) := fun k h1 h2 => hC.2.2.2.2.2.1 k s h1 h2 hs
      rw [if_pos d]
      by_cases e : 10 ≤ y ∧ y ≤ 14
      · rw [if_pos e, if_pos d]
        obtain ⟨j, hj, rfl⟩ := nI_of2 (M := 14) (n := 14) (by decide) (fun q => absurd (Int32.lt_of_lt_of_le q (show (0 : Int32) ≤ 10 by decide)) (Int32.not_lt.mpr e.1)) e.2
        have hj10 : 10 ≤ j := by
          have := e.1
          rw [li_10, nI_leI (by omega) (by omega)] at this
          exact this
        rcases (by omega : j = 10 ∨ j = 11 ∨ j = 12 ∨ j = 13 ∨ j = 14) with r | r | r | r | r <;> subst r
        · rw [if_neg (show ¬ nI 10 = 12 by decide), if_pos (show nI 10 = 10 by decide), show (4 : Int32) + nI 10 - 10 = nI 4 by decide, at_cls N (by omega) (by omega), bd_some, gd_nI (by omega) (by omega), q1, col 4 (by omega) (by omega)]
          exact ⟨_, _, _, rfl, fr.rf, rfl, fr.rf⟩
        · rw [if_neg (show ¬ nI 11 = 12 by decide), if_neg (show ¬ nI 11 = 10 by decide), if_pos (show nI 11 = 11 by decide), show (4 : Int32) + nI 11 - 10 = nI 5 by decide, at_cls N (by omega) (by omega), bd_some, purseOf_r N hR hs, bd_some, col 5 (by omega) (by omega)]
          exact ⟨_, _, _, rfl, fr.rf, rfl, fr.rf⟩
        · rw [if_pos (show nI 12 = 12 by decide), if_neg (show ¬ nI 12 = 10 by decide), if_neg (show ¬ nI 12 = 11 by decide), if_pos (show nI 12 = 12 by decide), pia_cls N (by omega), bd_some, pia_r N hR hs, bd_some, col 6 (by omega) (by omega), col 7 (by omega) (by omega), pk_mul, nI_add]
          exact ⟨_, _, _, rfl, fr.rf, rfl, fr.rf⟩
        · rw [if_neg (show ¬ nI 13 = 12 by decide), if_neg (show ¬ nI 13 = 10 by decide), if_neg (show ¬ nI 13 = 11 by decide), if_neg (show ¬ nI 13 = 12 by decide), if_pos (show nI 13 = 13 by decide), show (4 : Int32) + nI 13 - 10 = nI 7 by decide, at_cls N (by omega) (by omega), bd_some, gd_nI (by omega) (by omega), q4, col 7 (by omega) (by omega)]
          exact ⟨_, _, _, rfl, fr.rf, rfl, fr.rf⟩
        · rw [if_neg (show ¬ nI 14 = 12 by decide), if_neg (show ¬ nI 14 = 10 by decide), if_neg (show ¬ nI 14 = 11 by decide), if_neg (show ¬ nI 14 = 12 by decide), if_neg (show ¬ nI 14 = 13 by decide), if_pos (show nI 14 = 14 by decide), show (4 : Int32) + nI 14 - 10 = nI 8 by decide, at_cls N (by omega) (by omega), bd_some, gd_nI (by omega) (by omega), q5, col 8 (by omega) (by omega)]
          exact ⟨_, _, _, rfl, fr.rf, rfl, fr.rf⟩
      · have ne : ∀ k : Int32, 10 ≤ k ∧ k ≤ 14 → ¬ y = k := fun k hk z => e (by rw [z]; exact hk)
        rw [if_neg e, if_pos d, if_neg (ne 10 (by decide)), if_neg (ne 11 (by decide)), if_neg (ne 12 (by decide)), if_neg (ne 13 (by decide)), if_neg (ne 14 (by decide))]
        exact ⟨_, _, _, rfl, fr.rf, rfl, fr.rf⟩
    · rw [if_neg d]
      by_cases e : 10 ≤ y ∧ y ≤ 14
      · rw [if_pos e, if_neg d]; exact ⟨_, _, _, rfl, fr.rf, rfl, fr.rf⟩
      · rw [if_neg e, if_neg d]; exact ⟨_, _, _, rfl, fr.rf, rfl, fr.rf⟩
