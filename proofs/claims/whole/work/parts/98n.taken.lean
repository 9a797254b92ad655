/-! taken -/
def un_ : Nat → Nat → Nat → Bool
  | 0, _, _ => false
  | n + 1, a, k => if a = k then true else if a = 0 then false else un_ n (up_ a) k
theorem iu_neg (N : Nat) {k : Nat} (hk : k < 8) {μ : am_M} : ∀ (n m j : Nat), j + n = 8 → n + 1 ≤ m → f_X3_isUnder_5_lp N m (nI k) (-1) (nI j) μ = some (nI 0, μ)
  | n, 0, j, h1, h2 => by omega
  | n, m + 1, j, h1, h2 => by
    have hk1 : ¬ (-1 : Int32) = nI k := fun z => absurd (nI_pos' (n := k) (by omega)) (by rw [← z]; decide)
    unfold f_X3_isUnder_5_lp f_X3_isUnder_5 f_X3_isUnder_28
    rw [if_neg hk1, if_neg hk1, li_0, z_0, li_8]
    cases n with
    | zero => rw [if_pos ((nI_leI (by omega) (by omega)).mpr (by omega))]
    | succ n =>
      rw [if_neg (fun z => by have := (nI_leI (by omega) (by omega)).mp z; omega)]
      have ea : f_X3_aboveOf N (-1) μ = some (-1, μ) := by
        unfold f_X3_aboveOf f_X3_aboveOf_0
        rw [w_cls, bd_some, gI, if_neg (by decide)]
      rw [ea, bd_some, nI_1]
      exact iu_neg N hk n m (j + 1) (by omega) (by omega)
theorem iu_lp (N : Nat) {k : Nat} (hk : k < 8) {μ : am_M} : ∀ (n m j a : Nat), a < 8 → a ≤ n → j + a ≤ 7 → n + 10 ≤ m → f_X3_isUnder_5_lp N m (nI k) (nI a) (nI j) μ = some (b2 (un_ (n + 1) a k), μ)
  | n, 0, j, a, h1, h2, h3, h4 => by omega
  | n, m + 1, j, a, h1, h2, h3, h4 => by
    unfold f_X3_isUnder_5_lp f_X3_isUnder_5 f_X3_isUnder_28 un_
    rw [if_neg (show ¬ (8 : Int32) ≤ nI j from fun z => by rw [li_8] at z; have := (nI_leI (by omega) (by omega)).mp z; omega)]
    by_cases q : a = k
    · rw [if_pos (by rw [q]), if_pos (by rw [q]), if_pos q, li_1, z_1]
      rfl
    · rw [if_neg (fun z => q ((nI_eq (by omega) (by omega)).mp z)), if_neg q, aboveOf_c N h1, bd_some]
      by_cases r : a = 0
      · subst r
        rw [if_pos rfl, show aO 0 = -1 from by decide, nI_1]
        have := iu_neg N hk (μ := μ) (8 - (j + 1)) m (j + 1) (by omega) (by omega)
        rw [this]
        rfl
      · have hu := up_lt a h1 r
        rw [if_neg r, aO_up a h1 r, nI_1]
        cases n with
        | zero => omega
        | succ n =>
          exact iu_lp N hk n m (j + 1) (up_ a) (by omega) (by omega) (by omega) (by omega)
theorem above_r (N : Nat) {a : Nat} (ha : a < 8) (ν : am_M) : f_X10_above N (nI a) ν = some (nI (up_ a), ν) := by
  unfold f_X10_above f_X10_above_0 f_X10_above_10
  rcases (by omega : a = 0 ∨ a = 1 ∨ a = 2 ∨ a = 3 ∨ a = 4 ∨ a = 5 ∨ a = 6 ∨ a = 7) with r | r | r | r | r | r | r | r <;> subst r <;> rfl
theorem tk_lp (N : Nat) {k s b v : Nat} (hk : k < 8) (hs : s < 6) (hb : b < 50) {ν : am_M} (h1 : ν.1 211 0 s = nI b) (h2 : ν.1 206 0 b = nI v) : ∀ (n m a : Nat), a < 8 → a ≤ n → n + 2 ≤ m → f_X10_taken_58_lp N m (nI s) (nI k) (nI a) ν = some (if un_ (n + 1) a k = true then nI v else -12, ν)
  | n, 0, a, g1, g2, g3 => by omega
  | n, m + 1, a, g1, g2, g3 => by
    unfold f_X10_taken_58_lp f_X10_taken_58 f_X10_taken_75 un_
    by_cases q : a = k
    · rw [if_pos (by rw [q]), if_pos (by rw [q]), gd_nI (by omega) (by omega), h1]
      unfold f_X10_kindOf f_X10_kindOf_0
      rw [gd_nI (by omega) (by omega), h2, bd_some, if_pos q, if_pos rfl]
    · rw [if_neg (show ¬ nI a = nI k from fun z => q ((nI_eq (by omega) (by omega)).mp z)), if_neg (show ¬ nI a = nI k from fun z => q ((nI_eq (by omega) (by omega)).mp z)), if_neg q]
      by_cases r : a = 0
      · subst r
        rw [if_pos (by decide), if_pos rfl, if_neg (by decide)]
      · have hu := up_lt a g1 r
        rw [if_neg (nI_nle (by omega) (by omega)), if_neg r, above_r N g1, bd_some]
        cases n with
        | zero => omega
        | succ n => exact tk_lp N hk hs hb h1 h2 n m (up_ a) (by omega) (by omega) (by omega)
theorem taken_ag (N : Nat) (hN : 130 ≤ N) (x y : Int32) : AG (f_X9_taken N x y) (f_X10_taken N x y) := by
  intro μ ν h
  have no : ∀ v : Int32, ∃ r μ' ν', some (v, μ) = some (r, μ') ∧ some (v, ν) = some (r, ν') ∧ AL μ' ν' ∧ cO μ μ' ∧ rO ν ν' := fun v => ⟨_, μ, ν, rfl, rfl, h, cO.rf, rO.rf⟩
  have h0 := h
  obtain ⟨hA, hB, ⟨K, kd, n, hK, hT, hH⟩⟩ := h
  have hK50 := hK.1
  unfold f_X9_taken f_X9_taken_0 f_X10_taken f_X10_taken_0
  rw [isShelf_c, isShelf_r, bd_some, bd_some, gI, gI]
  by_cases c1 : IT 6 x
  · rw [if_pos c1, if_pos c1]
    obtain ⟨s, hs, rfl⟩ := IT_ex (by omega) c1
    simp only [w_cls, w_ref N y 0 7 0 7 (by decide) (by decide), bd_some, gI]
    by_cases c2 : 0 ≤ y ∧ y ≤ 7
    · rw [if_pos c2, if_pos c2]
      obtain ⟨k, hk, rfl⟩ := nI_of2 (M := 7) (n := 7) (by decide) (Int32.not_lt.mpr c2.1) c2.2
      have hk8 : k < 8 := by omega
      unfold f_X4_heldOn f_X4_heldOn_0 f_X4_sizeOn f_X4_sizeOn_0
      rw [isShelf_c, bd_some, gI, if_pos c1, gd_nI (by omega) (by omega), bd_some, isShelf_c, bd_some, gI, if_pos c1]
      repeat rw [gd_nI (n := 6) (by omega) (by omega)]
      unfold f_X9_taken_64 f_X3_isUnder f_X3_isUnder_0
      rcases hH s hs with ⟨a1, a2⟩ | ⟨b, hb, a1, a2, a3⟩ | ⟨c, m1, k1, k2, k3, k4, k5, k6, k7⟩
      · rw [a1, a2, if_pos rfl, if_neg (by decide)]
        exact no _
      · obtain ⟨q1, q2, q3⟩ := hK.2.2.2 b hb
        rw [a1, a2, a3, if_neg (by decide), if_pos (by decide), if_pos (nI_pos' (by omega)), if_pos (by rw [li_50]; exact (nI_ltI (by omega) (by omega)).mpr (by omega)), bd_some]
        unfold f_X3_kindOf f_X3_kindOf_0 f_X10_kindOf f_X10_kindOf_0
        rw [has_c N hK50 hK.2.1, bd_some, gI, if_pos (IT_nI (by omega) hb), gd_nI (by omega) (by omega), gd_nI (by omega) (by omega), q2, q3, bd_some, bd_some, li_0, iu_lp N hk8 7 N 0 (kd b) (by omega) (by omega) (by omega) (by omega), tk_lp N hk8 hs (by omega) a3 q3 7 N (kd b) (by omega) (by omega) (by omega), bd_some]
        cases un_ (7 + 1) (kd b) k with
        | true =>
          rw [if_neg (by decide), if_pos rfl]
          exact no _
        | false =>
          rw [if_pos (by decide), if_neg (by decide)]
          exact no _
      · have e1 : ¬ nI c = -1 := by rcases (by omega : c = 0 ∨ c = 1 ∨ c = 2 ∨ c = 3 ∨ c = 4) with r | r | r | r | r <;> subst r <;> decide
        have e2 : ¬ nI c = 5 := by rcases (by omega : c = 0 ∨ c = 1 ∨ c = 2 ∨ c = 3 ∨ c = 4) with r | r | r | r | r <;> subst r <;> decide
        rw [k3, k5, if_neg e1, if_neg e2, if_pos (nI_pos' (by omega)), if_neg (by rw [li_50, nI_ltI (by omega) (by omega)]; omega), li_0, iu_neg N hk8 8 N 0 (by omega) (by omega), bd_some, if_pos rfl]
        exact no _
    · rw [if_neg c2, if_neg c2]; exact no _
  · rw [if_neg c1, if_neg c1]; exact no _
