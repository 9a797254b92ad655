/-! guards; the queries of one sort; what is wanted -/
abbrev IT (T : Nat) (x : Int32) : Prop := 0 ≤ x ∧ x ≤ nI T - 1
theorem IT_ex {T : Nat} {x : Int32} (hT : T ≤ 100) (h : IT T x) : ∃ t, t < T ∧ x = nI t := by
  obtain ⟨h1, h2⟩ := h
  obtain ⟨j, hj, e⟩ := nI_of (Int32.not_lt.mpr h1)
  subst e
  cases T with
  | zero => exact absurd (Int32.le_trans h1 h2) (by decide)
  | succ T =>
    rw [nI_pred, nI_leI hj (by omega)] at h2
    exact ⟨j, by omega, rfl⟩
theorem IT_nI {T t : Nat} (hT : T ≤ 100) (h : t < T) : IT T (nI t) := by
  refine ⟨nI_pos' (by omega), ?_⟩
  cases T with
  | zero => omega
  | succ T => rw [nI_pred, nI_leI (by omega) (by omega)]; omega
theorem gI (c : Prop) [Decidable c] {α : Type} (A B : α) : (if (if c then nI 1 else nI 0) = (0 : Int32) then A else B) = if c then B else A := by
  by_cases h : c
  · rw [if_pos h, if_pos h, if_neg (by decide)]
  · rw [if_neg h, if_neg h, if_pos (by decide)]
theorem hasThing_c (N : Nat) {μ : am_M} {T : Nat} (h : μ.1 1 0 1 = nI T) (x : Int32) : f_X5_hasThing N x μ = some (if IT T x then nI 1 else nI 0, μ) := by
  unfold f_X5_hasThing f_X5_hasThing_0
  rw [h, w_cls, bd_some, z_ite]
theorem hasSort_c (N : Nat) {μ : am_M} {S : Nat} (h : μ.1 1 0 2 = nI S) (x : Int32) : f_X5_hasSort N x μ = some (if IT S x then nI 1 else nI 0, μ) := by
  unfold f_X5_hasSort f_X5_hasSort_0
  rw [h, w_cls, bd_some, z_ite]
theorem isThing_r (N : Nat) {μ : am_M} {T : Nat} (h : μ.1 10 0 6 = nI T) (x : Int32) : f_X10_isThing N x μ = some (if IT T x then nI 1 else nI 0, μ) := by
  unfold f_X10_isThing f_X10_isThing_0
  rw [h, w_ref N x 0 (nI T - 1) _ _ (by decide) rfl, bd_some, z_ite]
theorem isSort_r (N : Nat) {μ : am_M} {S : Nat} (h : μ.1 10 0 8 = nI S) (x : Int32) : f_X10_isSort N x μ = some (if IT S x then nI 1 else nI 0, μ) := by
  unfold f_X10_isSort f_X10_isSort_0
  rw [h, w_ref N x 0 (nI S - 1) _ _ (by decide) rfl, bd_some, z_ite]
theorem NB_ex (w : Nat → Nat → Nat) (c p : Nat → Nat) (T pu bo : Nat) : ∃ b, NB w c p T pu bo b := by
  have h : ∀ b, b ≤ 4 ^ T → ∃ cur, Bst w c p T (fun b => bc c T b ≤ pu ∧ bc p T b ≤ bo) (fun z => z < b) cur := by
    intro b
    induction b with
    | zero => exact fun _ => ⟨none, fun z hz => by omega⟩
    | succ b ih =>
      intro hb
      obtain ⟨cur, hc⟩ := ih (by omega)
      by_cases q : bc c T b ≤ pu ∧ bc p T b ≤ bo
      · cases cur with
        | none => exact ⟨some b, Bst_up (by omega) hc (some b) (fun z => absurd q z) (fun _ => ⟨fun b0 h0 => (by cases h0), fun _ => rfl⟩)⟩
        | some b0 =>
          by_cases r : beats w c p T b b0
          · exact ⟨some b, Bst_up (by omega) hc (some b) (fun z => absurd q z) (fun _ => ⟨fun b1 h1 => (by cases h1; exact Or.inl ⟨r, rfl⟩), fun z => (by cases z)⟩)⟩
          · exact ⟨some b0, Bst_up (by omega) hc (some b0) (fun _ => rfl) (fun _ => ⟨fun b1 h1 => (by cases h1; exact Or.inr ⟨r, rfl⟩), fun z => (by cases z)⟩)⟩
      · exact ⟨cur, Bst_up (by omega) hc cur (fun _ => rfl) (fun z => absurd z q)⟩
  obtain ⟨cur, hc⟩ := h (4 ^ T) (Nat.le_refl _)
  have h7 := Bst_congr hc (py' := fun b => bc c T b ≤ pu ∧ bc p T b ≤ bo) (X' := fun _ => True) (fun _ _ => Iff.rfl) (fun z hz => ⟨fun _ => trivial, fun _ => hz⟩)
  cases cur with
  | none =>
    exfalso
    have h0 : ∀ (i : Nat) (f : Nat → Nat), bc f i 0 = 0 := by
      intro i f
      induction i with
      | zero => rfl
      | succ i ih => show bc f i (0 / 4) + (0 % 4) * f i = 0; simp [ih]
    exact h7 0 trivial (Nat.pow_pos (by decide)) ⟨by rw [h0]; exact Nat.zero_le _, by rw [h0]; exact Nat.zero_le _⟩
  | some b => exact ⟨b, h7⟩
theorem bdg6 {T : Nat} (hT : T ≤ 6) (q : Nat) : bdg T q < 1000000 := by
  have h1 := bdg_lt T q
  have h2 : 10 ^ T ≤ 10 ^ 6 := Nat.pow_le_pow_right (by decide) hT
  have h3 : (10 : Nat) ^ 6 = 1000000 := by decide
  omega
theorem rem_nI {a d : Nat} (ha : a < 2147483648) (h0 : 0 < d) (hd : d < 2147483648) : am_rem (nI a) (nI d) = nI (a % d) := pk_rem ha h0 hd
theorem bdg_d (i q : Nat) : bdg (i + 1) q / 10 = bdg i (q / 4) ∧ bdg (i + 1) q % 10 = q % 4 := by
  have : bdg (i + 1) q = bdg i (q / 4) * 10 + q % 4 := rfl
  omega
theorem dig_lp (N t : Nat) (μ : am_M) : ∀ (k j q m : Nat), j = t + k → k + 1 ≤ m → j + 1 ≤ 6 → f_X5_digitOf_10_lp N m (nI t) (nI (bdg (j + 1) q)) (nI j) μ = some (nI (q / 4 ^ k % 4), μ)
  | k, j, q, 0, h1, h2, h3 => by omega
  | 0, j, q, m + 1, h1, h2, h3 => by
    have hb := bdg6 (T := j + 1) h3 q
    unfold f_X5_digitOf_10_lp f_X5_digitOf_10
    rw [if_pos ((nI_leI (by omega) (by omega)).mpr (by omega)), li_10, rem_nI (by omega) (by decide) (by decide), (bdg_d j q).2]
    simp
  | k + 1, j, q, m + 1, h1, h2, h3 => by
    have hb := bdg6 (T := j + 1) h3 q
    unfold f_X5_digitOf_10_lp f_X5_digitOf_10
    rw [if_neg (fun z => by have := (nI_leI (by omega) (by omega)).mp z; omega), li_10, pk_div (by omega) (by decide) (by decide), (bdg_d j q).1]
    simp only [am_nme]
    cases j with
    | zero => omega
    | succ j =>
      have e : nI (j + 1) + -1 = nI j := pk_m1 j
      rw [e, dig_lp N t μ k j (q / 4) m (by omega) (by omega) (by omega), div44]
theorem digitOf_c (N : Nat) (hN : 130 ≤ N) {μ : am_M} {T : Nat} (h : μ.1 1 0 1 = nI T) (hT : T ≤ 6) {t : Nat} (ht : t < T) (b : Nat) : f_X5_digitOf N (nI (bdg T b)) (nI t) μ = some (nI (dg T b t), μ) := by
  unfold f_X5_digitOf f_X5_digitOf_0
  cases T with
  | zero => omega
  | succ T =>
    rw [h, nI_pred]
    simp only [am_nme]
    rw [dig_lp N t μ (T - t) T b N (by omega) (by omega) (by omega)]
    rfl
theorem dn_lp (N : Nat) {T : Nat} (hT : T ≤ 6) {b : Nat} {μ : am_M} (h6 : μ.1 10 0 6 = nI T) (h : ∀ i, i < T → μ.1 185 0 i = nI (dg T b i)) : ∀ (n m t : Nat), t + n = T → n + 1 ≤ m → f_X10_digitsNow_4_lp N m (nI (bdg t (b / 4 ^ n))) (nI t) μ = some (nI (bdg T b), μ)
  | n, 0, t, h1, h2 => by omega
  | 0, m + 1, t, h1, h2 => by
    unfold f_X10_digitsNow_4_lp f_X10_digitsNow_4
    rw [h6, if_pos ((nI_leI (by omega) (by omega)).mpr (by omega))]
    have : t = T := by omega
    subst this; simp
  | n + 1, m + 1, t, h1, h2 => by
    unfold f_X10_digitsNow_4_lp f_X10_digitsNow_4
    rw [h6, if_neg (fun z => by have := (nI_leI (by omega) (by omega)).mp z; omega), gd_nI (by omega) (by omega), h t (by omega), li_10, pk_mul, nI_add, nI_1]
    simp only [am_nme]
    have e : 10 * bdg t (b / 4 ^ (n + 1)) + dg T b t = bdg (t + 1) (b / 4 ^ n) := by
      show _ = bdg t (b / 4 ^ n / 4) * 10 + b / 4 ^ n % 4
      unfold dg
      rw [show T - 1 - t = n by omega, Nat.div_div_eq_div_mul, ← Nat.pow_succ, Nat.mul_comm]
    rw [e]
    exact dn_lp N hT h6 h n m (t + 1) (by omega) (by omega)
theorem digitsNow_r (N : Nat) (hN : 130 ≤ N) {T : Nat} (hT : T ≤ 6) {b : Nat} (hb : b < 4 ^ T) {μ : am_M} (h6 : μ.1 10 0 6 = nI T) (h : ∀ i, i < T → μ.1 185 0 i = nI (dg T b i)) : f_X10_digitsNow N μ = some (nI (bdg T b), μ) := by
  unfold f_X10_digitsNow f_X10_digitsNow_0
  have := dn_lp N hT h6 h T N 0 (by omega) (by omega)
  rw [Nat.div_eq_of_lt hb] at this
  exact this
