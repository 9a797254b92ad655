/-! baskets by numbers of base four, thing 0 the highest -/
def bw (w : Nat → Nat → Nat) : Nat → Nat → Nat
  | 0, _ => 0
  | i + 1, q => bw w i (q / 4) + w i (q % 4)
def bc (c : Nat → Nat) : Nat → Nat → Nat
  | 0, _ => 0
  | i + 1, q => bc c i (q / 4) + (q % 4) * c i
def bdg : Nat → Nat → Nat
  | 0, _ => 0
  | i + 1, q => bdg i (q / 4) * 10 + q % 4
def rsum (w : Nat → Nat → Nat) (i : Nat) : Nat → Nat
  | 0 => 0
  | k + 1 => rsum w i k + w (i + k) 3
theorem rsum_head (w : Nat → Nat → Nat) (i : Nat) : ∀ k, rsum w i (k + 1) = w i 3 + rsum w (i + 1) k
  | 0 => by simp [rsum]
  | k + 1 => by
    show rsum w i (k + 1) + w (i + (k + 1)) 3 = w i 3 + (rsum w (i + 1) k + w (i + 1 + k) 3)
    rw [rsum_head w i k, show i + (k + 1) = i + 1 + k by omega]
    omega
theorem div44 (b k : Nat) : b / 4 / 4 ^ k = b / 4 ^ (k + 1) := by
  rw [Nat.div_div_eq_div_mul, Nat.pow_succ, Nat.mul_comm 4]
theorem bw_up (w : Nat → Nat → Nat) (hw : ∀ t m, m ≤ 3 → w t m ≤ w t 3) (i : Nat) : ∀ (k b : Nat), bw w (i + k) b ≤ bw w i (b / 4 ^ k) + rsum w i k
  | 0, b => by simp [rsum]
  | k + 1, b => by
    show bw w (i + k) (b / 4) + w (i + k) (b % 4) ≤ bw w i (b / 4 ^ (k + 1)) + (rsum w i k + w (i + k) 3)
    have h1 := bw_up w hw i k (b / 4)
    rw [div44] at h1
    have h2 := hw (i + k) (b % 4) (by omega)
    omega
theorem bc_up (c : Nat → Nat) (i : Nat) : ∀ (k b : Nat), bc c i (b / 4 ^ k) ≤ bc c (i + k) b
  | 0, b => by simp
  | k + 1, b => by
    show bc c i (b / 4 ^ (k + 1)) ≤ bc c (i + k) (b / 4) + (b % 4) * c (i + k)
    have h1 := bc_up c i k (b / 4)
    rw [div44] at h1
    omega
theorem bw_le (w : Nat → Nat → Nat) (M : Nat) (hw : ∀ t m, m ≤ 3 → w t m ≤ M) : ∀ (i q : Nat), bw w i q ≤ i * M
  | 0, _ => by simp [bw]
  | i + 1, q => by
    show bw w i (q / 4) + w i (q % 4) ≤ _
    have h1 := bw_le w M hw i (q / 4)
    have h2 := hw i (q % 4) (by omega)
    rw [Nat.add_mul]; omega
theorem bc_le (c : Nat → Nat) (M : Nat) (hc : ∀ t, c t ≤ M) : ∀ (i q : Nat), bc c i q ≤ i * (3 * M)
  | 0, _ => by simp [bc]
  | i + 1, q => by
    show bc c i (q / 4) + (q % 4) * c i ≤ _
    have h1 := bc_le c M hc i (q / 4)
    have h2 : (q % 4) * c i ≤ 3 * M := Nat.mul_le_mul (by omega) (hc i)
    rw [Nat.add_mul]; omega
theorem bdg_lt : ∀ (i q : Nat), bdg i q < 10 ^ i
  | 0, _ => by simp [bdg]
  | i + 1, q => by
    show bdg i (q / 4) * 10 + q % 4 < _
    have h1 := bdg_lt i (q / 4)
    rw [Nat.pow_succ]; omega
theorem rsum_le (w : Nat → Nat → Nat) (M : Nat) (hw : ∀ t m, m ≤ 3 → w t m ≤ M) (i : Nat) : ∀ k, rsum w i k ≤ k * M
  | 0 => by simp [rsum]
  | k + 1 => by
    show rsum w i k + w (i + k) 3 ≤ _
    have h1 := rsum_le w M hw i k
    have h2 := hw (i + k) 3 (by omega)
    rw [Nat.add_mul]; omega
theorem q4 (q m : Nat) (h : m < 4) : (q * 4 + m) / 4 = q ∧ (q * 4 + m) % 4 = m := by omega
def pay (pu bo pr C P : Nat) : Prop := C + pr * (P - bo) ≤ pu
theorem pay_mono {pu bo pr C P C' P' : Nat} (h : pay pu bo pr C' P') (h1 : C ≤ C') (h2 : P ≤ P') : pay pu bo pr C P := by
  unfold pay at *
  have : pr * (P - bo) ≤ pr * (P' - bo) := Nat.mul_le_mul_left _ (by omega)
  omega
/-- basket x beats y: more worth, then less coin, then fewer points -/
def beats (w : Nat → Nat → Nat) (c p : Nat → Nat) (T x y : Nat) : Prop := bw w T y < bw w T x ∨ (bw w T x = bw w T y ∧ (bc c T x < bc c T y ∨ (bc c T x = bc c T y ∧ bc p T x < bc p T y)))
/-- the best of the payable baskets of X (of like ones the least number), or none is -/
def Bst (w : Nat → Nat → Nat) (c p : Nat → Nat) (T : Nat) (py : Nat → Prop) (X : Nat → Prop) : Option Nat → Prop
  | none => ∀ b, X b → b < 4 ^ T → ¬ py b
  | some b0 => X b0 ∧ b0 < 4 ^ T ∧ py b0 ∧ ∀ b, X b → b < 4 ^ T → py b → ¬ beats w c p T b b0 ∧ (¬ beats w c p T b0 b → b0 ≤ b)
theorem Bst_uniq {w : Nat → Nat → Nat} {c p : Nat → Nat} {T : Nat} {py : Nat → Prop} {X : Nat → Prop} {x y : Nat} (h1 : Bst w c p T py X (some x)) (h2 : Bst w c p T py X (some y)) : x = y := by
  obtain ⟨a1, a2, a3, a4⟩ := h1
  obtain ⟨b1, b2', b3, b4⟩ := h2
  have h3 := (a4 y b1 b2' b3)
  have h4 := (b4 x a1 a2 a3)
  have := h3.2 h4.1
  have := h4.2 h3.1
  omega
theorem Bst_sub {w : Nat → Nat → Nat} {c p : Nat → Nat} {T : Nat} {py : Nat → Prop} {X Y : Nat → Prop} {cur : Option Nat} (h : Bst w c p T py X cur) (h1 : ∀ b, X b → Y b) (h2 : ∀ b, Y b → b < 4 ^ T → ¬ X b → py b → ∃ b0, cur = some b0 ∧ bw w T b < bw w T b0) : Bst w c p T py Y cur := by
  cases cur with
  | none =>
    intro b hb hlt hpy
    by_cases hx : X b
    · exact h b hx hlt hpy
    · obtain ⟨b0, e, -⟩ := h2 b hb hlt hx hpy
      cases e
  | some b0 =>
    obtain ⟨a1, a2, a3, a4⟩ := h
    refine ⟨h1 b0 a1, a2, a3, fun b hb hlt hpy => ?_⟩
    by_cases hx : X b
    · exact a4 b hx hlt hpy
    · obtain ⟨b1, e, hw⟩ := h2 b hb hlt hx hpy
      cases e
      refine ⟨fun q => ?_, fun q => absurd (Or.inl hw) q⟩
      unfold beats at q
      omega
/-- one more basket, below all so far -/
theorem Bst_down {w : Nat → Nat → Nat} {c p : Nat → Nat} {T : Nat} {py : Nat → Prop} {b : Nat} {cur : Option Nat} (hb : b < 4 ^ T) (hpy : py b) (h : Bst w c p T py (fun z => b + 1 ≤ z) cur) (cur' : Option Nat) (hc : (∀ b0, cur = some b0 → ((beats w c p T b0 b ∧ cur' = some b0) ∨ (¬ beats w c p T b0 b ∧ cur' = some b))) ∧ (cur = none → cur' = some b)) : Bst w c p T py (fun z => b ≤ z) cur' := by
  cases hcur : cur with
  | none =>
    rw [hc.2 hcur]
    rw [hcur] at h
    refine ⟨Nat.le_refl _, hb, hpy, fun z hz hlt hp => ?_⟩
    by_cases e : z = b
    · subst e
      exact ⟨fun q => by unfold beats at q; omega, fun _ => Nat.le_refl _⟩
    · exact absurd hp (h z (by omega) hlt)
  | some b0 =>
    rw [hcur] at h
    obtain ⟨a1, a2, a3, a4⟩ := h
    rcases hc.1 b0 hcur with ⟨h1, h2⟩ | ⟨h1, h2⟩
    · rw [h2]
      refine ⟨by omega, a2, a3, fun z hz hlt hp => ?_⟩
      by_cases e : z = b
      · subst e
        refine ⟨fun q => ?_, fun q => absurd h1 q⟩
        unfold beats at q h1; omega
      · exact a4 z (by omega) hlt hp
    · rw [h2]
      refine ⟨Nat.le_refl _, hb, hpy, fun z hz hlt hp => ?_⟩
      by_cases e : z = b
      · subst e
        exact ⟨fun q => by unfold beats at q; omega, fun _ => Nat.le_refl _⟩
      · have := a4 z (by omega) hlt hp
        refine ⟨fun q => this.1 ?_, fun _ => hz⟩
        unfold beats at q h1 ⊢; omega
/-- one more basket, above all so far -/
theorem Bst_up {w : Nat → Nat → Nat} {c p : Nat → Nat} {T : Nat} {py : Nat → Prop} {b : Nat} {cur : Option Nat} (hb : b < 4 ^ T) (h : Bst w c p T py (fun z => z < b) cur) (cur' : Option Nat) (hn : ¬ py b → cur' = cur) (hc : py b → (∀ b0, cur = some b0 → ((beats w c p T b b0 ∧ cur' = some b) ∨ (¬ beats w c p T b b0 ∧ cur' = some b0))) ∧ (cur = none → cur' = some b)) : Bst w c p T py (fun z => z < b + 1) cur' := by
  by_cases hpy : py b
  · obtain ⟨hc1, hc2⟩ := hc hpy
    cases hcur : cur with
    | none =>
      rw [hc2 hcur]
      rw [hcur] at h
      refine ⟨Nat.lt_succ_self _, hb, hpy, fun z hz hlt hp => ?_⟩
      by_cases e : z = b
      · subst e
        exact ⟨fun q => by unfold beats at q; omega, fun _ => Nat.le_refl _⟩
      · exact absurd hp (h z (by omega) hlt)
    | some b0 =>
      rw [hcur] at h
      obtain ⟨a1, a2, a3, a4⟩ := h
      rcases hc1 b0 hcur with ⟨h1, h2⟩ | ⟨h1, h2⟩
      · rw [h2]
        refine ⟨Nat.lt_succ_self _, hb, hpy, fun z hz hlt hp => ?_⟩
        by_cases e : z = b
        · subst e
          exact ⟨fun q => by unfold beats at q; omega, fun _ => Nat.le_refl _⟩
        · have := a4 z (by omega) hlt hp
          refine ⟨fun q => this.1 ?_, fun q => ?_⟩
          · unfold beats at q h1 ⊢; omega
          · exfalso; apply q
            have := this.1
            unfold beats at this h1 ⊢; omega
      · rw [h2]
        refine ⟨by omega, a2, a3, fun z hz hlt hp => ?_⟩
        by_cases e : z = b
        · subst e
          exact ⟨h1, fun _ => by omega⟩
        · exact a4 z (by omega) hlt hp
  · rw [hn hpy]
    cases cur with
    | none =>
      intro z hz hlt hp
      by_cases e : z = b
      · subst e; exact hpy hp
      · exact h z (by omega) hlt hp
    | some b0 =>
      obtain ⟨a1, a2, a3, a4⟩ := h
      refine ⟨by omega, a2, a3, fun z hz hlt hp => ?_⟩
      by_cases e : z = b
      · subst e; exact absurd hp hpy
      · exact a4 z (by omega) hlt hp
