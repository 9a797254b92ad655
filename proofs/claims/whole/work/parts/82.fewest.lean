/-! fewest, least -/
def bt (z : Nat) : Nat := z % 2 + z / 2 % 2 + z / 4 % 2 + z / 8 % 2 + z / 16 % 2 + z / 32 % 2
theorem bt_c : ∀ z, z < 64 → (let y1 := nI z - ((am_ush (nI z) 1) &&& 1431655765); let y2 := (y1 &&& 858993459) + ((am_ush y1 2) &&& 858993459); let y3 := (y2 + (am_ush y2 4)) &&& 252645135; let y4 := y3 + (am_ush y3 8); let y5 := y4 + (am_ush y4 16); y5 &&& 63) = nI (bt z) := by decide +kernel
theorem bitCount_c (N : Nat) {z : Nat} (hz : z < 64) (μ : am_M) : f_J_bitCount N (nI z) μ = some (nI (bt z), μ) := by
  have := bt_c z hz
  unfold f_J_bitCount f_J_bitCount_0
  simp only [am_nme]
  rw [← this]
theorem bt_r : ∀ z, z < 64 → z ≠ 0 → nI z &&& (nI z - 1) = nI (z &&& (z - 1)) ∧ (z &&& (z - 1)) < z ∧ bt z = bt (z &&& (z - 1)) + 1 := by decide +kernel
theorem bits_lp (N : Nat) (μ : am_M) : ∀ (m z c : Nat), z + 1 ≤ m → z < 64 → f_X10_bitsOf_4_lp N m (nI c) (nI z) μ = some (nI (c + bt z), μ)
  | 0, z, c, h1, h2 => by omega
  | m + 1, z, c, h1, h2 => by
    unfold f_X10_bitsOf_4_lp f_X10_bitsOf_4
    by_cases q : z = 0
    · subst q
      rw [if_pos (by decide)]; rfl
    · obtain ⟨g1, g2, g3⟩ := bt_r z h2 q
      rw [if_neg (nI_ne0 (by omega) (by omega)), g1, nI_1]
      simp only [am_nme]
      rw [bits_lp N μ m _ (c + 1) (by omega) (by omega), g3]
      congr 3
      omega
theorem bitsOf_r (N : Nat) (hN : 130 ≤ N) {z : Nat} (hz : z < 64) (μ : am_M) : f_X10_bitsOf N (nI z) μ = some (nI (bt z), μ) := by
  have := bits_lp N μ N z 0 (by omega) hz
  rw [Nat.zero_add] at this
  exact this
def pz_ (a : Nat → Nat → Nat) (z t : Nat) : Nat := if z / 2 ^ t % 2 = 0 then 0 else a 2 t
theorem pzl {T S : Nat} {a : Nat → Nat → Nat} {W : Nat} (h : BD T S a W) (z t : Nat) : pz_ a z t ≤ 99 := by
  unfold pz_
  by_cases c : z / 2 ^ t % 2 = 0
  · rw [if_pos c]; omega
  · rw [if_neg c]; exact (h.2.2.2.1 t).2.2.1
theorem bit_e {z t : Nat} (hz : z < 64) (ht : t < 6) : (nI z >>> (nI t &&& 31)) &&& 1 = nI (z / 2 ^ t % 2) := by
  rw [pk_shrN (by omega) _ t (sh31 _ (by omega)), pk_andN (Nat.lt_of_le_of_lt (Nat.div_le_self _ _) (by omega)) 1 (by decide)]
theorem bit_0 {z t : Nat} : (nI (z / 2 ^ t % 2) = 0) ↔ z / 2 ^ t % 2 = 0 := by
  rw [li_0, nI_eq (by omega) (by omega)]
theorem bit_1 {z t : Nat} : (nI (z / 2 ^ t % 2) = 1) ↔ ¬ z / 2 ^ t % 2 = 0 := by
  rw [li_1, nI_eq (by omega) (by omega)]; omega
theorem pow2T {T : Nat} (hT : T ≤ 6) : 2 ^ T ≤ 64 := by
  have : 2 ^ T ≤ 2 ^ 6 := Nat.pow_le_pow_right (by decide) hT
  have h : (2 : Nat) ^ 6 = 64 := by decide
  omega
theorem one_sh {T : Nat} (hT : T ≤ 6) : (1 : Int32) <<< (nI T &&& 31) = nI (2 ^ T) := by
  have := pow2T hT
  rw [li_1, pk_shlN _ T (sh31 _ (by omega)) (by omega), Nat.one_mul]
def srv (a : Nat → Nat → Nat) (B : Nat → Nat) (T S : Nat) : Prop := ∀ t, t < T → 0 ≤ ov a B T S t
theorem sv57_lp (N : Nat) {T S : Nat} {a : Nat → Nat → Nat} {W : Nat} {tx : Nat → tx_T} {B : Nat → Nat} {μ : am_M} (hC : Cv μ T S a W tx) (h : ∀ i, i < T → μ.1 98 0 i = nI (wn a B T S i)) : ∀ (n m t : Nat), t + n = T → n + 1 ≤ m → (∀ i, i < t → 0 ≤ ov a B T S i) → ∃ r, f_X2_servesAll_57_lp N m (nI t) μ = some (r, μ) ∧ ((r = nI 1 ∧ srv a B T S) ∨ (r = nI 0 ∧ ¬ srv a B T S))
  | n, 0, t, h1, h2, h3 => by omega
  | 0, m + 1, t, h1, h2, h3 => by
    have hT6 := hC.1.1
    unfold f_X2_servesAll_57_lp f_X2_servesAll_57
    rw [hC.2.1, if_pos ((nI_leI (by omega) (by omega)).mpr (by omega)), li_1, z_1]
    exact ⟨_, rfl, Or.inl ⟨rfl, fun i hi => h3 i (by omega)⟩⟩
  | n + 1, m + 1, t, h1, h2, h3 => by
    have hT6 := hC.1.1
    unfold f_X2_servesAll_57_lp f_X2_servesAll_57
    rw [hC.2.1, if_neg (fun z => by have := (nI_leI (by omega) (by omega)).mp z; omega), overOf_c N hC h (by omega), bd_some, nI_1]
    by_cases c : 0 ≤ ov a B T S t
    · rw [if_pos c]
      exact sv57_lp N hC h n m (t + 1) (by omega) (by omega) (fun i hi => by
        by_cases e : i = t
        · subst e; exact c
        · exact h3 i (by omega))
    · rw [if_neg c, li_0, z_0]
      exact ⟨_, rfl, Or.inr ⟨rfl, fun q => c (q t (by omega))⟩⟩
def pzm (a : Nat → Nat → Nat) (z t i : Nat) : Nat := if i < t then pz_ a z i else a 2 i
theorem sv9_lp (N : Nat) (hN : 130 ≤ N) {T S : Nat} {a : Nat → Nat → Nat} {W : Nat} {tx : Nat → tx_T} {B : Nat → Nat} {z : Nat} (hz : z < 64) (hB : ∀ s, CB a tx T (a 1) (pz_ a z) s (B s)) {μ0 : am_M} : ∀ (n m t : Nat) (μ : am_M), t + n = T → n + 1 ≤ m → Cv μ T S a W tx → TC μ T (a 1) (pzm a z t) → fr p_C μ0 μ → ∃ r μ', f_X2_servesAll_9_lp N m (nI z) (nI t) μ = some (r, μ') ∧ fr p_C μ0 μ' ∧ ((r = nI 1 ∧ srv a B T S) ∨ (r = nI 0 ∧ ¬ srv a B T S))
  | n, 0, t, μ, h1, h2, hC, hT, hF => by omega
  | 0, m + 1, t, μ, h1, h2, hC, hT, hF => by
    have hT6 := hC.1.1
    have hb := hC.1.2.2.2.1
    unfold f_X2_servesAll_9_lp f_X2_servesAll_9
    rw [hC.2.1, if_pos ((nI_leI (by omega) (by omega)).mpr (by omega))]
    have : t = T := by omega
    subst this
    obtain ⟨μ1, e1, e2, e3⟩ := wantAll_c N hN hC (p := pz_ a z) (fun i hi => ⟨(hT i hi).1, by rw [(hT i hi).2]; unfold pzm; rw [if_pos hi]⟩) (fun t => (hb t).2.1) (fun t => pzl hC.1 z t) hB
    have hC1 := hC.of (wt_C e2)
    obtain ⟨r, g1, g2⟩ := sv57_lp N hC1 e3 t N 0 (by omega) (by omega) (fun i hi => by omega)
    rw [e1, bd_some, li_0, g1]
    exact ⟨r, μ1, rfl, hF.tr (wt_C e2), g2⟩
  | n + 1, m + 1, t, μ, h1, h2, hC, hT, hF => by
    have hT6 := hC.1.1
    have e1 : μ.1 82 0 t = nI (a 1 t) := (hT t (by omega)).1
    unfold f_X2_servesAll_9_lp f_X2_servesAll_9 f_X2_servesAll_45
    rw [hC.2.1, if_neg (fun z => by have := (nI_leI (by omega) (by omega)).mp z; omega), bit_e hz (by omega), nI_1]
    by_cases c : z / 2 ^ t % 2 = 0
    · rw [if_pos (bit_0.mpr c), coinOf_c N (by omega), bd_some, think_c N (by omega), bd_some, e1]
      have hG : fr p_rc μ (am_ui (am_ui μ 82 0 t (nI (a 1 t))) 83 0 t 0) := (fr.rf.ui rfl).ui rfl
      refine sv9_lp N hN hz hB n m (t + 1) _ (by omega) (by omega) (hC.of (rc_C hG)) (fun i hi => ⟨?_, ?_⟩) (hF.tr (rc_C hG))
      · rw [ui1, if_neg (by omega), ui1]
        by_cases d : i = t
        · subst d; rw [if_pos ⟨rfl, rfl, rfl⟩]
        · rw [if_neg (by omega)]; exact (hT i hi).1
      · rw [ui1]
        by_cases d : i = t
        · subst d; rw [if_pos ⟨rfl, rfl, rfl⟩, li_0]; unfold pzm pz_; rw [if_pos (by omega), if_pos c]
        · rw [if_neg (by omega), ui1, if_neg (by omega), (hT i hi).2]
          unfold pzm
          by_cases e : i < t
          · rw [if_pos e, if_pos (by omega)]
          · rw [if_neg e, if_neg (by omega)]
    · rw [if_neg (fun q => c (bit_0.mp q))]
      refine sv9_lp N hN hz hB n m (t + 1) _ (by omega) (by omega) hC (fun i hi => ⟨(hT i hi).1, ?_⟩) hF
      rw [(hT i hi).2]
      unfold pzm
      by_cases e : i < t
      · rw [if_pos e, if_pos (by omega)]
      · rw [if_neg e]
        by_cases d : i = t
        · subst d; unfold pz_; rw [if_pos (by omega), if_neg c]
        · rw [if_neg (by omega)]
theorem serves_c (N : Nat) (hN : 130 ≤ N) {T S : Nat} {a : Nat → Nat → Nat} {W : Nat} {tx : Nat → tx_T} {B : Nat → Nat} {z : Nat} (hz : z < 64) (hB : ∀ s, CB a tx T (a 1) (pz_ a z) s (B s)) {μ : am_M} (hC : Cv μ T S a W tx) : ∃ r μ', f_X2_servesAll N (nI z) μ = some (r, μ') ∧ fr p_C μ μ' ∧ ((r = nI 1 ∧ srv a B T S) ∨ (r = nI 0 ∧ ¬ srv a B T S)) := by
  have hT6 := hC.1.1
  unfold f_X2_servesAll f_X2_servesAll_0
  obtain ⟨μ1, e1, e2, e3⟩ := recall_C N hN hC
  rw [e1, bd_some, li_0]
  exact sv9_lp N hN hz hB T N 0 μ1 (by omega) (by omega) (hC.of (rc_C e2)) (fun i hi => ⟨(e3 i hi).1, by rw [(e3 i hi).2]; rfl⟩) (rc_C e2)
/-- among the first sets of a size none serves -/
theorem f15_lp (N : Nat) (hN : 130 ≤ N) {T S : Nat} {a : Nat → Nat → Nat} {W : Nat} {tx : Nat → tx_T} {B : Nat → Nat → Nat} (hB : ∀ z s, CB a tx T (a 1) (pz_ a z) s (B z s)) {k : Nat} {r : Int32 → am_M → Option (Int32 × am_M)} {μ0 : am_M} : ∀ (n m z : Nat) (μ : am_M), z + n = 2 ^ T → n + 1 ≤ m → k ≤ 6 → Cv μ T S a W tx → fr p_C μ0 μ → (∀ y, y < z → bt y = k → ¬ srv a (B y) T S) →
      (∃ μ' y, f_X9_fewest_15_lp N r m (nI k) (nI z) μ = some (nI y, μ') ∧ fr p_C μ0 μ' ∧ y < 2 ^ T ∧ bt y = k ∧ srv a (B y) T S ∧ ∀ x, x < y → bt x = k → ¬ srv a (B x) T S) ∨ (∃ μ', f_X9_fewest_15_lp N r m (nI k) (nI z) μ = r (nI (k + 1)) μ' ∧ fr p_C μ0 μ' ∧ ∀ y, y < 2 ^ T → bt y = k → ¬ srv a (B y) T S)
  | n, 0, z, μ, h1, h2, hk, hC, hF, h => by omega
  | 0, m + 1, z, μ, h1, h2, hk, hC, hF, h => by
    have hT6 := hC.1.1
    have := pow2T hT6
    unfold f_X9_fewest_15_lp f_X9_fewest_15
    rw [hC.2.1, one_sh hT6, if_pos ((nI_leI (by omega) (by omega)).mpr (by omega)), nI_1]
    exact Or.inr ⟨μ, rfl, hF, fun y hy => h y (by omega)⟩
  | n + 1, m + 1, z, μ, h1, h2, hk, hC, hF, h => by
    have hT6 := hC.1.1
    have := pow2T hT6
    have hbz : bt z ≤ 6 := by unfold bt; omega
    unfold f_X9_fewest_15_lp f_X9_fewest_15 f_X9_fewest_49
    rw [hC.2.1, one_sh hT6, if_neg (fun q => by have := (nI_leI (by omega) (by omega)).mp q; omega), bitCount_c N (by omega), bd_some, nI_1]
    by_cases c : bt z = k
    · rw [if_pos (by rw [c])]
      obtain ⟨v, μ1, e1, e2, e3⟩ := serves_c N hN (show z < 64 by omega) (hB z) hC
      rw [e1, bd_some]
      rcases e3 with ⟨rfl, e3⟩ | ⟨rfl, e3⟩
      · rw [if_neg (by decide)]
        exact Or.inl ⟨μ1, z, rfl, hF.tr e2, by omega, c, e3, h⟩
      · rw [if_pos (by decide)]
        exact f15_lp N hN hB n m (z + 1) μ1 (by omega) (by omega) hk (hC.of e2) (hF.tr e2) (fun y hy hb => by
          by_cases e : y = z
          · subst e; exact e3
          · exact h y (by omega) hb)
    · rw [if_neg (fun q => c ((nI_eq (by omega) (by omega)).mp q))]
      exact f15_lp N hN hB n m (z + 1) μ (by omega) (by omega) hk hC hF (fun y hy hb => by
        by_cases e : y = z
        · subst e; exact absurd hb c
        · exact h y (by omega) hb)
/-- the answer: of the sets that serve the least by size, then by number -/
def FW (a : Nat → Nat → Nat) (B : Nat → Nat → Nat) (T S : Nat) (X : Nat → Prop) : Option Nat → Prop
  | none => ∀ y, X y → y < 2 ^ T → ¬ srv a (B y) T S
  | some b => X b ∧ b < 2 ^ T ∧ srv a (B b) T S ∧ ∀ y, X y → y < 2 ^ T → srv a (B y) T S → bt b < bt y ∨ (bt b = bt y ∧ b ≤ y)
def cF : Option Nat → Int32
  | none => -2
  | some b => nI b
theorem FW_uniq {a : Nat → Nat → Nat} {B : Nat → Nat → Nat} {T S : Nat} {x y : Option Nat} (h1 : FW a B T S (fun _ => True) x) (h2 : FW a B T S (fun _ => True) y) : x = y := by
  cases x with
  | none =>
    cases y with
    | none => rfl
    | some y => exact absurd h2.2.2.1 (h1 y trivial h2.2.1)
  | some x =>
    cases y with
    | none => exact absurd h1.2.2.1 (h2 x trivial h1.2.1)
    | some y =>
      obtain ⟨-, a2, a3, a4⟩ := h1
      obtain ⟨-, b2, b3, b4⟩ := h2
      have := a4 y trivial b2 b3
      have := b4 x trivial a2 a3
      congr 1; omega
theorem f2_lp (N : Nat) (hN : 130 ≤ N) {T S : Nat} {a : Nat → Nat → Nat} {W : Nat} {tx : Nat → tx_T} {B : Nat → Nat → Nat} (hB : ∀ z s, CB a tx T (a 1) (pz_ a z) s (B z s)) (hbt : ∀ y, y < 2 ^ T → bt y ≤ T) {μ0 : am_M} : ∀ (n m k : Nat) (μ : am_M), k + n = T + 1 → n + 1 ≤ m → Cv μ T S a W tx → fr p_C μ0 μ → (∀ y, y < 2 ^ T → bt y < k → ¬ srv a (B y) T S) →
      ∃ μ' cur, f_X9_fewest_2_lp N m (nI k) μ = some (cF cur, μ') ∧ fr p_C μ0 μ' ∧ FW a B T S (fun _ => True) cur
  | n, 0, k, μ, h1, h2, hC, hF, h => by omega
  | 0, m + 1, k, μ, h1, h2, hC, hF, h => by
    have hT6 := hC.1.1
    unfold f_X9_fewest_2_lp f_X9_fewest_2
    rw [hC.2.1, if_pos ((nI_ltI (by omega) (by omega)).mpr (by omega))]
    exact ⟨μ, none, rfl, hF, fun y _ hy => h y hy (by have := hbt y hy; omega)⟩
  | n + 1, m + 1, k, μ, h1, h2, hC, hF, h => by
    have hT6 := hC.1.1
    have := pow2T hT6
    unfold f_X9_fewest_2_lp f_X9_fewest_2
    rw [hC.2.1, if_neg (fun q => by have := (nI_ltI (by omega) (by omega)).mp q; omega), li_0]
    rcases f15_lp N hN hB (k := k) (r := f_X9_fewest_2_lp N m) (μ0 := μ) (2 ^ T) N 0 μ (by omega) (by omega) (by omega) hC fr.rf (fun y hy => by omega) with ⟨μ', y, e1, e2, e3, e4, e5, e6⟩ | ⟨μ', e1, e2, e3⟩
    · rw [e1]
      refine ⟨μ', some y, rfl, hF.tr e2, trivial, e3, e5, fun x _ hx hs => ?_⟩
      by_cases q : bt x < k
      · exact absurd hs (h x hx q)
      · by_cases q2 : bt x = k
        · right
          refine ⟨by omega, ?_⟩
          by_cases q3 : x < y
          · exact absurd hs (e6 x q3 q2)
          · omega
        · left; omega
    · rw [e1]
      exact f2_lp N hN hB hbt n m (k + 1) μ' (by omega) (by omega) (hC.of e2) (hF.tr e2) (fun y hy hb => by
        by_cases q : bt y = k
        · exact e3 y hy q
        · exact h y hy (by omega))
