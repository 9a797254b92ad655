/-! the reference's fewest; least -/
theorem Rv.q {μ : am_M} {T S : Nat} {a : Nat → Nat → Nat} {W : Nat} {tx : Nat → tx_T} {p q : Nat → Nat} (h : Rv μ T S (ap a p) W tx) (hq : ∀ i, q i ≤ 99) (e : ∀ i, i < T → p i = q i) : Rv μ T S (ap a q) W tx := by
  obtain ⟨g1, g2, g3, g4, g5, g6, g7, g8⟩ := h
  refine ⟨⟨g1.1, g1.2.1, g1.2.2.1, fun i => ⟨(g1.2.2.2.1 i).1, (g1.2.2.2.1 i).2.1, hq i, (g1.2.2.2.1 i).2.2.2⟩, g1.2.2.2.2⟩, g2, g3, g4, fun i hi => ⟨(g5 i hi).1, (g5 i hi).2.1, ?_, (g5 i hi).2.2.2⟩, g6, g7, g8⟩
  rw [(g5 i hi).2.2.1]
  show nI (p i) = nI (q i)
  rw [e i hi]
theorem Rv.unap {μ : am_M} {T S : Nat} {a : Nat → Nat → Nat} {W : Nat} {tx : Nat → tx_T} (h : Rv μ T S (ap a (a 2)) W tx) (hb : BD T S a W) : Rv μ T S a W tx := by
  obtain ⟨g1, g2, g3, g4, g5, g6, g7, g8⟩ := h
  exact ⟨hb, g2, g3, g4, g5, g6, g7, g8⟩
theorem gone_lp (N : Nat) {T S : Nat} {a : Nat → Nat → Nat} {W : Nat} {tx : Nat → tx_T} {B : Nat → Nat} {μ : am_M} (hC : Rv μ T S a W tx) (h : ∀ i, i < T → μ.1 193 0 i = nI (wn a B T S i)) : ∀ (n m t : Nat), t + n = T → n + 1 ≤ m → (∀ i, i < t → 0 ≤ ov a B T S i) → ∃ r, f_X10_isGone_2_lp N m (nI t) μ = some (r, μ) ∧ ((r = nI 0 ∧ srv a B T S) ∨ (r = nI 1 ∧ ¬ srv a B T S))
  | n, 0, t, h1, h2, h3 => by omega
  | 0, m + 1, t, h1, h2, h3 => by
    have hT6 := hC.1.1
    unfold f_X10_isGone_2_lp f_X10_isGone_2
    rw [hC.2.1, if_pos ((nI_leI (by omega) (by omega)).mpr (by omega)), li_0, z_0]
    exact ⟨_, rfl, Or.inl ⟨rfl, fun i hi => h3 i (by omega)⟩⟩
  | n + 1, m + 1, t, h1, h2, h3 => by
    have hT6 := hC.1.1
    unfold f_X10_isGone_2_lp f_X10_isGone_2
    rw [hC.2.1, if_neg (fun z => by have := (nI_leI (by omega) (by omega)).mp z; omega), over_r N hC h (by omega), bd_some, nI_1]
    by_cases c : 0 ≤ ov a B T S t
    · rw [if_pos c]
      exact gone_lp N hC h n m (t + 1) (by omega) (by omega) (fun i hi => by
        by_cases e : i = t
        · subst e; exact c
        · exact h3 i (by omega))
    · rw [if_neg c, li_1, z_1]
      exact ⟨_, rfl, Or.inr ⟨rfl, fun q => c (q t (by omega))⟩⟩
def pzr (a : Nat → Nat → Nat) (p : Nat → Nat) (z t i : Nat) : Nat := if i < t then pz_ a z i else p i
theorem f66_lp (N : Nat) (hN : 5000 ≤ N) {T S : Nat} {a : Nat → Nat → Nat} {W : Nat} {tx : Nat → tx_T} {B p : Nat → Nat} (hbd : BD T S a W) (hp : ∀ i, p i ≤ 99) {z : Nat} (hz : z < 64) (hB : ∀ s, CB a tx T (a 1) (pz_ a z) s (B s)) {r : Int32 → Int32 → am_M → Option (Int32 × am_M)} {x1 : Int32} {μ0 : am_M} : ∀ (n m t : Nat) (μ : am_M), t + n = T → n + 1 ≤ m → Rv μ T S (ap a (pzr a p z t)) W tx → (∀ i, i < T → μ.1 201 0 i = nI (a 2 i)) → fr p_RR μ0 μ →
      ∃ μ' x', f_X10_fewest_66_lp N r m x1 (nI z) (nI t) μ = r x' (nI (z + 1)) μ' ∧ fr p_RR μ0 μ' ∧ Rv μ' T S (ap a (pz_ a z)) W tx ∧ (∀ i, i < T → μ'.1 201 0 i = nI (a 2 i)) ∧ ((x' = nI z ∧ srv a B T S) ∨ (x' = x1 ∧ ¬ srv a B T S))
  | n, 0, t, μ, h1, h2, hC, h3, hF => by omega
  | 0, m + 1, t, μ, h1, h2, hC, h3, hF => by
    have hT6 := hC.1.1
    unfold f_X10_fewest_66_lp f_X10_fewest_66 f_X10_fewest_124 f_X10_fewest_125
    rw [hC.2.1, if_pos ((nI_leI (by omega) (by omega)).mpr (by omega))]
    have : t = T := by omega
    subst this
    have hC' := hC.q (q := pz_ a z) (fun i => pzl hbd z i) (fun i hi => by unfold pzr; rw [if_pos hi])
    obtain ⟨μ1, e1, e2, e3, -⟩ := findWanted_r N hN hC' (B := B) hB
    have hC1 := hC'.of (fw_R e2)
    obtain ⟨v, g1, g2⟩ := gone_lp N hC1 e3 t N 0 (by omega) (by omega) (fun i hi => by omega)
    have g1' : f_X10_isGone N μ1 = some (v, μ1) := g1
    have h3' : ∀ i, i < t → μ1.1 201 0 i = nI (a 2 i) := fun i hi => (e2.1 201 0 i rfl).trans (h3 i hi)
    rw [e1, bd_some, g1', bd_some, nI_1]
    rcases g2 with ⟨rfl, g2⟩ | ⟨rfl, g2⟩
    · rw [if_pos (by decide)]
      exact ⟨μ1, nI z, rfl, hF.tr (R_RR (fw_R e2)), hC1, h3', Or.inl ⟨rfl, g2⟩⟩
    · rw [if_neg (by decide)]
      exact ⟨μ1, x1, rfl, hF.tr (R_RR (fw_R e2)), hC1, h3', Or.inr ⟨rfl, g2⟩⟩
  | n + 1, m + 1, t, μ, h1, h2, hC, h3, hF => by
    have hT6 := hC.1.1
    have go : ∀ v, pz_ a z t = v → ∃ μ' x', f_X10_fewest_101 N r (f_X10_fewest_66_lp N r m) x1 (nI z) (nI t) (nI v) (12 + nI t) μ = r x' (nI (z + 1)) μ' ∧ fr p_RR μ0 μ' ∧ Rv μ' T S (ap a (pz_ a z)) W tx ∧ (∀ i, i < T → μ'.1 201 0 i = nI (a 2 i)) ∧ ((x' = nI z ∧ srv a B T S) ∨ (x' = x1 ∧ ¬ srv a B T S)) := by
      intro v hv
      unfold f_X10_fewest_101
      rw [gdp_12 (by omega) (by omega), nI_1]
      simp only [am_nme]
      have hG : fr p_16 μ (am_ui μ 160 0 (12 + t) (nI v)) := fr.rf.ui (p16_t (by omega))
      refine f66_lp N hN hbd hp hz hB n m (t + 1) _ (by omega) (by omega) (hC.p (by omega) (fun i => ?_) ?_ (fun i hi hne => ?_)) (fun i hi => (hG.1 201 0 i rfl).trans (h3 i hi)) (hF.tr (k16_RR hG))
      · unfold pzr
        by_cases c : i < t + 1
        · rw [if_pos c]; exact pzl hbd z i
        · rw [if_neg c]; exact hp i
      · unfold pzr; rw [if_pos (by omega)]; exact hv
      · unfold pzr
        by_cases c : i < t
        · rw [if_pos c, if_pos (by omega)]
        · rw [if_neg c, if_neg (by omega)]
    unfold f_X10_fewest_66_lp f_X10_fewest_66
    rw [hC.2.1, if_neg (fun z => by have := (nI_leI (by omega) (by omega)).mp z; omega), bit_e hz (by omega)]
    by_cases c : z / 2 ^ t % 2 = 0
    · rw [if_neg (fun q => bit_1.mp q c), li_0]
      have := go 0 (by unfold pz_; rw [if_pos c])
      exact this
    · rw [if_pos (bit_1.mpr c), gd_nI (by omega) (by omega), h3 t (by omega)]
      exact go (a 2 t) (by unfold pz_; rw [if_neg c])
theorem FW_up {a : Nat → Nat → Nat} {B : Nat → Nat → Nat} {T S z : Nat} {cur cur' : Option Nat} (hz : z < 2 ^ T) (h : FW a B T S (fun y => y < z) cur) (h1 : (∀ b, cur = some b → bt z < bt b) → srv a (B z) T S → cur' = some z) (h2 : ¬ ((∀ b, cur = some b → bt z < bt b) ∧ srv a (B z) T S) → cur' = cur) : FW a B T S (fun y => y < z + 1) cur' := by
  by_cases q : (∀ b, cur = some b → bt z < bt b) ∧ srv a (B z) T S
  · rw [h1 q.1 q.2]
    refine ⟨by omega, hz, q.2, fun y hy hy2 hs => ?_⟩
    by_cases e : y = z
    · subst e; exact Or.inr ⟨rfl, Nat.le_refl _⟩
    · cases cur with
      | none => exact absurd hs (h y (by omega) hy2)
      | some b =>
        have h3 := h.2.2.2 y (by omega) hy2 hs
        have h4 := q.1 b rfl
        left; omega
  · rw [h2 q]
    cases cur with
    | none =>
      intro y hy hy2 hs
      by_cases e : y = z
      · subst e; exact q ⟨fun b hb => (by cases hb), hs⟩
      · exact h y (by omega) hy2 hs
    | some b =>
      obtain ⟨a1, a2, a3, a4⟩ := h
      refine ⟨by omega, a2, a3, fun y hy hy2 hs => ?_⟩
      by_cases e : y = z
      · subst e
        by_cases e2 : bt y < bt b
        · exact absurd ⟨fun b' hb' => (by cases hb'; exact e2), hs⟩ q
        · by_cases e3 : bt b = bt y
          · right; exact ⟨e3, by omega⟩
          · left; omega
      · exact a4 y (by omega) hy2 hs
theorem f36_lp (N : Nat) (hN : 5000 ≤ N) {T S : Nat} {a : Nat → Nat → Nat} {W : Nat} {tx : Nat → tx_T} {B : Nat → Nat → Nat} (hbd : BD T S a W) (hB : ∀ z s, CB a tx T (a 1) (pz_ a z) s (B z s)) {μ0 : am_M} : ∀ (n m z : Nat) (μ : am_M) (p : Nat → Nat) (cur : Option Nat), z + n = 2 ^ T → n + 1 ≤ m → (∀ i, p i ≤ 99) → Rv μ T S (ap a p) W tx → (∀ i, i < T → μ.1 201 0 i = nI (a 2 i)) → fr p_RR μ0 μ → FW a B T S (fun y => y < z) cur →
      ∃ μ' p' cur', f_X10_fewest_36_lp N m (cF cur) (nI z) μ = f_X10_fewest_133_lp N N (cF cur') 0 μ' ∧ (∀ i, p' i ≤ 99) ∧ Rv μ' T S (ap a p') W tx ∧ (∀ i, i < T → μ'.1 201 0 i = nI (a 2 i)) ∧ fr p_RR μ0 μ' ∧ FW a B T S (fun _ => True) cur'
  | n, 0, z, μ, p, cur, h1, h2, hp, hC, h3, hF, h => by omega
  | 0, m + 1, z, μ, p, cur, h1, h2, hp, hC, h3, hF, h => by
    have hT6 := hC.1.1
    have := pow2T hT6
    unfold f_X10_fewest_36_lp f_X10_fewest_36
    rw [hC.2.1, one_sh hT6, if_pos ((nI_leI (by omega) (by omega)).mpr (by omega))]
    refine ⟨μ, p, cur, rfl, hp, hC, h3, hF, ?_⟩
    cases cur with
    | none => exact fun y _ hy => h y (by omega) hy
    | some b => exact ⟨trivial, h.2.1, h.2.2.1, fun y _ hy => h.2.2.2 y (by omega) hy⟩
  | n + 1, m + 1, z, μ, p, cur, h1, h2, hp, hC, h3, hF, h => by
    have hT6 := hC.1.1
    have := pow2T hT6
    have hbz : bt z ≤ 6 := by unfold bt; omega
    have try_ : (∀ b, cur = some b → bt z < bt b) → ∃ μ' p' cur', f_X10_fewest_64 N (f_X10_fewest_36_lp N m) (cF cur) (nI z) μ = f_X10_fewest_133_lp N N (cF cur') 0 μ' ∧ (∀ i, p' i ≤ 99) ∧ Rv μ' T S (ap a p') W tx ∧ (∀ i, i < T → μ'.1 201 0 i = nI (a 2 i)) ∧ fr p_RR μ0 μ' ∧ FW a B T S (fun _ => True) cur' := by
      intro hlt
      unfold f_X10_fewest_64
      obtain ⟨μ1, x', e1, e2, e3, e4, e5⟩ := f66_lp N hN hbd hp (show z < 64 by omega) (hB z) (r := f_X10_fewest_36_lp N m) (x1 := cF cur) (μ0 := μ) T N 0 μ (by omega) (by omega) (hC.q (fun i => hp i) (fun i hi => by unfold pzr; rw [if_neg (by omega)])) h3 fr.rf
      have e1' : f_X10_fewest_66_lp N (f_X10_fewest_36_lp N m) N (cF cur) (nI z) 0 μ = _ := e1
      rw [e1']
      rcases e5 with ⟨rfl, e5⟩ | ⟨rfl, e5⟩
      · exact f36_lp N hN hbd hB n m (z + 1) μ1 _ (some z) (by omega) (by omega) (fun i => pzl hbd z i) e3 e4 (hF.tr e2) (FW_up (by omega) h (fun _ _ => rfl) (fun q => absurd ⟨hlt, e5⟩ q))
      · exact f36_lp N hN hbd hB n m (z + 1) μ1 _ cur (by omega) (by omega) (fun i => pzl hbd z i) e3 e4 (hF.tr e2) (FW_up (by omega) h (fun _ q => absurd q e5) (fun _ => rfl))
    unfold f_X10_fewest_36_lp f_X10_fewest_36 f_X10_fewest_125
    rw [hC.2.1, one_sh hT6, if_neg (fun q => by have := (nI_leI (by omega) (by omega)).mp q; omega)]
    cases hcur : cur with
    | none =>
      rw [if_pos (show cF none < 0 by decide)]
      have := try_ (fun b hb => by rw [hcur] at hb; cases hb)
      rw [hcur] at this
      exact this
    | some b =>
      have hb : b < 2 ^ T := by rw [hcur] at h; exact h.2.1
      have hbb : bt b ≤ 6 := by unfold bt; omega
      rw [if_neg (show ¬ cF (some b) < 0 from nI_pos (by omega)), bitsOf_r N (by omega) (by omega), bd_some]
      show ∃ μ' p' cur', am_bd (f_X10_bitsOf N (nI b) μ) _ = _ ∧ _
      rw [bitsOf_r N (by omega) (by omega), bd_some, nI_1]
      by_cases c : bt z < bt b
      · rw [if_pos ((nI_ltI (by omega) (by omega)).mpr c)]
        have := try_ (fun b' hb' => by rw [hcur] at hb'; cases hb'; exact c)
        rw [hcur] at this
        exact this
      · rw [if_neg (fun q => c ((nI_ltI (by omega) (by omega)).mp q))]
        exact f36_lp N hN hbd hB n m (z + 1) μ p (some b) (by omega) (by omega) hp hC h3 hF (FW_up (by omega) (by rw [hcur] at h; exact h) (fun q => absurd (q b rfl) c) (fun _ => rfl))
theorem f133_lp (N : Nat) {T S : Nat} {a : Nat → Nat → Nat} {W : Nat} {tx : Nat → tx_T} {p : Nat → Nat} {x : Int32} (hb : BD T S a W) (hp : ∀ i, p i ≤ 99) {μ0 : am_M} :
    ∀ (n m t : Nat) (μ : am_M), t + n = T → n + 1 ≤ m → Rv μ T S (ap a (pb a p t)) W tx → fr p_16 μ0 μ → (∀ i, i < T → μ.1 201 0 i = nI (a 2 i)) →
      ∃ μ', f_X10_fewest_133_lp N m x (nI t) μ = some (x, μ') ∧ fr p_16 μ0 μ' ∧ Rv μ' T S a W tx
  | n, 0, t, μ, h1, h2, hC, h4, h5 => by omega
  | 0, m + 1, t, μ, h1, h2, hC, h4, h5 => by
    have hT6 := hC.1.1
    unfold f_X10_fewest_133_lp f_X10_fewest_133
    rw [hC.2.1, if_pos ((nI_leI (by omega) (by omega)).mpr (by omega))]
    have : t = T := by omega
    subst this
    exact ⟨μ, rfl, h4, (hC.q (q := a 2) (fun i => (hb.2.2.2.1 i).2.2.1) (fun i hi => by unfold pb; rw [if_pos hi])).unap hb⟩
  | n + 1, m + 1, t, μ, h1, h2, hC, h4, h5 => by
    have hT6 := hC.1.1
    unfold f_X10_fewest_133_lp f_X10_fewest_133
    rw [hC.2.1, if_neg (fun z => by have := (nI_leI (by omega) (by omega)).mp z; omega), gd_nI (by omega) (by omega), gdp_12 (by omega) (by omega), h5 t (by omega), nI_1]
    simp only [am_nme]
    have hF : fr p_16 μ (am_ui μ 160 0 (12 + t) (nI (a 2 t))) := fr.rf.ui (p16_t (by omega))
    refine f133_lp N hb hp n m (t + 1) _ (by omega) (by omega) (hC.p (by omega) (fun i => ?_) ?_ (fun i hi hne => ?_)) (h4.tr hF) (fun i hi => (hF.1 201 0 i rfl).trans (h5 i hi))
    · unfold pb
      by_cases c : i < t + 1
      · rw [if_pos c]; exact (hb.2.2.2.1 i).2.2.1
      · rw [if_neg c]; exact hp i
    · unfold pb; rw [if_pos (by omega)]
    · unfold pb
      by_cases c : i < t
      · rw [if_pos c, if_pos (by omega)]
      · rw [if_neg c, if_neg (by omega)]
theorem f5_lp (N : Nat) {T S : Nat} {a : Nat → Nat → Nat} {W : Nat} {tx : Nat → tx_T} {x1 : Int32} {μ0 : am_M} :
    ∀ (n m t : Nat) (μ : am_M), t + n = T → n + 1 ≤ m → Rv μ T S a W tx → fr p_20 μ0 μ → (∀ i, i < t → μ.1 201 0 i = nI (a 2 i)) →
      ∃ μ', f_X10_fewest_5_lp N m x1 (nI t) μ = f_X10_fewest_36_lp N N x1 0 μ' ∧ Rv μ' T S a W tx ∧ fr p_20 μ0 μ' ∧ (∀ i, i < T → μ'.1 201 0 i = nI (a 2 i))
  | n, 0, t, μ, h1, h2, hC, h4, h7 => by omega
  | 0, m + 1, t, μ, h1, h2, hC, h4, h7 => by
    have hT6 := hC.1.1
    unfold f_X10_fewest_5_lp f_X10_fewest_5
    rw [hC.2.1, if_pos ((nI_leI (by omega) (by omega)).mpr (by omega))]
    exact ⟨μ, rfl, hC, h4, fun i hi => h7 i (by omega)⟩
  | n + 1, m + 1, t, μ, h1, h2, hC, h4, h7 => by
    have hT6 := hC.1.1
    have e : μ.1 160 0 (12 + t) = nI (a 2 t) := (hC.2.2.2.2.1 t (by omega)).2.2.1
    unfold f_X10_fewest_5_lp f_X10_fewest_5
    rw [hC.2.1, if_neg (fun z => by have := (nI_leI (by omega) (by omega)).mp z; omega), gdp_12 (by omega) (by omega), gd_nI (by omega) (by omega), e, nI_1]
    simp only [am_nme]
    have hF : fr p_20 μ (am_ui μ 201 0 t (nI (a 2 t))) := fr.rf.ui rfl
    refine f5_lp N n m (t + 1) _ (by omega) (by omega) (hC.of (k20_R hF)) (h4.tr hF) (fun i hi => ?_)
    rw [ui1]
    by_cases c : i = t
    · subst c; rw [if_pos ⟨rfl, rfl, rfl⟩]
    · rw [if_neg (by omega)]; exact h7 i (by omega)
theorem btT : ∀ T, T < 7 → ∀ y, y < 2 ^ T → bt y ≤ T := by decide +kernel
theorem fewest_q (N : Nat) (hN : 5000 ≤ N) {T S : Nat} {a : Nat → Nat → Nat} {W : Nat} {tx : Nat → tx_T} : Q3 T S a W tx (f_X9_fewest N) (f_X10_fewest N) := by
  intro μ ν hC hR
  have hT6 := hC.1.1
  have hbd := hC.1
  have h2T := pow2T hT6
  obtain ⟨B, hB⟩ : ∃ B : Nat → Nat → Nat, ∀ z s, CB a tx T (a 1) (pz_ a z) s (B z s) := ⟨fun z => (CB_ex a tx T (a 1) (pz_ a z)).choose, fun z => (CB_ex a tx T (a 1) (pz_ a z)).choose_spec⟩
  unfold f_X9_fewest f_X9_fewest_0 f_X10_fewest f_X10_fewest_0
  obtain ⟨μ1, c1, e1, e2, e3⟩ := f2_lp N (by omega) hB (btT T (by omega)) (T + 1) N 0 μ (by omega) (by omega) hC fr.rf (fun y _ h => by omega)
  obtain ⟨ν1, g1, g2, g3, g4⟩ := f5_lp N (x1 := -2) (μ0 := ν) T N 0 ν (by omega) (by omega) hR fr.rf (fun i hi => by omega)
  obtain ⟨ν2, p', c2, q1, q2, q3, q4, q5, q6⟩ := f36_lp N hN hbd hB (2 ^ T) N 0 ν1 (a 2) none (by omega) (by omega) (fun i => (hbd.2.2.2.1 i).2.2.1) g2.apx g4 (R_RR (k20_R g3)) (fun y hy => by omega)
  obtain ⟨ν3, r1, r2, r3⟩ := f133_lp N (x := cF c2) hbd q2 (μ0 := ν2) T N 0 ν2 (by omega) (by omega) (q3.q (fun i => q2 i) (fun i hi => by unfold pb; rw [if_neg (by omega)])) fr.rf q4
  have hc := FW_uniq e3 q6
  subst hc
  have e1' : f_X9_fewest_2_lp N N 0 μ = _ := e1
  have g1' : f_X10_fewest_5_lp N N (-2) 0 ν = _ := g1
  have q1' : f_X10_fewest_36_lp N N (-2) 0 ν1 = _ := q1
  have r1' : f_X10_fewest_133_lp N N (cF c1) 0 ν2 = _ := r1
  rw [e1', g1', q1', r1']
  exact ⟨_, μ1, ν3, rfl, e2, rfl, q5.tr (k16_RR r2), r3⟩
