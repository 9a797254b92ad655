/-! things from a row -/
def RDs (μ ν : am_M) (s l : Nat) : Prop := l ≤ 60 ∧ μ.1 145 0 s = nI l ∧ ν.1 212 0 s = nI l ∧ ∀ i, i < 60 → μ.2 446 s i = ν.2 213 0 (60 * s + i) ∧ (μ.2 446 s i).toInt32.toInt64 = μ.2 446 s i
theorem RDs.fr {μ ν μ' ν' : am_M} {s l : Nat} (h : RDs μ ν s l) (e : fr p_ac μ μ') (g : fr p_ar ν ν') : RDs μ' ν' s l := ⟨h.1, (e.1 145 0 s rfl).trans h.2.1, (g.1 212 0 s rfl).trans h.2.2.1, by rw [e.2, g.2]; exact h.2.2.2⟩
theorem rf_197 (N : Nat) {r : Int32 → Int32 → Int32 → Int32 → Int32 → am_M → Option (Int32 × am_M)} (x1 x2 x3 x4 x6 : Int32) (ν : am_M) : f_X10_things_197 N r x1 x2 x3 x4 x6 ν = r x1 x2 x3 x4 0 ν := by
  unfold f_X10_things_197 f_X10_things_198 f_X10_things_250
  rw [if_pos rfl]
theorem rf_110 (N : Nat) {r : Int32 → Int32 → Int32 → Int32 → Int32 → am_M → Option (Int32 × am_M)} (x1 x2 x3 x4 : Int32) (ν : am_M) : f_X10_things_110 N r x1 x2 x3 x4 ν = r x1 x2 x3 x4 0 ν := by
  unfold f_X10_things_110 f_X10_things_111
  rw [am_nme, if_pos rfl, rf_197]
theorem cf_116 (N : Nat) (x y z v : Int32) (μ : am_M) : f_X9_comesFrom_116 N x y z v μ = some (nI 0, μ) := by
  unfold f_X9_comesFrom_116 f_X9_comesFrom_117
  rw [if_pos rfl, li_0, z_0]
theorem lk_iff {l p k : Nat} (hl : l ≤ 60) (hp : p ≤ 60) (hk : k ≤ 6) : (nI l - 4 - 4 * nI k < nI p) ↔ ¬ p + 4 * k + 4 ≤ l := by
  rw [li_4, pk_mul, Int32.lt_iff_toInt_lt, nI_toInt (by omega), Int32.toInt_sub, sub_t (by omega) (by omega), nI_toInt (by omega), Int.bmod_eq_of_le (by omega) (by omega)]
  omega
theorem hp_iff {l P : Nat} (hl : l ≤ 60) (hP : P ≤ 100) : ((0 ≤ (4 : Int32) ∧ (4 : Int32) ≤ nI l) ∧ (0 ≤ nI P ∧ nI P ≤ nI l - 4)) ↔ P + 4 ≤ l := by
  rw [li_4]
  constructor
  · intro h
    have h1 := h.1.2
    rw [nI_leI (by omega) (by omega)] at h1
    have h2 := h.2.2
    rw [pk_sub h1, nI_leI (by omega) (by omega)] at h2
    omega
  · intro h
    refine ⟨⟨by decide, (nI_leI (by omega) (by omega)).mpr (by omega)⟩, nI_pos' (by omega), ?_⟩
    rw [pk_sub (by omega), nI_leI (by omega) (by omega)]
    omega
set_option maxHeartbeats 2000000 in
theorem cf_2 (N : Nat) {r : Int32 → Int32 → Int32 → Int32 → Int32 → am_M → Option (Int32 × am_M)} {s l p k q : Nat} {μ ν : am_M} (hs : s < 6) (hp : p ≤ 60) (hq : q ≤ 6) (hk : k < q) (hA : AL μ ν) (hR : RDs μ ν s l) :
    (f_X9_comesFrom N (nI s) (nI p + 4 * nI k) μ = some (nI 0, μ) ∧ f_X10_things_69 N r (nI s) (nI p) (nI q) (nI k) 1 ν = r (nI s) (nI p) (nI q) (nI k) 0 ν) ∨
    ∃ μ' ν', f_X9_comesFrom N (nI s) (nI p + 4 * nI k) μ = some (nI 1, μ') ∧ f_X10_things_69 N r (nI s) (nI p) (nI q) (nI k) 1 ν = r (nI s) (nI p) (nI q) (nI (k + 1)) 1 ν' ∧ AL μ' ν' ∧ fr p_ac μ μ' ∧ fr p_ar ν ν' := by
  obtain ⟨hl, r1, r2, r3⟩ := hR
  obtain ⟨T, hT, t1, t2, t3⟩ := add_2 N hA
  have eP : nI p + 4 * nI k = nI (p + 4 * k) := by rw [li_4, pk_mul, nI_add]
  unfold f_X9_comesFrom f_X9_comesFrom_0 f_X10_things_69
  rw [eP, holdsPart_c N hs r1, bd_some, gI, if_neg (show ¬ (1 : Int32) = 0 by decide), if_neg (show ¬ nI q ≤ nI k from fun z => by have := (nI_leI (by omega) (by omega)).mp z; omega), gd_nI (show s < 6 from hs) (by omega), r2, t2]
  by_cases c : p + 4 * k + 4 ≤ l
  · rw [if_pos ((hp_iff hl (by omega)).mpr c), if_neg (show ¬ (nI l - 4 - 4 * nI k < nI p) from fun z => (lk_iff hl hp (by omega)).mp z c)]
    obtain ⟨P, hP⟩ : ∃ P, P = p + 4 * k := ⟨_, rfl⟩
    rw [← hP]
    have w : ∀ i, i < 4 → ν.2 213 0 (60 * s + p + 4 * k + i) = (μ.2 446 s (P + i)).toInt32.toInt64 := fun i hi => by
      rw [show 60 * s + p + 4 * k + i = 60 * s + (P + i) by omega]
      exact (r3 (P + i) (by omega)).1.symm.trans (r3 (P + i) (by omega)).2.symm
    rw [read_c N hs (by omega), bd_some, am_nme, nI_1, read_c N hs (by omega), bd_some, am_nme, li_2, nI_add, read_c N hs (by omega), bd_some, am_nme, li_3, nI_add, read_c N hs (by omega), bd_some, am_nme]
    have w0 := w 0 (by omega)
    have w1 := w 1 (by omega)
    have w2 := w 2 (by omega)
    have w3 := w 3 (by omega)
    rw [Nat.add_zero, Nat.add_zero] at w0
    generalize (μ.2 446 s P).toInt32 = v0 at w0 ⊢
    generalize (μ.2 446 s (P + 1)).toInt32 = v1 at w1 ⊢
    generalize (μ.2 446 s (P + 2)).toInt32 = v2 at w2 ⊢
    generalize (μ.2 446 s (P + 3)).toInt32 = v3 at w3 ⊢
    by_cases c6 : T = 6
    · subst c6
      rw [if_pos (show (6 : Int32) ≤ nI 6 by decide), rf_110]
      refine Or.inl ⟨?_, rfl⟩
      simp only [w_cls, bd_some, gI, cf_116]
      unfold f_X9_comesFrom_117
      rw [add_full N t1, bd_some, if_neg (show ¬ (1 : Int32) = 0 by decide), if_pos rfl, li_0, z_0]
      simp only [ite_self]
    · rw [if_neg (show ¬ (6 : Int32) ≤ nI T from fun z => by rw [li_6] at z; have := (nI_leI (by omega) (by omega)).mp z; omega)]
      unfold f_X10_things_111
      have ey : 60 * nI s + nI p + 4 * nI k = nI (60 * s + p + 4 * k) := by rw [li_60, pk_mul, nI_add, li_4, pk_mul, nI_add]
      rw [am_nme, ey, if_neg (show ¬ (1 : Int32) = 0 by decide), gd_nI (by omega) (by omega), w0, w_ref N v0 0 999 0 999 (by decide) (by decide), bd_some, gI, w_cls, bd_some, gI]
      by_cases d0 : 0 ≤ v0 ∧ v0 ≤ 999
      · rw [if_pos d0, if_pos d0, nI_1, gd_nI (by omega) (by omega), w1, two_ref, bd_some, gI, w_cls, bd_some, gI]
        by_cases d1 : 0 ≤ v1 ∧ v1 ≤ 99
        · rw [if_pos d1, if_pos d1, li_2, nI_add, gd_nI (by omega) (by omega), w2, two_ref, bd_some, gI, w_cls, bd_some, gI]
          by_cases d2 : 0 ≤ v2 ∧ v2 ≤ 99
          · rw [if_pos d2, if_pos d2, li_3, nI_add, gd_nI (by omega) (by omega), w3, two_ref, bd_some, gI, w_cls, bd_some, gI]
            by_cases d3 : 0 ≤ v3 ∧ v3 ≤ 99
            · rw [if_pos d3, if_pos d3]
              obtain ⟨n0, k0, rfl⟩ := nI_of2 (M := 999) (n := 999) (by decide) (Int32.not_lt.mpr d0.1) d0.2
              obtain ⟨n1, k1, rfl⟩ := nI_of2 (M := 99) (n := 99) (by decide) (Int32.not_lt.mpr d1.1) d1.2
              obtain ⟨n2, k2, rfl⟩ := nI_of2 (M := 99) (n := 99) (by decide) (Int32.not_lt.mpr d2.1) d2.2
              obtain ⟨n3, k3, rfl⟩ := nI_of2 (M := 99) (n := 99) (by decide) (Int32.not_lt.mpr d3.1) d3.2
              obtain ⟨μ', ν', e1, e2, e3, e4, e5, e6⟩ := t3 (by omega) n0 n1 n2 n3 k0 k1 k2 k3
              unfold f_X9_comesFrom_117 f_X10_things_198 f_X10_things_250
              rw [if_neg (show ¬ (1 : Int32) = 0 by decide), e1, bd_some, if_neg (show ¬ nI T = -3 from fun z => absurd (nI_pos' (n := T) (by omega)) (by rw [z]; decide)), li_1, z_1, if_neg (show ¬ nI 1 = 0 by decide), gd_nI (by omega) (by omega), nI_add, gd_nI (by omega) (by omega), li_2, nI_add, gd_nI (by omega) (by omega), li_3, nI_add, gd_nI (by omega) (by omega), w0, w1, w2, w3, Int32.toInt32_toInt64, Int32.toInt32_toInt64, Int32.toInt32_toInt64, Int32.toInt32_toInt64, e2, bd_some, nI_add]
              exact Or.inr ⟨μ', ν', rfl, rfl, e4, e5, e6⟩
            · rw [if_neg d3, if_neg d3, cf_116, rf_197]; exact Or.inl ⟨rfl, rfl⟩
          · rw [if_neg d2, if_neg d2, cf_116, rf_197]; exact Or.inl ⟨rfl, rfl⟩
        · rw [if_neg d1, if_neg d1, cf_116, rf_197]; exact Or.inl ⟨rfl, rfl⟩
      · rw [if_neg d0, if_neg d0, cf_116, rf_197]; exact Or.inl ⟨rfl, rfl⟩
  · rw [if_neg (fun z => c ((hp_iff hl (by omega)).mp z)), if_pos (show nI l - 4 - 4 * nI k < nI p from (lk_iff hl hp (by omega)).mpr c), rf_110, li_0, z_0]
    exact Or.inl ⟨rfl, rfl⟩
theorem tg_lp (N : Nat) {s l p q : Nat} (hs : s < 6) (hp : p ≤ 60) (hq : q ≤ 6) {μ0 ν0 : am_M} : ∀ (n m m2 k : Nat) (μ ν : am_M), k + n = q → n + 1 ≤ m → n + 2 ≤ m2 → AL μ ν → RDs μ ν s l → fr p_ac μ0 μ → fr p_ar ν0 ν →
    ∃ x μ' ν', f_X9_things_53_lp N m (nI s) (nI p) (nI q) (nI k) μ = some (x, μ') ∧ f_X10_things_69_lp N m2 (nI s) (nI p) (nI q) (nI k) 1 ν = some (x, ν') ∧ AL μ' ν' ∧ fr p_ac μ0 μ' ∧ fr p_ar ν0 ν'
  | n, 0, m2, k, μ, ν, h1, h2, h3, hA, hR, hF, hG => by omega
  | n, m + 1, 0, k, μ, ν, h1, h2, h3, hA, hR, hF, hG => by omega
  | 0, m + 1, m2 + 1, k, μ, ν, h1, h2, h3, hA, hR, hF, hG => by
    unfold f_X9_things_53_lp f_X9_things_53 f_X10_things_69_lp f_X10_things_69
    rw [if_pos ((nI_leI (by omega) (by omega)).mpr (by omega)), if_neg (show ¬ (1 : Int32) = 0 by decide), if_pos ((nI_leI (by omega) (by omega)).mpr (by omega))]
    exact ⟨_, μ, ν, rfl, rfl, hA, hF, hG⟩
  | n + 1, m + 1, m2 + 1, k, μ, ν, h1, h2, h3, hA, hR, hF, hG => by
    unfold f_X9_things_53_lp f_X9_things_53 f_X10_things_69_lp
    rw [if_neg (fun z => by have := (nI_leI (by omega) (by omega)).mp z; omega)]
    rcases cf_2 N (r := f_X10_things_69_lp N m2) (q := q) hs hp hq (show k < q by omega) hA hR with ⟨e1, e2⟩ | ⟨μ', ν', e1, e2, e3, e4, e5⟩
    · rw [e1, e2, bd_some, if_pos (show nI 0 = 0 by decide)]
      obtain ⟨m3, rfl⟩ : ∃ m3, m2 = m3 + 1 := ⟨m2 - 1, by omega⟩
      unfold f_X10_things_69_lp f_X10_things_69
      rw [if_pos rfl]
      exact ⟨_, μ, ν, rfl, rfl, hA, hF, hG⟩
    · rw [e1, e2, bd_some, if_neg (show ¬ nI 1 = 0 by decide), nI_1]
      exact tg_lp N hs hp hq n m m2 (k + 1) μ' ν' (by omega) (by omega) (by omega) e3 (hR.fr e4 e5) (hF.tr e4) (hG.tr e5)
theorem things_ag (N : Nat) (hN : 130 ≤ N) (x y z : Int32) : AG (f_X9_things N x y z) (f_X10_things N x y z) := by
  intro μ ν h
  have no : ∀ v : Int32, ∃ r μ' ν', some (v, μ) = some (r, μ') ∧ some (v, ν) = some (r, ν') ∧ AL μ' ν' ∧ cO μ μ' ∧ rO ν ν' := fun v => ⟨_, μ, ν, rfl, rfl, h, cO.rf, rO.rf⟩
  have h0 := h
  obtain ⟨hA, hB, ⟨K, kd, n, hK, hT, hH⟩⟩ := h
  have hK50 := hK.1
  have e66 : ∀ (m : Nat) (x1 x2 x3 : Int32), f_X10_things_69_lp N (m + 1) x1 x2 x3 0 0 ν = some (0, ν) := fun m x1 x2 x3 => by
    unfold f_X10_things_69_lp f_X10_things_69
    rw [if_pos rfl]
  obtain ⟨N', hN'⟩ : ∃ N', N = N' + 1 := ⟨N - 1, by omega⟩
  have e66' : ∀ (x1 x2 x3 : Int32), f_X10_things_69_lp N N x1 x2 x3 0 0 ν = some (0, ν) := fun x1 x2 x3 => by
    have := e66 N' x1 x2 x3
    rw [← hN'] at this
    exact this
  unfold f_X9_things f_X9_things_0 f_X10_things f_X10_things_0 f_X10_things_44 f_X10_things_66 f_X10_things_67
  rw [isShelf_c, isShelf_r, bd_some, bd_some, gI, gI]
  by_cases c1 : IT 6 x
  · rw [if_pos c1, if_pos c1]
    obtain ⟨s, hs, rfl⟩ := IT_ex (by omega) c1
    simp only [w_cls, w_ref N z 1 6 1 6 (by decide) (by decide), bd_some, gI]
    by_cases c2 : 1 ≤ z ∧ z ≤ 6
    · rw [if_pos c2, if_pos c2]
      obtain ⟨q, hq1, hq, rfl⟩ := rd_ex (M := 6) (K := 6) (by decide) c2
      unfold f_X4_heldOn f_X4_heldOn_0
      rw [isShelf_c, bd_some, gI, if_pos c1, gd_nI (by omega) (by omega), bd_some]
      repeat rw [gd_nI (n := 6) (by omega) (by omega)]
      rcases hH s hs with ⟨a1, a2⟩ | ⟨b, hb, a1, a2, a3⟩ | ⟨c, l, k1, k2, k3, k4, k5, k6, k7⟩
      · rw [a1, a2, if_pos rfl, if_pos (by decide), if_neg (by decide), e66']
        exact no _
      · rw [a1, a3, if_neg (by decide), if_neg (by decide), if_neg (nI_pos (by omega)), if_neg (show ¬ nI b = 51 from fun q => by rw [li_51] at q; have := (nI_eq (by omega) (by omega)).mp q; omega)]
        exact no _
      · have e1 : ¬ nI c = -1 := by rcases (by omega : c = 0 ∨ c = 1 ∨ c = 2 ∨ c = 3 ∨ c = 4) with r | r | r | r | r <;> subst r <;> decide
        rw [k3, k5, if_neg e1, if_neg (nI_pos (by omega))]
        by_cases e : c = 1
        · subst e
          rw [if_pos (by decide), if_pos (show nI (50 + 1) = 51 by decide)]
          have hR : RDs μ ν s l := ⟨k2, k4, k6, fun i hi => ⟨(k7 i hi).1, (k7 i hi).2 rfl⟩⟩
          by_cases c3 : y < 0
          · rw [if_pos c3, e66', hN']
            unfold f_X9_things_53_lp f_X9_things_53 f_X9_comesFrom f_X9_comesFrom_0
            rw [if_neg (show ¬ nI q ≤ 0 from fun z => by rw [li_0] at z; have := (nI_leI (by omega) (by omega)).mp z; omega), show y + 4 * 0 = y by simp, ← hN', holdsPart_c N hs k4, bd_some, gI, if_neg (fun q => absurd c3 (Int32.not_lt.mpr q.2.1)), li_0, z_0, bd_some, if_pos (by decide)]
            exact no _
          · rw [if_neg c3]
            obtain ⟨p, hp, rfl⟩ := nI_of c3
            by_cases c4 : p ≤ 60
            · obtain ⟨v, μ', ν', g1, g2, g3, g4, g5⟩ := tg_lp N hs c4 hq (μ0 := μ) (ν0 := ν) q N N 0 μ ν (by omega) (by omega) (by omega) h0 hR fr.rf fr.rf
              have g1' : f_X9_things_53_lp N N (nI s) (nI p) (nI q) 0 μ = _ := g1
              have g2' : f_X10_things_69_lp N N (nI s) (nI p) (nI q) 0 1 ν = _ := g2
              rw [g1', g2']
              exact ⟨v, μ', ν', rfl, rfl, g3, g4.cO ac_cO, g5.rO ar_rO⟩
            · have ec : f_X9_things_53_lp N N (nI s) (nI p) (nI q) 0 μ = some (0, μ) := by
                rw [hN']
                unfold f_X9_things_53_lp f_X9_things_53 f_X9_comesFrom f_X9_comesFrom_0
                rw [if_neg (show ¬ nI q ≤ 0 from fun z => by rw [li_0] at z; have := (nI_leI (by omega) (by omega)).mp z; omega), show nI p + 4 * 0 = nI p by simp, ← hN', holdsPart_c N hs k4, bd_some, gI, if_neg (fun z => by
                  have z1 := z.1.2
                  rw [li_4, nI_leI (by omega) (by omega)] at z1
                  have z2 := z.2.2
                  rw [li_4, pk_sub z1, nI_leI (by omega) (by omega)] at z2
                  omega), li_0, z_0, bd_some, if_pos (by decide)]
              have er : f_X10_things_69_lp N N (nI s) (nI p) (nI q) 0 1 ν = some (0, ν) := by
                obtain ⟨N2, hN2⟩ : ∃ N2, N' = N2 + 1 := ⟨N' - 1, by omega⟩
                have : f_X10_things_69_lp N (N2 + 1 + 1) (nI s) (nI p) (nI q) 0 1 ν = some (0, ν) := by
                  show f_X10_things_69 N (f_X10_things_69_lp N (N2 + 1)) (nI s) (nI p) (nI q) 0 1 ν = _
                  unfold f_X10_things_69
                  rw [if_neg (show ¬ (1 : Int32) = 0 by decide), if_neg (show ¬ nI q ≤ 0 from fun z => by rw [li_0] at z; have := (nI_leI (by omega) (by omega)).mp z; omega), gd_nI (by omega) (by omega), k6, rf_110, if_pos, e66]
                  rw [show (4 : Int32) * 0 = 0 by decide, show nI l - 4 - 0 = nI l - 4 by simp, Int32.lt_iff_toInt_lt, li_4, sub_t (by omega) (by omega), nI_toInt (by omega)]
                  omega
                rw [← hN2, ← hN'] at this
                exact this
              rw [ec, er]
              exact no _
        · rw [if_neg (show ¬ nI c = 1 from fun q => e ((nI_eq (by omega) (by omega)).mp q)), if_neg (show ¬ nI (50 + c) = 51 from fun q => by rw [li_51] at q; have := (nI_eq (by omega) (by omega)).mp q; omega)]
          exact no _
    · rw [if_neg c2, if_neg c2]; exact no _
  · rw [if_neg c1, if_neg c1]; exact no _
