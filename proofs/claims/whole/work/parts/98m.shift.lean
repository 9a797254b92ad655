/-! shift -/
theorem sub_t {a b : Nat} (ha : a < 1000) (hb : b < 2147483648) : (nI a - nI b).toInt = (a : Int) - b := by
  rw [Int32.toInt_sub, nI_toInt (by omega), nI_toInt (by omega)]
  exact Int.bmod_eq_of_le (by omega) (by omega)
/-- a stretch of z from y on lies in m -/
abbrev PT (m : Nat) (y z : Int32) : Prop := (0 ≤ z ∧ z ≤ nI m) ∧ (0 ≤ y ∧ y ≤ nI m - z)
theorem PT_ex {m : Nat} {y z : Int32} (hm : m ≤ 60) (h : PT m y z) : ∃ i q, y = nI i ∧ z = nI q ∧ i + q ≤ m := by
  obtain ⟨⟨h1, h2⟩, h3, h4⟩ := h
  obtain ⟨q, hq, rfl⟩ := nI_of (Int32.not_lt.mpr h1)
  obtain ⟨i, hi, rfl⟩ := nI_of (Int32.not_lt.mpr h3)
  rw [nI_leI (by omega) (by omega)] at h2
  rw [pk_sub h2, nI_leI (by omega) (by omega)] at h4
  exact ⟨i, q, rfl, rfl, by omega⟩
theorem PT_of {m : Nat} {y z : Int32} (hm : m ≤ 60) (h1 : 0 ≤ z) (h2 : 0 ≤ y) (h3 : y ≤ nI m - z) : PT m y z := by
  refine ⟨⟨h1, ?_⟩, h2, h3⟩
  obtain ⟨q, hq, rfl⟩ := nI_of (Int32.not_lt.mpr h1)
  obtain ⟨i, hi, rfl⟩ := nI_of (Int32.not_lt.mpr h2)
  rw [Int32.le_iff_toInt_le, sub_t (by omega) (by omega), nI_toInt (by omega)] at h3
  exact (nI_leI (by omega) (by omega)).mpr (by omega)
theorem sh2_lp (N : Nat) {o j q : Nat} (ho : o < 6) (hj : j + q ≤ 60) {ν0 : am_M} : ∀ (n m k : Nat) (ν : am_M), k + n = q → n + 1 ≤ m → sR o ν0 ν → ν.1 = ν0.1 → (∀ i, i < q → ν.2 214 0 i = ν0.2 214 0 i) → (∀ i, i < 360 → ν.2 213 0 i = if 60 * o + j ≤ i ∧ i < 60 * o + j + k then ν0.2 214 0 (i - (60 * o + j)) else ν0.2 213 0 i) →
    ∃ ν', f_X10_shift_150_lp N m (nI o) (nI j) (nI q) (nI k) ν = some (nI q, ν') ∧ sR o ν0 ν' ∧ ν'.1 = ν0.1 ∧ ∀ i, i < 360 → ν'.2 213 0 i = if 60 * o + j ≤ i ∧ i < 60 * o + j + q then ν0.2 214 0 (i - (60 * o + j)) else ν0.2 213 0 i
  | n, 0, k, ν, h1, h2, hF, hI, h3, h4 => by omega
  | 0, m + 1, k, ν, h1, h2, hF, hI, h3, h4 => by
    unfold f_X10_shift_150_lp f_X10_shift_150
    rw [if_pos ((nI_leI (by omega) (by omega)).mpr (by omega))]
    exact ⟨ν, rfl, hF, hI, fun i hi => by rw [h4 i hi, show k = q by omega]⟩
  | n + 1, m + 1, k, ν, h1, h2, hF, hI, h3, h4 => by
    unfold f_X10_shift_150_lp f_X10_shift_150
    rw [if_neg (fun z => by have := (nI_leI (by omega) (by omega)).mp z; omega), gd_nI (by omega) (by omega), li_60, pk_mul, nI_add, nI_add, gd_nI (by omega) (by omega), am_nme, nI_1, h3 k (by omega)]
    refine sh2_lp N ho hj n m (k + 1) _ (by omega) (by omega) (hF.ul (by omega)) hI (fun i hi => ?_) (fun i hi => ?_)
    · rw [ul2, if_neg (by omega)]; exact h3 i hi
    · rw [ul2]
      by_cases r : i = 60 * o + j + k
      · rw [if_pos ⟨rfl, rfl, r⟩, if_pos (by omega), show i - (60 * o + j) = k by omega]
      · rw [if_neg (fun z => r z.2.2), h4 i hi]
        by_cases s : 60 * o + j ≤ i ∧ i < 60 * o + j + k
        · rw [if_pos s, if_pos (by omega)]
        · rw [if_neg s, if_neg (by omega)]
theorem sh1_lp (N : Nat) (hN : 130 ≤ N) {s o i0 j q : Nat} (hs : s < 6) (ho : o < 6) (hi : i0 + q ≤ 60) (hj : j + q ≤ 60) {ν0 : am_M} : ∀ (n m k : Nat) (ν : am_M), k + n = q → n + 1 ≤ m → sR o ν0 ν → ν.1 = ν0.1 → (∀ i, ν.2 213 0 i = ν0.2 213 0 i) → (∀ i, i < k → ν.2 214 0 i = ν0.2 213 0 (60 * s + i0 + i)) →
    ∃ ν', f_X10_shift_113_lp N m (nI s) (nI i0) (nI o) (nI j) (nI q) (nI k) ν = some (nI q, ν') ∧ sR o ν0 ν' ∧ ν'.1 = ν0.1 ∧ ∀ i, i < 360 → ν'.2 213 0 i = if 60 * o + j ≤ i ∧ i < 60 * o + j + q then ν0.2 213 0 (60 * s + i0 + (i - (60 * o + j))) else ν0.2 213 0 i
  | n, 0, k, ν, h1, h2, hF, hI, h3, h4 => by omega
  | 0, m + 1, k, ν, h1, h2, hF, hI, h3, h4 => by
    unfold f_X10_shift_113_lp f_X10_shift_113
    rw [if_pos ((nI_leI (by omega) (by omega)).mpr (by omega))]
    obtain ⟨ν', e1, e2, e3, e4⟩ := sh2_lp N ho hj (ν0 := ν) q N 0 ν (by omega) (by omega) sR.rf rfl (fun _ _ => rfl) (fun i hi => by rw [if_neg (by omega)])
    rw [li_0, e1]
    refine ⟨ν', rfl, hF.tr e2, e3.trans hI, fun i hi => ?_⟩
    rw [e4 i hi]
    by_cases r : 60 * o + j ≤ i ∧ i < 60 * o + j + q
    · rw [if_pos r, if_pos r, h4 _ (by omega)]
    · rw [if_neg r, if_neg r, h3]
  | n + 1, m + 1, k, ν, h1, h2, hF, hI, h3, h4 => by
    unfold f_X10_shift_113_lp f_X10_shift_113
    rw [if_neg (fun z => by have := (nI_leI (by omega) (by omega)).mp z; omega), li_60, pk_mul, nI_add, nI_add, gd_nI (by omega) (by omega), gd_nI (by omega) (by omega), am_nme, nI_1, h3]
    refine sh1_lp N hN hs ho hi hj n m (k + 1) _ (by omega) (by omega) hF.ul4 hI (fun i => ?_) (fun i hi => ?_)
    · rw [ul2, if_neg (by omega)]; exact h3 i
    · rw [ul2]
      by_cases r : i = k
      · rw [if_pos ⟨rfl, rfl, r⟩, r]
      · rw [if_neg (fun z => r z.2.2)]
        exact h4 i (by omega)
theorem cg_nI {γ : Type} {a b c n : Nat} {k : Nat → Nat → Nat → Option γ} (h1 : a + c ≤ n) (h2 : b + c ≤ n) (hn : n ≤ 1000) : am_cg (nI a) (nI b) (nI c) n k = k a b c := by
  unfold am_cg
  rw [nI_clamp (by omega), nI_clamp (by omega), nI_clamp (by omega), if_neg]
  rintro (q | q | q | q | q)
  · exact nI_pos (by omega) q
  · exact nI_pos (by omega) q
  · exact nI_pos (by omega) q
  · exact q h1
  · exact q h2
theorem copy_c (N : Nat) {μ : am_M} {s o m1 m2 i j q : Nat} (hs : s < 6) (ho : o < 6) (h1 : μ.1 145 0 s = nI m1) (h2 : μ.1 145 0 o = nI m2) (hm1 : m1 ≤ 60) (hm2 : m2 ≤ 60) (hi : i + q ≤ m1) (hj : j + q ≤ m2) :
    f_X4_copy N (nI s) (nI i) (nI o) (nI j) (nI q) μ = some ((), am_uf μ 446 o (va_cpy (μ.2 446 s) (μ.2 446 o) i j q)) := by
  have p1 : PT m1 (nI i) (nI q) := PT_of hm1 (nI_pos' (by omega)) (nI_pos' (by omega)) (by rw [pk_sub (by omega)]; exact (nI_leI (by omega) (by omega)).mpr (by omega))
  have p2 : PT m2 (nI j) (nI q) := PT_of hm2 (nI_pos' (by omega)) (nI_pos' (by omega)) (by rw [pk_sub (by omega)]; exact (nI_leI (by omega) (by omega)).mpr (by omega))
  unfold f_X4_copy f_X4_copy_0
  rw [holdsPart_c N hs h1, bd_some, gI, if_pos p1, holdsPart_c N ho h2, bd_some, gI, if_pos p2, gd_nI (by omega) (by omega), gd_nI (by omega) (by omega), cg_nI (by omega) (by omega) (by omega), am_nme]
set_option maxHeartbeats 1000000 in
theorem shift_ag (N : Nat) (hN : 130 ≤ N) (x y z v w : Int32) : AG (f_X9_shift N x y z v w) (f_X10_shift N x y z v w) := by
  intro μ ν h
  have no : ∀ v : Int32, ∃ r μ' ν', some (v, μ) = some (r, μ') ∧ some (v, ν) = some (r, ν') ∧ AL μ' ν' ∧ cO μ μ' ∧ rO ν ν' := fun v => ⟨_, μ, ν, rfl, rfl, h, cO.rf, rO.rf⟩
  have h0 := h
  obtain ⟨hA, hB, ⟨K, kd, n, hK, hT, hH⟩⟩ := h
  have hK50 := hK.1
  unfold f_X9_shift f_X9_shift_0 f_X10_shift f_X10_shift_0 f_X4_refusalOfTwo f_X4_refusalOfTwo_0 f_X4_refusalOfTwo_66
  rw [isShelf_c, isShelf_r, bd_some, bd_some, gI, gI]
  by_cases c1 : IT 6 x
  · rw [if_pos c1, if_pos c1, isShelf_c, isShelf_r, bd_some, bd_some, gI, gI]
    by_cases c2 : IT 6 z
    · obtain ⟨s, hs, rfl⟩ := IT_ex (by omega) c1
      obtain ⟨o, ho, rfl⟩ := IT_ex (by omega) c2
      rw [if_pos c2, if_pos c2]
      repeat rw [gd_nI (n := 6) (by omega) (by omega)]
      have b50 : ∀ b, b < K → nI b < 50 := fun b hb => by rw [li_50]; exact (nI_ltI (by omega) (by omega)).mpr (by omega)
      have c50 : ∀ c, c ≤ 4 → ¬ nI (50 + c) < 50 := fun c hc => by rw [li_50, nI_ltI (by omega) (by omega)]; omega
      have cm1 : ∀ c, c ≤ 4 → ¬ nI c = -1 := fun c hc => by rcases (by omega : c = 0 ∨ c = 1 ∨ c = 2 ∨ c = 3 ∨ c = 4) with r | r | r | r | r <;> subst r <;> decide
      have c5 : ∀ c, c ≤ 4 → ¬ nI c = nI 5 := fun c hc => by rcases (by omega : c = 0 ∨ c = 1 ∨ c = 2 ∨ c = 3 ∨ c = 4) with r | r | r | r | r <;> subst r <;> decide
      rcases hH s hs with ⟨a1, a2⟩ | ⟨b, hb, a1, a2, a3⟩ | ⟨c, m1, k1, k2, k3, k4, k5, k6, k7⟩
      · rw [a1, a2, if_pos rfl, if_pos (by decide), bd_some, if_neg (by decide)]
        exact no _
      · rw [a1, a3, if_neg (by decide), if_neg (nI_pos (by omega))]
        rcases hH o ho with ⟨d1, d2⟩ | ⟨b', hb', d1, d2, d3⟩ | ⟨c', m2, l1, l2, l3, l4, l5, l6, l7⟩
        · rw [d1, d2, if_pos rfl, bd_some, if_neg (by decide), if_neg (by decide)]
          exact no _
        · rw [d1, d3, if_neg (by decide), if_pos (by decide), bd_some, if_neg (by decide), if_pos (nI_pos' (by omega)), if_pos (b50 b hb)]
          exact no _
        · rw [l3, l5, if_neg (cm1 c' l1), if_pos (by decide), bd_some, if_neg (by decide), if_pos (nI_pos' (by omega)), if_pos (b50 b hb)]
          exact no _
      · rw [k3, k5, if_neg (cm1 c k1), if_neg (nI_pos (by omega))]
        rcases hH o ho with ⟨d1, d2⟩ | ⟨b', hb', d1, d2, d3⟩ | ⟨c', m2, l1, l2, l3, l4, l5, l6, l7⟩
        · rw [d1, d2, if_pos rfl, bd_some, if_neg (by decide), if_neg (by decide)]
          exact no _
        · rw [d1, d3, if_neg (by decide), li_5, if_neg (c5 c k1), if_neg (c5 c k1), bd_some, if_neg (by decide), if_pos (nI_pos' (by omega)), if_neg (c50 c k1), if_neg (fun q => by have := (nI_eq (by omega) (by omega)).mp q; omega)]
          exact no _
        · rw [l3, l5, if_neg (cm1 c' l1), li_5, if_neg (c5 c k1)]
          by_cases e : c = c'
          · subst e
            rw [if_pos rfl, bd_some, if_pos rfl, if_pos (nI_pos' (by omega)), if_neg (c50 c k1), if_pos rfl, k6, l6, holdsPart_c N hs k4, bd_some, gI]
            have hp1 : ((0 ≤ w ∧ w ≤ nI m1) ∧ (0 ≤ y ∧ y ≤ nI m1 - w)) ↔ PT m1 y w := Iff.rfl
            by_cases p1 : PT m1 y w
            · rw [if_pos p1, holdsPart_c N ho l4, bd_some, gI]
              obtain ⟨i, q, rfl, rfl, hiq⟩ := PT_ex k2 p1
              rw [if_neg (nI_pos (by omega)), if_neg (nI_pos (by omega))]
              by_cases p2 : PT m2 v (nI q)
              · obtain ⟨j, q', rfl, e', hjq⟩ := PT_ex l2 p2
                have : q' = q := ((nI_eq (by omega) (by omega)).mp e').symm
                subst this
                rw [if_pos p2, copy_c N hs ho k4 l4 k2 l2 hiq hjq, bd_some, if_neg (nI_pos (by omega)), if_neg (Int32.not_lt.mpr p1.2.2), if_pos p2.2.2, li_0]
                obtain ⟨ν', e1, e2, e3, e4⟩ := sh1_lp N hN hs ho (i0 := i) (j := j) (q := q') (by omega) (by omega) (ν0 := ν) q' N 0 ν (by omega) (by omega) sR.rf rfl (fun _ => rfl) (fun i hi => by omega)
                rw [e1]
                have hsC : sC o μ (am_uf μ 446 o (va_cpy (μ.2 446 s) (μ.2 446 o) i j q')) := ⟨fun _ _ _ _ => rfl, fun k r t hq => by
                  show (if k = 446 ∧ r = o then _ else _) = _
                  rw [if_neg hq]⟩
                obtain ⟨g1, g2, g3⟩ := al_sh h0 ho hsC e2 (fun K kd _ _ => Or.inr (Or.inr ⟨c, m2, k1, l2, l3, l4, by rw [e3]; exact l5, by rw [e3]; exact l6, fun t ht => by
                  have ev : (am_uf μ 446 o (va_cpy (μ.2 446 s) (μ.2 446 o) i j q')).2 446 o t = va_cpy (μ.2 446 s) (μ.2 446 o) i j q' t := by
                    show (if 446 = 446 ∧ o = o then _ else _) = _
                    rw [if_pos ⟨rfl, rfl⟩]
                  rw [ev, e4 _ (by omega)]
                  by_cases r : j ≤ t ∧ t < j + q'
                  · rw [pk_cpy_in r.1 r.2, if_pos (by omega), show 60 * s + i + (60 * o + t - (60 * o + j)) = 60 * s + (i + (t - j)) by omega]
                    exact k7 _ (by omega)
                  · rw [pk_cpy_out (by omega), if_neg (by omega)]
                    exact l7 t ht⟩))
                exact ⟨_, _, ν', rfl, rfl, g1, g2, g3⟩
              · rw [if_neg p2]
                by_cases q1 : v < 0
                · rw [if_pos q1]; exact no _
                · rw [if_neg q1, if_neg (Int32.not_lt.mpr p1.2.2), if_neg (fun q2 => p2 (PT_of l2 (nI_pos' (by omega)) (Int32.not_lt.mp q1) q2))]; exact no _
            · rw [if_neg p1]
              by_cases q0 : w < 0
              · rw [if_pos q0]; exact no _
              rw [if_neg q0]
              by_cases q1 : y < 0
              · rw [if_pos q1]; exact no _
              rw [if_neg q1]
              by_cases q2 : v < 0
              · rw [if_pos q2]; exact no _
              rw [if_neg q2, if_pos (Int32.not_le.mp (fun q3 => p1 (PT_of k2 (Int32.not_lt.mp q0) (Int32.not_lt.mp q1) q3)))]
              exact no _
          · rw [if_neg (fun q => e ((nI_eq (by omega) (by omega)).mp q)), bd_some, if_neg (by decide), if_pos (nI_pos' (by omega)), if_neg (c50 c k1), if_neg (fun q => by have := (nI_eq (by omega) (by omega)).mp q; omega)]
            exact no _
    · rw [if_neg c2, if_neg c2, bd_some, if_neg (by decide)]; exact no _
  · rw [if_neg c1, if_neg c1, bd_some, if_neg (by decide)]; exact no _
