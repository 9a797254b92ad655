/-! tell, feed -/
def okd : Nat → Nat → Bool
  | 0, d => d == 0
  | n + 1, d => (decide (d % 10 ≤ 3)) && okd n (d / 10)
theorem okd_0 : ∀ n, okd n 0 = true
  | 0 => rfl
  | n + 1 => by
    unfold okd
    have := okd_0 n
    simp [this]
theorem okd_ex : ∀ (n d : Nat), okd n d = true → ∃ b, b < 4 ^ n ∧ d = bdg n b
  | 0, d, h => ⟨0, by decide, by
    have e : d = 0 := by simpa [okd] using h
    exact e⟩
  | n + 1, d, h => by
    unfold okd at h
    simp only [Bool.and_eq_true, decide_eq_true_eq] at h
    obtain ⟨b, hb, e⟩ := okd_ex n (d / 10) h.2
    refine ⟨4 * b + d % 10, by rw [Nat.pow_succ]; omega, ?_⟩
    show d = bdg n ((4 * b + d % 10) / 4) * 10 + (4 * b + d % 10) % 4
    rw [show (4 * b + d % 10) / 4 = b by omega, ← e]
    omega
theorem ib_lp (N : Nat) {T : Nat} (hT : T ≤ 6) {μ : am_M} (h : μ.1 1 0 1 = nI T) {x : Int32} (hx : ¬ x < 0) : ∀ (n m t d : Nat), t + n = T → n + 1 ≤ m → d < 2147483648 → f_X5_isBasket_4_lp N m x (nI d) (nI t) μ = some (b2 (okd n d), μ)
  | n, 0, t, d, h1, h2, h3 => by omega
  | 0, m + 1, t, d, h1, h2, h3 => by
    unfold f_X5_isBasket_4_lp f_X5_isBasket_4
    rw [h, if_pos ((nI_leI (by omega) (by omega)).mpr (by omega)), if_neg hx]
    unfold okd
    by_cases q : d = 0
    · subst q
      rw [if_pos (by decide)]
      exact z_1 μ
    · rw [if_neg (nI_ne0 (by omega) (by omega)), li_0, z_0]
      have : (d == 0) = false := by simpa using q
      rw [this]
      rfl
  | n + 1, m + 1, t, d, h1, h2, h3 => by
    unfold f_X5_isBasket_4_lp f_X5_isBasket_4
    rw [h, if_neg (fun z => by have := (nI_leI (by omega) (by omega)).mp z; omega), li_10, rem_nI h3 (by omega) (by omega), pk_div h3 (by omega) (by omega)]
    unfold okd
    by_cases q : d % 10 ≤ 3
    · rw [if_pos (by rw [li_3]; exact (nI_leI (by omega) (by omega)).mpr q), am_nme, nI_1, ib_lp N hT h hx n m (t + 1) (d / 10) (by omega) (by omega) (by omega)]
      simp [q]
    · rw [if_neg (by rw [li_3]; exact fun z => q ((nI_leI (by omega) (by omega)).mp z)), li_0, z_0]
      simp [q]
      rfl
theorem ibn_lp (N : Nat) {T : Nat} (hT : T ≤ 6) {μ : am_M} (h : μ.1 1 0 1 = nI T) {x : Int32} (hx : x < 0) : ∀ (n m t : Nat) (y : Int32), t + n = T → n + 1 ≤ m → f_X5_isBasket_4_lp N m x y (nI t) μ = some (nI 0, μ)
  | n, 0, t, y, h1, h2 => by omega
  | 0, m + 1, t, y, h1, h2 => by
    unfold f_X5_isBasket_4_lp f_X5_isBasket_4
    rw [h, if_pos ((nI_leI (by omega) (by omega)).mpr (by omega)), if_pos hx, li_0, z_0]
  | n + 1, m + 1, t, y, h1, h2 => by
    unfold f_X5_isBasket_4_lp f_X5_isBasket_4
    rw [h, if_neg (fun z => by have := (nI_leI (by omega) (by omega)).mp z; omega)]
    by_cases q : am_rem y 10 ≤ 3
    · rw [if_pos q, am_nme, nI_1]
      exact ibn_lp N hT h hx n m (t + 1) _ (by omega) (by omega)
    · rw [if_neg q, li_0, z_0]
theorem ad_lp (N : Nat) {T : Nat} (hT : T ≤ 6) {ν : am_M} (h : ν.1 10 0 6 = nI T) : ∀ (k m c d : Nat), d < 10 ^ k → d < 2147483648 → k + 1 ≤ m → c + k ≤ 100 → f_X10_areDigits_10_lp N m (nI c) (nI d) ν = some (b2 (decide (c ≤ T) && okd (T - c) d), ν)
  | k, 0, c, d, h1, h2, h3, h4 => by omega
  | k, m + 1, c, d, h1, h2, h3, h4 => by
    unfold f_X10_areDigits_10_lp f_X10_areDigits_10
    by_cases q : d = 0
    · subst q
      rw [if_pos (by decide), h, okd_0]
      by_cases r : c ≤ T
      · rw [if_neg (by rw [nI_ltI (by omega) (by omega)]; omega), li_1, z_1]
        simp [r]; rfl
      · rw [if_pos (by rw [nI_ltI (by omega) (by omega)]; omega), li_0, z_0]
        simp [r]; rfl
    · rw [if_neg (nI_nle (by omega) (by omega)), li_10, rem_nI h2 (by omega) (by omega), pk_div h2 (by omega) (by omega)]
      cases k with
      | zero => simp at h1; omega
      | succ k =>
        by_cases r : d % 10 ≤ 3
        · rw [if_pos (by rw [li_3]; exact (nI_leI (by omega) (by omega)).mpr r), am_nme, nI_1, ad_lp N hT h k m (c + 1) (d / 10) (by rw [Nat.pow_succ] at h1; omega) (by omega) (by omega) (by omega)]
          by_cases s : c + 1 ≤ T
          · obtain ⟨j, hj⟩ : ∃ j, T - c = j + 1 := ⟨T - c - 1, by omega⟩
            rw [hj, show T - (c + 1) = j by omega]
            have hs : c ≤ T := by omega
            simp [okd, r, s, hs]
          · have hs : T - c = 0 := by omega
            have hq : (d == 0) = false := by simpa using q
            rw [hs]
            simp [okd, s, hq]
        · rw [if_neg (by rw [li_3]; exact fun z => r ((nI_leI (by omega) (by omega)).mp z)), li_0, z_0]
          cases e : T - c with
          | zero =>
            have hq : (d == 0) = false := by simpa using q
            simp [okd, hq]; rfl
          | succ j => simp [okd, r]; rfl
theorem tell_ag (N : Nat) (hN : 130 ≤ N) (x y : Int32) : AG (f_X9_tell N x y) (f_X10_tell N x y) := by
  intro μ ν h
  have no : ∃ r μ' ν', some ((-1 : Int32), μ) = some (r, μ') ∧ some ((-1 : Int32), ν) = some (r, ν') ∧ AL μ' ν' ∧ cO μ μ' ∧ rO ν ν' := ⟨_, μ, ν, rfl, rfl, h, cO.rf, rO.rf⟩
  have h0 := h
  obtain ⟨⟨T, S, a, W, tx, d, u, E, D, h1, h2, h3, h4, h5, h6, h7, h8⟩, hB, hD⟩ := h
  have hT6 := h1.1.1
  have hS5 := h1.1.2.1
  unfold f_X9_tell f_X9_tell_0 f_X10_tell f_X10_tell_0 f_X5_isBasket f_X5_isBasket_0 f_X10_areDigits f_X10_areDigits_0
  simp only [hasSort_c N h1.2.2.1, isSort_r N h2.2.2.1, bd_some, gI]
  by_cases c1 : IT S x
  · rw [if_pos c1, if_pos c1]
    obtain ⟨s, hs, rfl⟩ := IT_ex (by omega) c1
    by_cases c2 : y < 0
    · rw [if_neg (Int32.not_le.mpr c2), li_0, ibn_lp N hT6 h1.2.1 c2 T N 0 y (by omega) (by omega), z_0, bd_some, bd_some, if_pos rfl, if_pos rfl]
      exact no
    · rw [if_pos (Int32.not_lt.mp c2)]
      obtain ⟨dd, hdd, rfl⟩ := nI_of c2
      rw [li_0, ib_lp N hT6 h1.2.1 c2 T N 0 dd (by omega) (by omega) hdd, ad_lp N hT6 h2.2.1 10 N 0 dd (by omega) hdd (by omega) (by omega), bd_some, bd_some]
      simp only [Nat.zero_le, decide_true, Bool.true_and, Nat.sub_zero]
      cases q : okd T dd with
      | false => exact no
      | true =>
        rw [if_neg (by decide), if_neg (by decide)]
        obtain ⟨b, hb, e⟩ := okd_ex T dd q
        unfold f_X2_hear f_X2_hear_0
        rw [w_cls, bd_some, gI, if_pos (by rw [li_4]; exact ⟨nI_pos' (by omega), (nI_leI (by omega) (by omega)).mpr (by omega)⟩), gd_nI (by omega) (by omega)]
        simp only [am_nme]
        rw [gd_nI (by omega) (by omega), gd_nI (by omega) (by omega), gd_nI (by omega) (by omega), (h6 s (by omega)).2, (h7 s (by omega)).2, bd_some]
        have eF : fr (fun k _ => k == 99) μ (am_ui μ 99 0 s (nI dd)) := fr.rf.ui rfl
        have eG : fr (fun k _ => k == 172) ν (am_ui ν 172 0 s (nI dd)) := fr.rf.ui rfl
        have go : ∀ (c : Nat) (κ : am_M), TL c κ T D → TL c (am_ui κ c 0 s (nI dd)) T (fun z => if z = s then b else D z) := fun c κ hk z hz => by
          by_cases r : z = s
          · subst r
            simp only [if_true, ui1, and_self]
            exact ⟨hb, by rw [e]⟩
          · simp only [ui1, r, and_false, if_false]
            exact hk z hz
        refine ⟨_, _, _, rfl, rfl, ⟨⟨T, S, a, W, tx, d, u, E, fun z => if z = s then b else D z, ?_, ?_, h3.ag (eF.nt ?_), h4.ag (eG.nt ?_), h5, go 99 μ h6, go 172 ν h7, fun z hz hz2 => ?_⟩, hB.ag (eF.1 3 0 1 rfl) (fun j => eF.1 48 0 j rfl) (eG.1 10 0 14 rfl) (fun j => eG.1 173 0 j rfl), hD.ag (eF.nt ?_) (fun r i => rfl) (eG.nt ?_) (fun i => rfl)⟩, eF.cO ?_, eG.rO ?_⟩
        · obtain ⟨k1, k2, k3, k4, k5, k6, k7, k8⟩ := h1
          exact ⟨k1, (eF.1 1 0 1 rfl).trans k2, (eF.1 1 0 2 rfl).trans k3, (eF.1 4 0 2 rfl).trans k4, fun c i hc hi => (eF.1 316 c i rfl).trans (k5 c i hc hi), fun c i hc hc2 hi => (eF.1 316 c i rfl).trans (k6 c i hc hc2 hi), fun w hw => ⟨(k7 w hw).1, (eF.1 65 0 w rfl).trans (k7 w hw).2.1, fun j hj => (eF.1 364 w j rfl).trans ((k7 w hw).2.2 j hj)⟩, fun t ht => (eF.1 384 t 0 rfl).trans (k8 t ht)⟩
        · obtain ⟨k1, k2, k3, k4, k5, k6, k7, k8⟩ := h2
          exact ⟨k1, (eG.1 10 0 6 rfl).trans k2, (eG.1 10 0 8 rfl).trans k3, (eG.1 10 0 15 rfl).trans k4, fun i hi => ⟨(eG.1 160 0 i rfl).trans (k5 i hi).1, (eG.1 160 0 _ rfl).trans (k5 i hi).2.1, (eG.1 160 0 _ rfl).trans (k5 i hi).2.2.1, (eG.1 167 0 i rfl).trans (k5 i hi).2.2.2⟩, fun s hs => ⟨(eG.1 169 0 s rfl).trans (k6 s hs).1, (eG.1 160 0 _ rfl).trans (k6 s hs).2.1, (eG.1 160 0 _ rfl).trans (k6 s hs).2.2.1, (eG.1 170 0 s rfl).trans (k6 s hs).2.2.2.1, (eG.1 171 0 s rfl).trans (k6 s hs).2.2.2.2⟩, fun w hw => ⟨(k7 w hw).1, (eG.1 177 0 w rfl).trans (k7 w hw).2.1, fun j hj => (eG.1 176 0 _ rfl).trans ((k7 w hw).2.2 j hj)⟩, (eG.1 10 0 29 rfl).trans k8⟩
        · intro k i q z
          simp only [p_h, Bool.or_eq_true, Bool.and_eq_true, beq_iff_eq] at q z
          omega
        · intro k i q z
          simp only [p_hr, Bool.or_eq_true, Bool.and_eq_true, beq_iff_eq] at q z
          omega
        · simp only [if_neg (show ¬ z = s by omega)]
          exact h8 z hz hz2
        · intro k i q z
          simp only [qD, Bool.or_eq_true, Bool.and_eq_true, beq_iff_eq] at q z
          omega
        · intro k i q z
          simp only [rD, Bool.or_eq_true, Bool.and_eq_true, beq_iff_eq] at q z
          omega
        · intro k i q
          simp only [beq_iff_eq] at q
          exact decide_eq_false (by omega)
        · intro k i q
          simp only [beq_iff_eq] at q
          exact decide_eq_true (by omega)
  · rw [if_neg c1, if_neg c1]; exact no
/-! feed -/
def p_fd (k i : Nat) : Bool := k == 48 || (k == 3 && i == 1)
def p_fr (k i : Nat) : Bool := k == 173 || (k == 10 && i == 14)
def XBw (μ ν : am_M) (L : Nat) (b : Nat → Nat) : Prop := L ≤ 120 ∧ μ.1 3 0 1 = nI L ∧ ν.1 10 0 14 = nI L ∧ ∀ j, j < L → b j < 256 ∧ μ.1 48 0 j = nI (b j) ∧ ν.1 173 0 j = nI (b j)
theorem fd_lp (N : Nat) {M : Nat} (hM : M ≤ 4) {v : Int32} {μ0 ν0 : am_M} : ∀ (n m k L : Nat) (b : Nat → Nat) (μ ν : am_M), k + n = M → n + 1 ≤ m → L + n ≤ 120 → XBw μ ν L b → fr p_fd μ0 μ → fr p_fr ν0 ν →
    ∃ r μ' ν' L' b', f_X6_take_16_lp N m (nI M) v (nI k) μ = some (r, μ') ∧ f_X10_feed_30_lp N m (nI M) v (nI k) ν = some (r, ν') ∧ XBw μ' ν' L' b' ∧ fr p_fd μ0 μ' ∧ fr p_fr ν0 ν'
  | n, 0, k, L, b, μ, ν, h1, h2, h3, hX, hF, hG => by omega
  | 0, m + 1, k, L, b, μ, ν, h1, h2, h3, hX, hF, hG => by
    unfold f_X6_take_16_lp f_X6_take_16 f_X10_feed_30_lp f_X10_feed_30
    rw [if_pos ((nI_leI (by omega) (by omega)).mpr (by omega)), if_pos ((nI_leI (by omega) (by omega)).mpr (by omega)), hX.2.1, hX.2.2.1]
    exact ⟨_, μ, ν, L, b, rfl, rfl, hX, hF, hG⟩
  | n + 1, m + 1, k, L, b, μ, ν, h1, h2, h3, hX, hF, hG => by
    unfold f_X6_take_16_lp f_X6_take_16 f_X10_feed_30_lp f_X10_feed_30
    rw [if_neg (fun z => by have := (nI_leI (by omega) (by omega)).mp z; omega), hX.2.1, if_neg (fun z => by rw [li_120] at z; have := (nI_leI (by omega) (by omega)).mp z; omega), if_neg (fun z => by have := (nI_leI (by omega) (by omega)).mp z; omega), hX.2.2.1]
    obtain ⟨by_, hby, e⟩ := pk_andE (v >>> ((8 * nI k) &&& 31)) (m := 255) 8 (by decide)
    rw [gd_nI (by omega) (by omega), gd_nI (by omega) (by omega), e]
    simp only [am_nme, ui1, Nat.reduceEqDiff, false_and, if_false, hX.2.1, hX.2.2.1, nI_1]
    refine fd_lp N hM n m (k + 1) (L + 1) (fun j => if j = L then by_ else b j) _ _ (by omega) (by omega) (by omega) ⟨by omega, by simp [ui1], by simp [ui1], fun j hj => ?_⟩ ((hF.ui rfl).ui rfl) ((hG.ui rfl).ui rfl)
    by_cases q : j = L
    · subst q
      simp [ui1]
      omega
    · simp only [ui1, Nat.reduceEqDiff, false_and, if_false, q, and_false]
      exact hX.2.2.2 j (by omega)
theorem feed_ag (N : Nat) (hN : 130 ≤ N) (x y : Int32) : AG (f_X9_feed N x y) (f_X10_feed N x y) := by
  intro μ ν h
  have h0 := h
  obtain ⟨hA, ⟨L, b, hX⟩, hD⟩ := h
  unfold f_X9_feed f_X9_feed_0 f_X10_feed f_X10_feed_0 f_X6_take f_X6_take_0
  simp only [w_cls, w_ref N x 1 4 1 4 (by decide) (by decide), bd_some, gI]
  by_cases c1 : 1 ≤ x ∧ x ≤ 4
  · rw [if_pos c1, if_pos c1]
    obtain ⟨M, hM1, hM, rfl⟩ := rd_ex (M := 4) (K := 4) (by decide) c1
    rw [hX.2.1, hX.2.2.1, nI_add]
    have hL := hX.1
    by_cases c2 : L + M ≤ 120
    · rw [if_pos (by rw [li_120]; exact (nI_leI (by omega) (by omega)).mpr c2), if_pos (by rw [li_120]; exact (nI_leI (by omega) (by omega)).mpr c2)]
      obtain ⟨r, μ', ν', L', b', e1, e2, e3, e4, e5⟩ := fd_lp N hM (v := y) M N 0 L b μ ν (by omega) (by omega) c2 hX fr.rf fr.rf
      rw [li_0, e1, bd_some, e2]
      refine ⟨r, μ', ν', rfl, rfl, ⟨hA.ag (e4.nt ?_) (e5.nt ?_), ⟨L', b', e3⟩, hD.ag (e4.nt ?_) (fun r i => by rw [e4.2]) (e5.nt ?_) (fun i => by rw [e5.2])⟩, e4.cO ?_, e5.rO ?_⟩
      · intro k i q z
        simp only [p_fd, qA, Bool.or_eq_true, Bool.and_eq_true, beq_iff_eq] at q z
        omega
      · intro k i q z
        simp only [p_fr, rA, Bool.or_eq_true, Bool.and_eq_true, beq_iff_eq] at q z
        omega
      · intro k i q z
        simp only [p_fd, qD, Bool.or_eq_true, Bool.and_eq_true, beq_iff_eq] at q z
        omega
      · intro k i q z
        simp only [p_fr, rD, Bool.or_eq_true, Bool.and_eq_true, beq_iff_eq] at q z
        omega
      · intro k i q
        simp only [p_fd, Bool.or_eq_true, Bool.and_eq_true, beq_iff_eq] at q
        exact decide_eq_false (by omega)
      · intro k i q
        simp only [p_fr, Bool.or_eq_true, Bool.and_eq_true, beq_iff_eq] at q
        exact decide_eq_true (by omega)
    · rw [if_neg (by rw [li_120]; exact fun z => c2 ((nI_leI (by omega) (by omega)).mp z)), if_neg (by rw [li_120]; exact fun z => c2 ((nI_leI (by omega) (by omega)).mp z)), bd_some]
      exact ⟨_, μ, ν, rfl, rfl, h0, cO.rf, rO.rf⟩
  · rw [if_neg c1, if_neg c1]
    exact ⟨_, μ, ν, rfl, rfl, h0, cO.rf, rO.rf⟩
