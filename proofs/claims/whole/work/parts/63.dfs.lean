/-! the class's search -/
def BB (T : Nat) (w : Nat → Nat → Nat) (c p : Nat → Nat) (pu bo pr : Nat) : Prop := T ≤ 6 ∧ (∀ t m, m ≤ 3 → w t m ≤ 2997) ∧ (∀ t m, m ≤ 3 → w t m ≤ w t 3) ∧ (∀ t, c t ≤ 10000) ∧ (∀ t, p t ≤ 99) ∧ pu ≤ 20000 ∧ bo ≤ 400 ∧ pr ≤ 200
def DM (μ : am_M) (T : Nat) (w : Nat → Nat → Nat) (c p : Nat → Nat) (pu bo pr : Nat) : Prop := μ.1 1 0 1 = nI T ∧ TC μ T c p ∧ (∀ t m, t < T → m ≤ 3 → μ.1 384 t m = nI (w t m)) ∧ (∀ i, i ≤ T → μ.1 85 0 i = nI (rsum w i (T - i))) ∧ μ.1 5 0 6 = nI pu ∧ μ.1 5 0 7 = nI bo ∧ μ.1 5 0 8 = nI pr
def p_de (k i : Nat) : Bool := k == 5 && (i == 9 || i == 10 || i == 11 || i == 12)
theorem DM.of {μ μ' : am_M} {T : Nat} {w : Nat → Nat → Nat} {c p : Nat → Nat} {pu bo pr : Nat} (h : DM μ T w c p pu bo pr) (hf : fr p_de μ μ') : DM μ' T w c p pu bo pr := by
  obtain ⟨h1, h2, h3, h4, h5, h6, h7⟩ := h
  exact ⟨(hf.1 1 0 1 rfl).trans h1, h2.of hf (fun _ => rfl) (fun _ => rfl), fun t m ht hm => (hf.1 384 t m rfl).trans (h3 t m ht hm), fun i hi => (hf.1 85 0 i rfl).trans (h4 i hi), (hf.1 5 0 6 rfl).trans h5, (hf.1 5 0 7 rfl).trans h6, (hf.1 5 0 8 rfl).trans h7⟩
def ST (μ : am_M) (T : Nat) (w : Nat → Nat → Nat) (c p : Nat → Nat) : Option Nat → Prop
  | none => μ.1 5 0 9 = -1
  | some b => μ.1 5 0 9 = nI (bw w T b) ∧ μ.1 5 0 10 = nI (bc c T b) ∧ μ.1 5 0 11 = nI (bc p T b) ∧ μ.1 5 0 12 = nI (bdg T b)
theorem pay_c (N : Nat) {μ : am_M} {T : Nat} {w : Nat → Nat → Nat} {c p : Nat → Nat} {pu bo pr : Nat} (hB : BB T w c p pu bo pr) (h : DM μ T w c p pu bo pr) {C P : Nat} (hC : C ≤ 1000000) (hP : P ≤ 10000) : f_X7_isPayable N (nI C) (nI P) μ = some (if C + pr * (P - bo) ≤ pu then nI 1 else nI 0, μ) := by
  obtain ⟨h1, h2, h3, h4, h5, h6, h7⟩ := h
  obtain ⟨-, -, -, -, -, b6, b7, b8⟩ := hB
  have hm : pr * (P - bo) ≤ 200 * 10000 := Nat.mul_le_mul b8 (by omega)
  unfold f_X7_isPayable f_X7_isPayable_0 f_X7_isPayable_18
  rw [h5, h6, h7]
  by_cases d : P ≤ bo
  · rw [if_pos ((nI_leI (by omega) (by omega)).mpr d)]
    have e0 : P - bo = 0 := by omega
    rw [e0, li_0, pk_mul, nI_add]
    by_cases z : C + pr * 0 ≤ pu
    · rw [if_pos z, if_neg (fun q => by have := (nI_ltI (by omega) (by omega)).mp q; omega), li_1, z_1]
    · rw [if_neg z, if_pos ((nI_ltI (by omega) (by omega)).mpr (by omega)), z_0]
  · rw [if_neg (fun q => d ((nI_leI (by omega) (by omega)).mp q)), pk_sub (by omega), pk_mul, nI_add]
    by_cases z : C + pr * (P - bo) ≤ pu
    · rw [if_pos z, if_neg (fun q => by have := (nI_ltI (by omega) (by omega)).mp q; omega), li_1, z_1]
    · rw [if_neg z, if_pos ((nI_ltI (by omega) (by omega)).mpr (by omega)), li_0, z_0]
theorem cmp_c (N : Nat) {μ : am_M} {T : Nat} {w : Nat → Nat → Nat} {c p : Nat → Nat} {pu bo pr : Nat} (hB : BB T w c p pu bo pr) {cur : Option Nat} (h : ST μ T w c p cur) (b : Nat) :
    ∃ μ' cur', f_X7_compare N (nI (bw w T b)) (nI (bc c T b)) (nI (bc p T b)) (nI (bdg T b)) μ = some ((), μ') ∧ fr p_de μ μ' ∧ ST μ' T w c p cur' ∧ (∀ b0, cur = some b0 → ((beats w c p T b0 b ∧ cur' = some b0) ∨ (¬ beats w c p T b0 b ∧ cur' = some b))) ∧ (cur = none → cur' = some b) := by
  obtain ⟨b1, b2', b3, b4, b5, -⟩ := hB
  have hW : ∀ b, bw w T b ≤ 17982 := fun b => Nat.le_trans (bw_le w 2997 b2' T b) (by omega)
  have hC : ∀ b, bc c T b ≤ 180000 := fun b => Nat.le_trans (bc_le c 10000 b4 T b) (by omega)
  have hP : ∀ b, bc p T b ≤ 1782 := fun b => Nat.le_trans (bc_le p 99 b5 T b) (by omega)
  have h54y : ∀ x5 : Int32, x5 ≠ 0 → ∃ μ', f_X7_compare_54 N (nI (bw w T b)) (nI (bc c T b)) (nI (bc p T b)) (nI (bdg T b)) x5 μ = some ((), μ') ∧ fr p_de μ μ' ∧ ST μ' T w c p (some b) := by
    intro x5 hx
    unfold f_X7_compare_54
    rw [if_neg hx]
    simp only [am_nm]
    exact ⟨_, rfl, (((fr.rf.ui rfl).ui rfl).ui rfl).ui rfl, by simp [ui1], by simp [ui1], by simp [ui1], by simp [ui1]⟩
  have h54n : f_X7_compare_54 N (nI (bw w T b)) (nI (bc c T b)) (nI (bc p T b)) (nI (bdg T b)) 0 μ = some ((), μ) := by
    unfold f_X7_compare_54
    rw [if_pos rfl]
  unfold f_X7_compare f_X7_compare_0 f_X7_compare_13 f_X7_compare_47 f_X7_compare_51 f_X7_compare_52
  cases cur with
  | none =>
    have h : μ.1 5 0 9 = -1 := h
    rw [h, if_neg (fun q => absurd (Int32.le_trans (nI_pos' (n := bw w T b) (by have := hW b; omega)) q) (by decide)), if_neg (fun q => absurd (nI_pos' (n := bw w T b) (by have := hW b; omega)) (by rw [q]; decide))]
    obtain ⟨μ', e1, e2, e3⟩ := h54y 1 (by decide)
    exact ⟨μ', some b, e1, e2, e3, fun b0 q => (by cases q), fun _ => rfl⟩
  | some b0 =>
    obtain ⟨s1, s2, s3, s4⟩ := h
    have w1 := hW b; have w2 := hW b0; have c1 := hC b; have c2 := hC b0; have p1 := hP b; have p2 := hP b0
    rw [s1, s2, s3]
    simp (disch := omega) only [nI_leI, nI_ltI, nI_eq]
    obtain ⟨μ', e1, e2, e3⟩ := h54y 1 (by decide)
    have keep : beats w c p T b0 b → ∀ b0', some b0 = some b0' → ((beats w c p T b0' b ∧ some b0 = some b0') ∨ (¬ beats w c p T b0' b ∧ some b0 = some b)) := fun hb b0' q => by cases q; exact Or.inl ⟨hb, rfl⟩
    have take : ¬ beats w c p T b0 b → ∀ b0', some b0 = some b0' → ((beats w c p T b0' b ∧ some b = some b0') ∨ (¬ beats w c p T b0' b ∧ some b = some b)) := fun hb b0' q => by cases q; exact Or.inr ⟨hb, rfl⟩
    have fin_n : beats w c p T b0 b → ∃ μ' cur', f_X7_compare_54 N (nI (bw w T b)) (nI (bc c T b)) (nI (bc p T b)) (nI (bdg T b)) 0 μ = some ((), μ') ∧ fr p_de μ μ' ∧ ST μ' T w c p cur' ∧ (∀ b0', some b0 = some b0' → ((beats w c p T b0' b ∧ cur' = some b0') ∨ (¬ beats w c p T b0' b ∧ cur' = some b))) ∧ (some b0 = none → cur' = some b) := fun hb => ⟨μ, some b0, h54n, fr.rf, ⟨s1, s2, s3, s4⟩, keep hb, fun q => (by cases q)⟩
    have fin_y : ¬ beats w c p T b0 b → ∃ μ' cur', f_X7_compare_54 N (nI (bw w T b)) (nI (bc c T b)) (nI (bc p T b)) (nI (bdg T b)) 1 μ = some ((), μ') ∧ fr p_de μ μ' ∧ ST μ' T w c p cur' ∧ (∀ b0', some b0 = some b0' → ((beats w c p T b0' b ∧ cur' = some b0') ∨ (¬ beats w c p T b0' b ∧ cur' = some b))) ∧ (some b0 = none → cur' = some b) := fun hb => ⟨μ', some b, e1, e2, e3, take hb, fun q => (by cases q)⟩
    by_cases d1 : bw w T b ≤ bw w T b0
    · rw [if_pos d1]
      by_cases d2 : bw w T b = bw w T b0
      · rw [if_pos d2]
        by_cases d3 : bc c T b < bc c T b0
        · rw [if_pos d3]; exact fin_y (by unfold beats; omega)
        · rw [if_neg d3]
          by_cases d4 : bc c T b = bc c T b0
          · rw [if_pos d4]
            by_cases d5 : bc p T b0 < bc p T b
            · rw [if_pos d5]; exact fin_n (by unfold beats; omega)
            · rw [if_neg d5]; exact fin_y (by unfold beats; omega)
          · rw [if_neg d4]; exact fin_n (by unfold beats; omega)
      · rw [if_neg d2]; exact fin_n (by unfold beats; omega)
    · rw [if_neg d1, if_neg (by omega)]; exact fin_y (by unfold beats; omega)
def xj (j : Nat) : Int32 := if j = 0 then -1 else nI (j - 1)
theorem dfs_c (N : Nat) (hN : 130 ≤ N) {T : Nat} {w : Nat → Nat → Nat} {c p : Nat → Nat} {pu bo pr : Nat} (hB : BB T w c p pu bo pr) : ∀ (k i q D : Nat) (cur : Option Nat) (μ : am_M), i + k = T → k + 1 ≤ D → q < 4 ^ i → DM μ T w c p pu bo pr → ST μ T w c p cur → pay pu bo pr (bc c i q) (bc p i q) → Bst w c p T (fun b => pay pu bo pr (bc c T b) (bc p T b)) (fun z => (q + 1) * 4 ^ k ≤ z) cur →
    ∃ μ' cur', f_X7_descend_r N D (nI i) (nI (bw w i q)) (nI (bc c i q)) (nI (bc p i q)) (nI (bdg i q)) μ = some ((), μ') ∧ fr p_de μ μ' ∧ ST μ' T w c p cur' ∧ Bst w c p T (fun b => pay pu bo pr (bc c T b) (bc p T b)) (fun z => q * 4 ^ k ≤ z) cur'
  | k, i, q, 0, cur, μ, h1, h2, h3, h4, h5, h6, h7 => by omega
  | 0, i, q, D + 1, cur, μ, h1, h2, h3, h4, h5, h6, h7 => by
    have hi : i = T := by omega
    subst hi
    have hT := hB.1
    unfold f_X7_descend_r f_X7_descend_0 f_X7_descend_17
    rw [h4.1, if_pos ((nI_leI (by omega) (by omega)).mpr (Nat.le_refl _))]
    obtain ⟨μ', cur', e1, e2, e3, e4⟩ := cmp_c N hB h5 q
    rw [e1]
    refine ⟨μ', cur', rfl, e2, e3, ?_⟩
    have := Bst_down (w := w) (c := c) (p := p) (T := i) (py := fun b => pay pu bo pr (bc c i b) (bc p i b)) h3 h6 (by simpa using h7) cur' e4
    simpa using this
  | k + 1, i, q, D + 1, cur, μ, h1, h2, h3, h4, h5, h6, h7 => by
    obtain ⟨b1, b2', b3, b4, b5, b6, b7, b8⟩ := id hB
    have hWi := bw_le w 2997 b2' i q
    have hCi := bc_le c 10000 b4 i q
    have hPi := bc_le p 99 b5 i q
    have hDi : bdg i q < 10 ^ 6 := Nat.lt_of_lt_of_le (bdg_lt i q) (Nat.pow_le_pow_right (by decide) (by omega))
    have hRi := rsum_le w 2997 b2' i (k + 1)
    have h10 : (10 : Nat) ^ 6 = 1000000 := by decide
    have hTi : T - i = k + 1 := by omega
    have hp4 : 4 ^ (k + 1) = 4 * 4 ^ k := by rw [Nat.pow_succ, Nat.mul_comm]
    have hpos : 0 < 4 ^ k := Nat.pow_pos (by decide)
    -- the loop over how many
    have loop : ∀ (j m : Nat) (cur : Option Nat) (μ : am_M), j ≤ 4 → j + 1 ≤ m → DM μ T w c p pu bo pr → ST μ T w c p cur → Bst w c p T (fun b => pay pu bo pr (bc c T b) (bc p T b)) (fun z => (q * 4 + j) * 4 ^ k ≤ z) cur →
        ∃ μ' cur', f_X7_descend_47_lp N (f_X7_descend_r N D) m (nI i) (nI (bw w i q)) (nI (bc c i q)) (nI (bc p i q)) (nI (bdg i q)) (xj j) μ = some ((), μ') ∧ fr p_de μ μ' ∧ ST μ' T w c p cur' ∧ Bst w c p T (fun b => pay pu bo pr (bc c T b) (bc p T b)) (fun z => q * 4 * 4 ^ k ≤ z) cur' := by
      intro j
      induction j with
      | zero =>
        intro m cur μ _ hm hD hS hBs
        obtain ⟨m, rfl⟩ : ∃ m', m = m' + 1 := ⟨m - 1, by omega⟩
        unfold f_X7_descend_47_lp f_X7_descend_47
        rw [if_pos (by decide)]
        exact ⟨μ, cur, rfl, fr.rf, hS, by simpa using hBs⟩
      | succ j ih =>
        intro m cur μ hj hm hD hS hBs
        obtain ⟨m, rfl⟩ : ∃ m', m = m' + 1 := ⟨m - 1, by omega⟩
        unfold f_X7_descend_47_lp f_X7_descend_47 f_X7_descend_120
        have ex : xj (j + 1) = nI j := by unfold xj; rw [if_neg (by omega)]; rfl
        have ex2 : xj (j + 1) + -1 = xj j := by
          rw [ex]; unfold xj
          cases j with
          | zero => decide
          | succ j => rw [if_neg (by omega), pk_m1]; rfl
        rw [ex2, ex, if_neg (nI_pos (by omega))]
        have ht := hD.2.1 i (by omega)
        obtain ⟨q1, q2⟩ := q4 q j (by omega)
        have eC : bc c (i + 1) (q * 4 + j) = bc c i q + j * c i := by
          show bc c i ((q * 4 + j) / 4) + ((q * 4 + j) % 4) * c i = _
          rw [q1, q2]
        have eP : bc p (i + 1) (q * 4 + j) = bc p i q + j * p i := by
          show bc p i ((q * 4 + j) / 4) + ((q * 4 + j) % 4) * p i = _
          rw [q1, q2]
        have eW : bw w (i + 1) (q * 4 + j) = bw w i q + w i j := by
          show bw w i ((q * 4 + j) / 4) + w i ((q * 4 + j) % 4) = _
          rw [q1, q2]
        have eD : bdg (i + 1) (q * 4 + j) = bdg i q * 10 + j := by
          show bdg i ((q * 4 + j) / 4) * 10 + (q * 4 + j) % 4 = _
          rw [q1, q2]
        have hci : j * c i ≤ 3 * 10000 := Nat.mul_le_mul (by omega) (b4 i)
        have hpi : j * p i ≤ 3 * 99 := Nat.mul_le_mul (by omega) (b5 i)
        simp (disch := omega) only [gd_nI, am_nm, ht.1, ht.2, pk_mul, nI_add]
        rw [← eC, ← eP, pay_c N hB hD (by rw [eC]; omega) (by rw [eP]; omega), bd_some]
        have hup : ∀ z, (q * 4 + j) * 4 ^ k ≤ z → ¬ (q * 4 + (j + 1)) * 4 ^ k ≤ z → z / 4 ^ k = q * 4 + j := by
          intro z z1 z2
          refine Nat.div_eq_of_lt_le z1 ?_
          have : (q * 4 + j + 1) * 4 ^ k = (q * 4 + (j + 1)) * 4 ^ k := rfl
          omega
        by_cases d : bc c (i + 1) (q * 4 + j) + pr * (bc p (i + 1) (q * 4 + j) - bo) ≤ pu
        · rw [if_pos d, if_neg (by decide)]
          have hw3 := hD.2.2.1 i j (by omega) (by omega)
          rw [show (nI (bdg i q) * 10 + nI j : Int32) = nI (bdg (i + 1) (q * 4 + j)) by rw [eD, li_10, pk_mul, nI_add]]
          simp (disch := omega) only [gd_nI, hw3, nI_add]
          rw [← eW, li_1, nI_add]
          have hq1 : q * 4 + j < 4 ^ (i + 1) := by rw [Nat.pow_succ]; omega
          obtain ⟨μ1, cur1, e1, e2, e3, e4⟩ := dfs_c N hN hB k (i + 1) (q * 4 + j) D cur μ (by omega) (by omega) hq1 hD hS d hBs
          rw [e1, bd_some]
          obtain ⟨μ2, cur2, g1, g2, g3, g4⟩ := ih m cur1 μ1 (by omega) (by omega) (hD.of e2) e3 e4
          exact ⟨μ2, cur2, g1, e2.tr g2, g3, g4⟩
        · rw [if_neg d, if_pos (by decide)]
          refine ih m cur μ (by omega) (by omega) hD hS (Bst_sub hBs (fun z hz => Nat.le_trans (Nat.mul_le_mul_right _ (by omega)) hz) (fun z hz hlt hx hpy => ?_))
          exfalso
          have hz4 := hup z hz hx
          have u1 := bc_up c (i + 1) k z
          have u2 := bc_up p (i + 1) k z
          rw [hz4, show i + 1 + k = T by omega] at u1 u2
          exact d (pay_mono hpy u1 u2)
    unfold f_X7_descend_r f_X7_descend_0
    have h85 := h4.2.2.2.1 i (by omega)
    rw [h4.1, if_neg (fun z => by have := (nI_leI (by omega) (by omega)).mp z; omega), if_pos (by rw [li_6, nI_ltI (by omega) (by omega)]; omega)]
    simp (disch := omega) only [gd_nI, h85, nI_add]
    have e47 : ∃ μ' cur', f_X7_descend_47_lp N (f_X7_descend_r N D) N (nI i) (nI (bw w i q)) (nI (bc c i q)) (nI (bc p i q)) (nI (bdg i q)) 3 μ = some ((), μ') ∧ fr p_de μ μ' ∧ ST μ' T w c p cur' ∧ Bst w c p T (fun b => pay pu bo pr (bc c T b) (bc p T b)) (fun z => q * 4 ^ (k + 1) ≤ z) cur' := by
      have := loop 4 N cur μ (by omega) (by omega) h4 h5 (by rw [show (q * 4 + 4) * 4 ^ k = (q + 1) * 4 ^ (k + 1) by rw [hp4, ← Nat.mul_assoc]; congr 1; omega]; exact h7)
      rw [show q * 4 * 4 ^ k = q * 4 ^ (k + 1) by rw [hp4, Nat.mul_assoc]] at this
      exact this
    cases cur with
    | none =>
      have h9 : μ.1 5 0 9 = -1 := h5
      rw [h9, if_pos (Int32.le_trans (by decide) (nI_pos' (by rw [hTi]; omega)))]
      exact e47
    | some b0 =>
      have hb0 := bw_le w 2997 b2' T b0
      rw [h5.1]
      by_cases d : bw w T b0 ≤ bw w i q + rsum w i (T - i)
      · rw [if_pos ((nI_leI (by omega) (by rw [hTi]; omega)).mpr d)]
        exact e47
      · rw [if_neg (fun z => d ((nI_leI (by omega) (by rw [hTi]; omega)).mp z))]
        refine ⟨μ, some b0, rfl, fr.rf, h5, Bst_sub h7 (fun z hz => Nat.le_trans (Nat.mul_le_mul_right _ (by omega)) hz) (fun z hz hlt hx hpy => ⟨b0, rfl, ?_⟩)⟩
        have hz4 : z / 4 ^ (k + 1) = q := Nat.div_eq_of_lt_le hz (by omega)
        have u1 := bw_up w b3 i (k + 1) z
        rw [hz4, show i + (k + 1) = T by omega] at u1
        rw [hTi] at d
        omega
