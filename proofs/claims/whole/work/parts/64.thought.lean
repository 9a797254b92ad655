/-! the class's thought: recall, weigh, search, choose, think -/
def p_rc (k _ : Nat) : Bool := k == 82 || k == 83
theorem recall_lp (N : Nat) {μ0 : am_M} : ∀ (n m t : Nat) (μ : am_M), t + n = 6 → n + 1 ≤ m → fr p_rc μ0 μ → (∀ i, i < t → μ.1 82 0 i = μ0.1 316 1 i ∧ μ.1 83 0 i = μ0.1 316 2 i) → ∃ μ', f_X7_recall_2_lp N m (nI t) μ = some ((), μ') ∧ fr p_rc μ0 μ' ∧ (∀ i, i < 6 → μ'.1 82 0 i = μ0.1 316 1 i ∧ μ'.1 83 0 i = μ0.1 316 2 i)
  | n, 0, t, μ, h1, h2, h3, h4 => by omega
  | 0, m + 1, t, μ, h1, h2, h3, h4 => by
    unfold f_X7_recall_2_lp f_X7_recall_2
    rw [if_pos (by rw [li_6, nI_leI (by omega) (by omega)]; omega)]
    exact ⟨μ, rfl, h3, fun i hi => h4 i (by omega)⟩
  | n + 1, m + 1, t, μ, h1, h2, h3, h4 => by
    unfold f_X7_recall_2_lp f_X7_recall_2
    rw [if_neg (by rw [li_6, nI_leI (by omega) (by omega)]; omega), li_1, li_2, at_cls N (by omega) (by omega), bd_some]
    simp (disch := omega) only [gd_nI, am_nme, at_cls, bd_some]
    simp only [ui1]
    simp only [Nat.reduceEqDiff, false_and, if_false, nI_add]
    refine recall_lp N n m (t + 1) _ (by omega) (by omega) ((h3.ui rfl).ui rfl) (fun i hi => ?_)
    by_cases e : i = t
    · subst e
      refine ⟨?_, ?_⟩
      · simp [ui1]; exact h3.1 316 1 i rfl
      · simp [ui1]; exact h3.1 316 2 i rfl
    · have := h4 i (by omega)
      simp [ui1, e, this]
theorem recall_c (N : Nat) (hN : 130 ≤ N) (μ : am_M) : ∃ μ', f_X7_recall N μ = some ((), μ') ∧ fr p_rc μ μ' ∧ (∀ i, i < 6 → μ'.1 82 0 i = μ.1 316 1 i ∧ μ'.1 83 0 i = μ.1 316 2 i) := by
  unfold f_X7_recall f_X7_recall_0
  rw [li_0]
  exact recall_lp N 6 N 0 μ (by omega) (by omega) fr.rf (fun i hi => by omega)
def cwt (f : Nat → Nat → Nat) (t : Nat) : Nat → Nat
  | 0 => 0
  | m + 1 => cwt f t m + f t (m + 1)
theorem cwt_le {f : Nat → Nat → Nat} (hf : ∀ t k, f t k ≤ 999) (t : Nat) : ∀ m, cwt f t m ≤ m * 999
  | 0 => by simp [cwt]
  | m + 1 => by
    show cwt f t m + f t (m + 1) ≤ _
    have := cwt_le hf t m
    have := hf t (m + 1)
    rw [Nat.add_mul]; omega
theorem cwt_mono (f : Nat → Nat → Nat) (t : Nat) : ∀ m, m ≤ 3 → cwt f t m ≤ cwt f t 3
  | 0, _ => Nat.zero_le _
  | 1, _ => by simp only [cwt]; omega
  | 2, _ => by simp only [cwt]; omega
  | 3, _ => Nat.le_refl _
  | m + 4, h => by omega
/-- the worth of the k-th one, by a view and costs -/
def wf (tx : Nat → tx_T) (a : Nat → Nat → Nat) (T : Nat) (c p : Nat → Nat) (s : Nat) (t k : Nat) : Nat := wv (tx (a 8 s)) s (a 7 s) T t k (c t) (p t)
theorem wf_le (tx : Nat → tx_T) (a : Nat → Nat → Nat) (T : Nat) (c p : Nat → Nat) (s : Nat) : ∀ t k, wf tx a T c p s t k ≤ 999 := fun _ _ => cl9_le _
def p_wg (k i : Nat) : Bool := k == 67 || k == 68 || (k == 4 && i == 5) || (k == 384 && i != 0) || k == 85
theorem p_wg_C {μ μ' : am_M} (h : fr p_wg μ μ') : fr p_C μ μ' := h.mono (fun k i q => by
  simp only [p_C, p_wg, Bool.or_eq_false_iff] at q ⊢
  simp only [q, and_self])
theorem p_wo_wg {μ μ' : am_M} (h : fr p_wo μ μ') : fr p_wg μ μ' := h.mono (fun k i q => by
  simp only [p_wo, p_wg, Bool.or_eq_false_iff] at q ⊢
  exact q.1.1)
theorem weigh_in (N : Nat) (hN : 130 ≤ N) {T S : Nat} {a : Nat → Nat → Nat} {W : Nat} {tx : Nat → tx_T} {c p : Nat → Nat} {s t : Nat} (hs : s < S) (ht : t < T) {r : Int32 → Int32 → am_M → Option (Unit × am_M)} {μ0 : am_M} :
    ∀ (j m k : Nat) (μ : am_M), k + j = 4 → 1 ≤ k → j + 1 ≤ m → Cv μ T S a W tx → TC μ T c p → fr p_wg μ0 μ → (∀ z, z < k → μ.1 384 t z = nI (cwt (wf tx a T c p s) t z)) → (∀ t' z, t' ≠ t → μ.1 384 t' z = μ0.1 384 t' z) → (∀ i, μ.1 85 0 i = μ0.1 85 0 i) →
      ∃ μ', f_X7_weigh_29_lp N r m (nI s) (nI t) (nI k) μ = r (nI s) (nI t + -1) μ' ∧ fr p_wg μ0 μ' ∧ (∀ z, z ≤ 3 → μ'.1 384 t z = nI (cwt (wf tx a T c p s) t z)) ∧ (∀ t' z, t' ≠ t → μ'.1 384 t' z = μ0.1 384 t' z) ∧ μ'.1 85 0 t = μ0.1 85 0 (t + 1) + nI (cwt (wf tx a T c p s) t 3) ∧ (∀ i, i ≠ t → μ'.1 85 0 i = μ0.1 85 0 i)
  | j, 0, k, μ, h1, h2, h3, hC, hT, h4, h5, h6, h7 => by omega
  | 0, m + 1, k, μ, h1, h2, h3, hC, hT, h4, h5, h6, h7 => by
    have hT6 := hC.1.1
    unfold f_X7_weigh_29_lp f_X7_weigh_29
    rw [if_pos (by rw [li_3, nI_ltI (by omega) (by omega)]; omega), li_1, nI_add, li_3]
    simp (disch := omega) only [gd_nI, am_nme]
    refine ⟨_, rfl, h4.ui rfl, fun z hz => ?_, fun t' z ht' => ?_, ?_, fun i hi => ?_⟩
    · simp [ui1]; exact h5 z (by omega)
    · simp [ui1]; exact h6 t' z ht'
    · simp [ui1, h7, h5 3 (by omega)]
    · simp [ui1, hi, h7]
  | j + 1, m + 1, k, μ, h1, h2, h3, hC, hT, h4, h5, h6, h7 => by
    have hT6 := hC.1.1
    unfold f_X7_weigh_29_lp f_X7_weigh_29
    rw [if_neg (by rw [li_3, nI_ltI (by omega) (by omega)]; omega)]
    obtain ⟨k, rfl⟩ : ∃ k', k = k' + 1 := ⟨k - 1, by omega⟩
    rw [nI_pred]
    obtain ⟨μ1, e1, e2⟩ := worth_c N hN hC hT (k := k + 1) hs ht
    simp (disch := omega) only [gd_nI, am_nme, e1, bd_some, li_1, nI_add, h5 k (by omega)]
    have hF : fr p_wg μ (am_ui μ1 384 t (k + 1) (nI (cwt (wf tx a T c p s) t k + wv (tx (a 8 s)) s (a 7 s) T t (k + 1) (c t) (p t)))) := (p_wo_wg e2).ui (by simp [p_wg])
    refine weigh_in N hN hs ht j m (k + 2) _ (by omega) (by omega) (by omega) (hC.of (p_wg_C hF)) (hT.of hF (fun _ => rfl) (fun _ => rfl)) (h4.tr hF) (fun z hz => ?_) (fun t' z ht' => ?_) (fun i => ?_)
    · by_cases e : z = k + 1
      · subst e; simp [ui1, cwt, wf]
      · simp [ui1, e]; rw [e2.1 384 t z rfl]; exact h5 z (by omega)
    · simp [ui1, ht']; rw [e2.1 384 t' z rfl]; exact h6 t' z ht'
    · simp [ui1]; rw [e2.1 85 0 i rfl]; exact h7 i
def WM (μ : am_M) (T : Nat) (w : Nat → Nat → Nat) : Prop := (∀ t m, t < T → m ≤ 3 → μ.1 384 t m = nI (w t m)) ∧ (∀ i, i ≤ T → μ.1 85 0 i = nI (rsum w i (T - i)))
theorem WM.of {P : Nat → Nat → Bool} {μ μ' : am_M} {T : Nat} {w : Nat → Nat → Nat} (h : WM μ T w) (hf : fr P μ μ') (h1 : ∀ i, P 384 i = false) (h2 : ∀ i, P 85 i = false) : WM μ' T w := ⟨fun t m ht hm => (hf.1 384 t m (h1 m)).trans (h.1 t m ht hm), fun i hi => (hf.1 85 0 i (h2 i)).trans (h.2 i hi)⟩
theorem weigh_lp (N : Nat) (hN : 130 ≤ N) {T S : Nat} {a : Nat → Nat → Nat} {W : Nat} {tx : Nat → tx_T} {c p : Nat → Nat} {s : Nat} (hs : s < S) {μ0 : am_M} :
    ∀ (j m : Nat) (μ : am_M), j ≤ T → j + 1 ≤ m → Cv μ T S a W tx → TC μ T c p → fr p_wg μ0 μ → (∀ t z, j ≤ t → t < T → z ≤ 3 → μ.1 384 t z = nI (cwt (wf tx a T c p s) t z)) → (∀ i, j ≤ i → i ≤ T → μ.1 85 0 i = nI (rsum (cwt (wf tx a T c p s)) i (T - i))) → ∃ μ', f_X7_weigh_23_lp N m (nI s) (xj j) μ = some ((), μ') ∧ fr p_wg μ0 μ' ∧ WM μ' T (cwt (wf tx a T c p s))
  | j, 0, μ, h1, h2, hC, hT, h4, h5, h6 => by omega
  | 0, m + 1, μ, h1, h2, hC, hT, h4, h5, h6 => by
    unfold f_X7_weigh_23_lp f_X7_weigh_23
    rw [if_pos (by decide)]
    exact ⟨μ, rfl, h4, fun t z ht hz => h5 t z (Nat.zero_le _) ht hz, fun i hi => h6 i (Nat.zero_le _) hi⟩
  | j + 1, m + 1, μ, h1, h2, hC, hT, h4, h5, h6 => by
    have hT6 := hC.1.1
    unfold f_X7_weigh_23_lp f_X7_weigh_23
    have ex : xj (j + 1) = nI j := by unfold xj; rw [if_neg (by omega)]; rfl
    have ex2 : nI j + -1 = xj j := by
      unfold xj
      cases j with
      | zero => decide
      | succ j => rw [if_neg (by omega), pk_m1]; rfl
    rw [ex, if_neg (nI_pos (by omega)), li_1]
    obtain ⟨μ1, e1, e2, e3, e4, e5, e6⟩ := weigh_in N hN (c := c) (p := p) (r := f_X7_weigh_23_lp N m) hs (show j < T by omega) (μ0 := μ) 3 N 1 μ (by omega) (by omega) (by omega) hC hT fr.rf (fun z hz => by
      have : z = 0 := by omega
      subst this
      exact hC.2.2.2.2.2.2.2 j (by omega)) (fun _ _ _ => rfl) (fun _ => rfl)
    rw [e1, ex2]
    refine weigh_lp N hN hs j m μ1 (by omega) (by omega) (hC.of (p_wg_C e2)) (hT.of e2 (fun _ => rfl) (fun _ => rfl)) (h4.tr e2) (fun t z ht1 ht2 hz => ?_) (fun i hi1 hi2 => ?_)
    · by_cases e : t = j
      · subst e; exact e3 z hz
      · rw [e4 t z e]; exact h5 t z (by omega) ht2 hz
    · by_cases e : i = j
      · subst e
        rw [e5, h6 (i + 1) (by omega) (by omega), nI_add]
        have : T - i = (T - (i + 1)) + 1 := by omega
        rw [this, rsum_head, Nat.add_comm]
      · rw [e6 i e]; exact h6 i (by omega) hi2
theorem weigh_c (N : Nat) (hN : 130 ≤ N) {μ : am_M} {T S : Nat} {a : Nat → Nat → Nat} {W : Nat} {tx : Nat → tx_T} (hC : Cv μ T S a W tx) {c p : Nat → Nat} (hT : TC μ T c p) {s : Nat} (hs : s < S) : ∃ μ', f_X7_weigh N (nI s) μ = some ((), μ') ∧ fr p_wg μ μ' ∧ WM μ' T (cwt (wf tx a T c p s)) := by
  have hT6 := hC.1.1
  unfold f_X7_weigh f_X7_weigh_0
  rw [hC.2.1]
  simp (disch := omega) only [gd_nI, am_nme]
  have hF : fr p_wg μ (am_ui μ 85 0 T 0) := fr.rf.ui rfl
  have ex : nI T - 1 = xj T := by
    unfold xj
    cases T with
    | zero => decide
    | succ T => rw [if_neg (by omega), nI_pred]; rfl
  have e1 : (am_ui μ 85 0 T 0).1 1 0 1 = nI T := by rw [hF.1 1 0 1 rfl]; exact hC.2.1
  rw [e1, ex]
  refine weigh_lp N hN hs T N _ (Nat.le_refl _) (by omega) (hC.of (p_wg_C hF)) (hT.of hF (fun _ => rfl) (fun _ => rfl)) hF (fun t z h1 h2 => by omega) (fun i h1 h2 => ?_)
  have : i = T := by omega
  subst this
  simp [ui1, rsum]; rfl
def p_5 (k _ : Nat) : Bool := k == 5
theorem Bst_congr {w : Nat → Nat → Nat} {c p : Nat → Nat} {T : Nat} {py py' X X' : Nat → Prop} {cur : Option Nat} (h : Bst w c p T py X cur) (hp : ∀ b, b < 4 ^ T → (py b ↔ py' b)) (hX : ∀ b, b < 4 ^ T → (X b ↔ X' b)) : Bst w c p T py' X' cur := by
  cases cur with
  | none => exact fun b hx hb q => h b ((hX b hb).mpr hx) hb ((hp b hb).mpr q)
  | some b0 =>
    obtain ⟨a1, a2, a3, a4⟩ := h
    exact ⟨(hX _ a2).mp a1, a2, (hp _ a2).mp a3, fun b hx hb q => a4 b ((hX b hb).mpr hx) hb ((hp b hb).mpr q)⟩
/-- what the search leaves -/
def SR (μ : am_M) (T : Nat) (w : Nat → Nat → Nat) (c p : Nat → Nat) (b : Nat) : Prop := μ.1 5 0 9 = nI (bw w T b) ∧ μ.1 5 0 10 = nI (bc c T b) ∧ μ.1 5 0 11 = nI (bc p T b) ∧ μ.1 5 0 12 = nI (bdg T b)
theorem search_c (N : Nat) (hN : 130 ≤ N) {μ : am_M} {T : Nat} {w : Nat → Nat → Nat} {c p : Nat → Nat} {pu bo pr : Nat} (hB : BB T w c p pu bo pr) (hT : μ.1 1 0 1 = nI T) (hc : TC μ T c p) (hw : WM μ T w) :
    ∃ μ' b, f_X7_search N (nI pu) (nI bo) (nI pr) μ = some ((), μ') ∧ fr p_5 μ μ' ∧ SR μ' T w c p b ∧ μ'.1 5 0 6 = nI pu ∧ μ'.1 5 0 7 = nI bo ∧ μ'.1 5 0 8 = nI pr ∧ Bst w c p T (fun b => pay pu bo pr (bc c T b) (bc p T b)) (fun _ => True) (some b) := by
  unfold f_X7_search f_X7_search_0 f_X7_descend
  simp only [am_nme]
  obtain ⟨μ7, e7⟩ : ∃ μ7, μ7 = am_ui (am_ui (am_ui (am_ui (am_ui (am_ui (am_ui μ 5 0 6 (nI pu)) 5 0 7 (nI bo)) 5 0 8 (nI pr)) 5 0 9 (-1)) 5 0 10 0) 5 0 11 0) 5 0 12 0 := ⟨_, rfl⟩
  rw [← e7]
  have hF : fr p_5 μ μ7 := by rw [e7]; exact ((((((fr.rf.ui rfl).ui rfl).ui rfl).ui rfl).ui rfl).ui rfl).ui rfl
  have hD : DM μ7 T w c p pu bo pr := by
    have hw' := hw.of hF (fun _ => rfl) (fun _ => rfl)
    exact ⟨(hF.1 1 0 1 rfl).trans hT, hc.of hF (fun _ => rfl) (fun _ => rfl), hw'.1, hw'.2, by rw [e7]; simp [ui1], by rw [e7]; simp [ui1], by rw [e7]; simp [ui1]⟩
  have h6 := hB.1
  obtain ⟨μ', cur', g1, g2, g3, g4⟩ := dfs_c N hN hB T 0 0 100 none μ7 (by omega) (by omega) (by simp) hD (by show μ7.1 5 0 9 = -1; rw [e7]; simp [ui1]) (by simp [pay, bc]) (fun b hb hlt => by omega)
  have g1' : f_X7_descend_r N 100 0 0 0 0 0 μ7 = some ((), μ') := g1
  rw [g1', bd_some]
  have hD' := hD.of g2
  have g5 := Bst_congr g4 (py' := fun b => pay pu bo pr (bc c T b) (bc p T b)) (X' := fun _ => True) (fun _ _ => Iff.rfl) (fun b _ => ⟨fun _ => trivial, fun _ => by show 0 * 4 ^ T ≤ b; omega⟩)
  have hFF : fr p_5 μ μ' := hF.tr (g2.mono (fun k i q => by
    simp only [p_5, p_de, Bool.and_eq_false_iff] at q ⊢
    exact Or.inl q))
  cases cur' with
  | none =>
    exfalso
    have h0 : ∀ (i : Nat) (f : Nat → Nat), bc f i 0 = 0 := by
      intro i f
      induction i with
      | zero => rfl
      | succ i ih => show bc f i (0 / 4) + (0 % 4) * f i = 0; simp [ih]
    exact g5 0 trivial (Nat.pow_pos (by decide)) (by show bc c T 0 + pr * (bc p T 0 - bo) ≤ pu; rw [h0, h0]; simp)
  | some b => exact ⟨μ', b, rfl, hFF, g3, hD'.2.2.2.2.1, hD'.2.2.2.2.2.1, hD'.2.2.2.2.2.2, g5⟩
/-- the best basket that both purses buy -/
def NB (w : Nat → Nat → Nat) (c p : Nat → Nat) (T pu bo b : Nat) : Prop := Bst w c p T (fun b => bc c T b ≤ pu ∧ bc p T b ≤ bo) (fun _ => True) (some b)
theorem pay_100 {pu bo C P : Nat} (h : pu ≤ 99) : pay pu bo 100 C P ↔ (C ≤ pu ∧ P ≤ bo) := by
  unfold pay
  constructor
  · intro q
    have : P - bo = 0 := by omega
    omega
  · rintro ⟨q1, q2⟩
    have : P - bo = 0 := by omega
    omega
theorem choose_c (N : Nat) (hN : 130 ≤ N) {μ : am_M} {T S : Nat} {a : Nat → Nat → Nat} {W : Nat} {tx : Nat → tx_T} (hC : Cv μ T S a W tx) {w : Nat → Nat → Nat} {c p : Nat → Nat} (hB : BB T w c p 99 0 0) (hc : TC μ T c p) (hw : WM μ T w) {s : Nat} (hs : s < S) :
    ∃ μ' b, f_X7_choose N (nI s) μ = some ((), μ') ∧ fr p_5 μ μ' ∧ SR μ' T w c p b ∧ μ'.1 5 0 6 = nI (a 5 s) ∧ μ'.1 5 0 7 = nI (a 6 s + 10 * a 7 s) ∧ μ'.1 5 0 8 = nI 100 ∧ NB w c p T (a 5 s) (a 6 s + 10 * a 7 s) b := by
  have hS5 := hC.1.2.1
  have hb := hC.1.2.2.2.1 s
  unfold f_X7_choose f_X7_choose_0
  have e5 := hC.2.2.2.2.2.1 5 s (by omega) (by omega) hs
  have e6 := hC.2.2.2.2.2.1 6 s (by omega) (by omega) hs
  have e7 := hC.2.2.2.2.2.1 7 s (by omega) (by omega) hs
  rw [li_5, at_cls N (by omega) (by omega), bd_some, pia_cls N (by omega), bd_some, e5, e6, e7, pk_mul, nI_add, li_100]
  obtain ⟨b1, b2', b3, b4, b5, -⟩ := hB
  obtain ⟨μ', b, g1, g2, g3, g4, g5, g6, g7⟩ := search_c N hN (pu := a 5 s) (bo := a 6 s + 10 * a 7 s) (pr := 100) ⟨b1, b2', b3, b4, b5, by omega, by omega, by omega⟩ hC.2.1 hc hw
  rw [g1, bd_some]
  exact ⟨μ', b, rfl, g2, g3, g4, g5, g6, Bst_congr g7 (fun _ _ => pay_100 (by omega)) (fun _ _ => Iff.rfl)⟩
theorem think_c (N : Nat) {t : Nat} (ht : t < 6) (x y : Int32) (μ : am_M) : f_X7_think N (nI t) x y μ = some ((), am_ui (am_ui μ 82 0 t x) 83 0 t y) := by
  unfold f_X7_think f_X7_think_0
  simp (disch := omega) only [w_cls, bd_some, li_0, li_1, li_2, li_3, li_4, li_5, li_6, li_7, li_8, li_9, li_10, li_11, li_12, li_13, li_14, li_15, li_16, li_17, li_18, li_19, li_20, li_21, li_22, li_23, li_24, li_25, li_26, li_27, li_28, li_29, li_30, li_31, li_32, li_33, li_34, li_35, li_36, li_37, li_38, li_39, li_40, li_41, li_42, li_43, li_44, li_45, li_46, li_47, li_48, li_49, li_50, li_51, li_52, li_53, li_54, li_55, li_56, li_57, li_58, li_59, li_60, li_61, li_62, li_63, li_64, li_65, li_66, li_67, li_68, li_69, li_70, li_71, li_72, li_73, li_74, li_75, li_76, li_77, li_78, li_79, li_80, li_81, li_82, li_83, li_84, li_85, li_86, li_87, li_88, li_89, li_90, li_91, li_92, li_93, li_94, li_95, li_96, li_97, li_98, li_99, li_100, li_101, li_102, li_103, li_104, li_105, li_106, li_107, li_108, li_109, li_110, li_111, li_112, li_113, li_114, li_115, li_116, li_117, li_118, li_119, li_120, li_121, li_122, li_123, li_124, li_125, li_126, li_127, li_128, li_129, li_130, li_255, li_259, li_360, li_480, li_900, li_999, li_1000, li_1782, li_1783, li_9999, li_1000000000, b_eq0, nI_leI, gd_nI, am_nme]
  rw [if_neg (by omega)]
theorem first_c (N : Nat) {t k : Nat} (ht : t < 6) (hk : k ≤ 3) (μ : am_M) : f_X7_worthOfFirst N (nI t) (nI k) μ = some (μ.1 384 t k, μ) := by
  unfold f_X7_worthOfFirst f_X7_worthOfFirst_0
  simp (disch := omega) only [w_cls, bd_some, li_0, li_1, li_2, li_3, li_4, li_5, li_6, li_7, li_8, li_9, li_10, li_11, li_12, li_13, li_14, li_15, li_16, li_17, li_18, li_19, li_20, li_21, li_22, li_23, li_24, li_25, li_26, li_27, li_28, li_29, li_30, li_31, li_32, li_33, li_34, li_35, li_36, li_37, li_38, li_39, li_40, li_41, li_42, li_43, li_44, li_45, li_46, li_47, li_48, li_49, li_50, li_51, li_52, li_53, li_54, li_55, li_56, li_57, li_58, li_59, li_60, li_61, li_62, li_63, li_64, li_65, li_66, li_67, li_68, li_69, li_70, li_71, li_72, li_73, li_74, li_75, li_76, li_77, li_78, li_79, li_80, li_81, li_82, li_83, li_84, li_85, li_86, li_87, li_88, li_89, li_90, li_91, li_92, li_93, li_94, li_95, li_96, li_97, li_98, li_99, li_100, li_101, li_102, li_103, li_104, li_105, li_106, li_107, li_108, li_109, li_110, li_111, li_112, li_113, li_114, li_115, li_116, li_117, li_118, li_119, li_120, li_121, li_122, li_123, li_124, li_125, li_126, li_127, li_128, li_129, li_130, li_255, li_259, li_360, li_480, li_900, li_999, li_1000, li_1782, li_1783, li_9999, li_1000000000, b_eq0, nI_leI, gd_nI]
  rw [if_neg (by omega), if_neg (by omega)]
