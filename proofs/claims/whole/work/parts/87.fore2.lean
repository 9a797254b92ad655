/-! foresight, both -/
def RL1 (cell : Nat) (μ : am_M) (w : Nat → Nat → Nat) (c p : Nat → Nat) (T pu X i : Nat) : Prop := ∃ M, M ≤ 17982 ∧ μ.1 cell 0 i = nI M ∧ MX (fun b => bc c T b ≤ pu ∧ bc p T b ≤ i) (bw w T) (fun z => z < X) M
def RE1 (cell : Nat) (μ : am_M) (w : Nat → Nat → Nat) (c p : Nat → Nat) (T pu X i : Nat) : Prop := ∃ M, M ≤ 17982 ∧ μ.1 cell 0 i = nI M ∧ MX (fun b => bc c T b ≤ pu ∧ bc p T b = i) (bw w T) (fun z => z < X) M
theorem MX_join {c p : Nat → Nat} {T pu i : Nat} {v : Nat → Nat} {X : Nat → Prop} {M1 M2 : Nat} (h1 : MX (fun b => bc c T b ≤ pu ∧ bc p T b ≤ i) v X M1) (h2 : MX (fun b => bc c T b ≤ pu ∧ bc p T b = i + 1) v X M2) : MX (fun b => bc c T b ≤ pu ∧ bc p T b ≤ i + 1) v X (max M1 M2) := by
  obtain ⟨a1, a2⟩ := h1
  obtain ⟨b1, b2⟩ := h2
  refine ⟨fun z hx hp => ?_, ?_⟩
  · by_cases e : bc p T z ≤ i
    · have := a1 z hx ⟨hp.1, e⟩; omega
    · have := b1 z hx ⟨hp.1, by have := hp.2; omega⟩; omega
  · by_cases e : M1 ≤ M2
    · rw [Nat.max_eq_right e]
      rcases b2 with b2 | ⟨z, z1, z2, z3⟩
      · exact Or.inl b2
      · exact Or.inr ⟨z, z1, ⟨z2.1, by have := z2.2; omega⟩, z3⟩
    · rw [Nat.max_eq_left (by omega)]
      rcases a2 with a2 | ⟨z, z1, z2, z3⟩
      · exact Or.inl a2
      · exact Or.inr ⟨z, z1, ⟨z2.1, by have := z2.2; omega⟩, z3⟩
theorem RE_RL0 {cell : Nat} {μ : am_M} {w : Nat → Nat → Nat} {c p : Nat → Nat} {T pu X : Nat} (h : RE1 cell μ w c p T pu X 0) : RL1 cell μ w c p T pu X 0 := by
  obtain ⟨M, h0, h2, h3⟩ := h
  exact ⟨M, h0, h2, MX_congr h3 (fun z => ⟨fun q => ⟨q.1, q.2.1, by have := q.2.2; omega⟩, fun q => ⟨q.1, q.2.1, by have := q.2.2; omega⟩⟩)⟩
theorem RE_all0 {cell n : Nat} {μ : am_M} {w : Nat → Nat → Nat} {c p : Nat → Nat} {T pu X : Nat} (h : RE cell n μ w c p T pu X) (hn : 0 < n) : ∀ i, i < 0 + 1 → RL1 cell μ w c p T pu X i := by
  intro i hi
  have : i = 0 := by omega
  subst this
  exact RE_RL0 (h 0 hn)
theorem PM_step {cell : Nat} {μ : am_M} {w : Nat → Nat → Nat} {c p : Nat → Nat} {T pu X n x : Nat} {M1 M2 : Nat} (h1 : ∀ i, i < x + 1 → RL1 cell μ w c p T pu X i) (h2 : ∀ i, x + 1 ≤ i → i < n → RE1 cell μ w c p T pu X i) (hx : x + 1 < n) (e1 : μ.1 cell 0 x = nI M1) (k1 : M1 ≤ 17982) (e2 : μ.1 cell 0 (x + 1) = nI M2) (k2 : M2 ≤ 17982) :
    (∀ i, i < x + 2 → RL1 cell (am_ui μ cell 0 (x + 1) (nI (max M1 M2))) w c p T pu X i) ∧ (∀ i, x + 2 ≤ i → i < n → RE1 cell (am_ui μ cell 0 (x + 1) (nI (max M1 M2))) w c p T pu X i) := by
  refine ⟨fun i hi => ?_, fun i hi hn => ?_⟩
  · by_cases e : i = x + 1
    · subst e
      obtain ⟨A, a1, a2, a3⟩ := h1 x (by omega)
      obtain ⟨B, b1, b2, b3⟩ := h2 (x + 1) (by omega) hx
      have q1 : A = M1 := (nI_eq (by omega) (by omega)).mp (a2.symm.trans e1)
      have q2 : B = M2 := (nI_eq (by omega) (by omega)).mp (b2.symm.trans e2)
      subst q1; subst q2
      exact ⟨max A B, by omega, by rw [ui1, if_pos ⟨rfl, rfl, rfl⟩], MX_join a3 b3⟩
    · obtain ⟨A, a1, a2, a3⟩ := h1 i (by omega)
      exact ⟨A, a1, by rw [ui1, if_neg (by omega)]; exact a2, a3⟩
  · obtain ⟨A, a1, a2, a3⟩ := h2 i (by omega) hn
    exact ⟨A, a1, by rw [ui1, if_neg (by omega)]; exact a2, a3⟩
theorem r34_lp (N : Nat) {w : Nat → Nat → Nat} {c p : Nat → Nat} {T pu X : Nat} {μ0 : am_M} : ∀ (n m x : Nat) (μ : am_M), x + 1 + n = 259 → n + 1 ≤ m → fr p_114 μ0 μ → (∀ i, i < x + 1 → RL1 114 μ w c p T pu X i) → (∀ i, x + 1 ≤ i → i < 259 → RE1 114 μ w c p T pu X i) → ∃ μ', f_X0_reachAll_34_lp N m (nI (x + 1)) μ = some ((), μ') ∧ fr p_114 μ0 μ' ∧ ∀ i, i < 259 → RL1 114 μ' w c p T pu X i
  | n, 0, x, μ, h1, h2, hF, h3, h4 => by omega
  | 0, m + 1, x, μ, h1, h2, hF, h3, h4 => by
    unfold f_X0_reachAll_34_lp f_X0_reachAll_34
    rw [li_259, if_pos ((nI_leI (by omega) (by omega)).mpr (by omega))]
    exact ⟨μ, rfl, hF, fun i hi => h3 i (by omega)⟩
  | n + 1, m + 1, x, μ, h1, h2, hF, h3, h4 => by
    obtain ⟨A, a1, a2, a3⟩ := h3 x (by omega)
    obtain ⟨B, b1, b2, b3⟩ := h4 (x + 1) (by omega) (by omega)
    unfold f_X0_reachAll_34_lp f_X0_reachAll_34
    have em : (if nI B < nI A then nI A else nI B) = nI (max A B) := by
      by_cases d : B < A
      · rw [if_pos ((nI_ltI (by omega) (by omega)).mpr d)]; congr 1; omega
      · rw [if_neg (fun z => d ((nI_ltI (by omega) (by omega)).mp z))]; congr 1; omega
    rw [li_259, if_neg (fun z => by have := (nI_leI (by omega) (by omega)).mp z; omega), gd_nI (by omega) (by omega), nI_pred, gd_nI (by omega) (by omega), a2, b2, em]
    simp only [am_nme]
    rw [gd_nI (by omega) (by omega), nI_1]
    obtain ⟨s1, s2⟩ := PM_step h3 h4 (by omega) a2 a1 b2 b1
    exact r34_lp N n m (x + 1) _ (by omega) (by omega) (hF.ui rfl) s1 s2
theorem r2_lp (N : Nat) {x1 : Int32} {μ0 : am_M} : ∀ (n m x : Nat) (μ : am_M), x + n = 259 → n + 1 ≤ m → fr p_114 μ0 μ → (∀ i, i < x → μ.1 114 0 i = nI 0) → ∃ μ', f_X0_reachAll_2_lp N m x1 (nI x) μ = am_bd (f_X0_spread N 0 0 x1 0 μ') (fun _ μ1 => f_X0_reachAll_34_lp N N 1 μ1) ∧ fr p_114 μ0 μ' ∧ (∀ i, i < 259 → μ'.1 114 0 i = nI 0)
  | n, 0, x, μ, h1, h2, hF, h3 => by omega
  | 0, m + 1, x, μ, h1, h2, hF, h3 => by
    unfold f_X0_reachAll_2_lp f_X0_reachAll_2
    rw [li_259, if_pos ((nI_leI (by omega) (by omega)).mpr (by omega))]
    exact ⟨μ, rfl, hF, fun i hi => h3 i (by omega)⟩
  | n + 1, m + 1, x, μ, h1, h2, hF, h3 => by
    unfold f_X0_reachAll_2_lp f_X0_reachAll_2
    rw [li_259, if_neg (fun z => by have := (nI_leI (by omega) (by omega)).mp z; omega), gd_nI (by omega) (by omega), nI_1]
    simp only [am_nme]
    exact r2_lp N n m (x + 1) _ (by omega) (by omega) (hF.ui rfl) (fun i hi => by
      rw [ui1]
      by_cases e : i = x
      · rw [if_pos ⟨rfl, rfl, e⟩, li_0]
      · rw [if_neg (by omega)]; exact h3 i (by omega))
theorem RE_0 {cell n : Nat} {μ : am_M} {w : Nat → Nat → Nat} {c p : Nat → Nat} {T pu : Nat} (h : ∀ i, i < n → μ.1 cell 0 i = nI 0) : RE cell n μ w c p T pu 0 := fun i hi => ⟨0, by omega, h i hi, fun z hz => by omega, Or.inl rfl⟩
theorem reach_c (N : Nat) (hN : 5000 ≤ N) {T : Nat} (hT : T ≤ 6) {w : Nat → Nat → Nat} {c p : Nat → Nat} (hw : ∀ t m, m ≤ 3 → w t m ≤ 2997) (hc : ∀ t, c t ≤ 99) (hp : ∀ t, p t ≤ 99) {pu : Nat} (hpu : pu ≤ 99) {μ : am_M} (m1 : μ.1 1 0 1 = nI T) (m2 : TC μ T c p) (m3 : ∀ t m, t < T → m ≤ 3 → μ.1 384 t m = nI (w t m)) :
    ∃ μ', f_X0_reachAll N (nI pu) μ = some ((), μ') ∧ fr p_114 μ μ' ∧ ∀ i, i < 259 → RL1 114 μ' w c p T pu (4 ^ T) i := by
  unfold f_X0_reachAll f_X0_reachAll_0
  obtain ⟨μ1, e1, e2, e3⟩ := r2_lp N (x1 := nI pu) 259 N 0 μ (by omega) (by omega) fr.rf (fun i hi => by omega)
  have e1' : f_X0_reachAll_2_lp N N (nI pu) 0 μ = _ := e1
  obtain ⟨μ2, g1, g2, g3⟩ := sp_c N (by omega) hT hw hc hp hpu T 0 0 100 μ1 (by omega) (by omega) (by simp) ((e2.1 1 0 1 rfl).trans m1) (m2.of e2 (fun _ => rfl) (fun _ => rfl)) (fun t m ht hm => (e2.1 384 t m rfl).trans (m3 t m ht hm)) (by rw [Nat.zero_mul]; exact RE_0 e3)
  have g1' : f_X0_spread N 0 0 (nI pu) 0 μ1 = some ((), μ2) := by
    have : nI pu - nI (bc c 0 0) = nI pu := by show nI pu - nI 0 = nI pu; rw [pk_sub (Nat.zero_le _)]; rfl
    rw [this] at g1
    exact g1
  rw [Nat.zero_add, Nat.one_mul] at g3
  obtain ⟨μ3, q1, q2, q3⟩ := r34_lp N (w := w) (c := c) (p := p) (T := T) (pu := pu) (X := 4 ^ T) 258 N 0 μ2 (by omega) (by omega) fr.rf (RE_all0 g3 (by omega)) (fun i hi hn => g3 i hn)
  have q1' : f_X0_reachAll_34_lp N N 1 μ2 = _ := q1
  rw [e1', g1', bd_some, q1']
  exact ⟨μ3, rfl, (e2.tr g2).tr q2, q3⟩
/-! the reference -/
def p_f4 (k i : Nat) : Bool := p_fc k i || k == 204
theorem fc_f4 {μ μ' : am_M} (h : fr p_fc μ μ') : fr p_f4 μ μ' := h.mono' (fun k i q => by simp only [p_f4, Bool.or_eq_true] at q ⊢; exact Or.inl q)
theorem f4_R {μ μ' : am_M} (h : fr p_f4 μ μ') : fr p_R μ μ' := h.mono' (fun k i q => by simp only [p_f4, p_fc, p_la, p_un, p_R, Bool.or_eq_true, Bool.and_eq_true, beq_iff_eq] at q ⊢; omega)
def p_204 (k _ : Nat) : Bool := k == 204
theorem k204_f4 {μ μ' : am_M} (h : fr p_204 μ μ') : fr p_f4 μ μ' := h.mono' (fun k i q => by simp only [p_f4, p_204, Bool.or_eq_true] at q ⊢; exact Or.inr q)
theorem RE.keep {cell n : Nat} {μ : am_M} {w : Nat → Nat → Nat} {c p : Nat → Nat} {T pu b M : Nat} (h : RE cell n μ w c p T pu b) (hM : μ.1 cell 0 (bc p T b) = nI M) (hMl : M ≤ 17982) (hle : bw w T b ≤ M) : RE cell n μ w c p T pu (b + 1) := by
  intro i hi
  obtain ⟨M1, h0, h2, h3⟩ := h i hi
  refine ⟨M1, h0, h2, MX_up h3 _ (fun _ => rfl) (fun q => ?_)⟩
  have : M1 = M := (nI_eq (by omega) (by omega)).mp (h2.symm.trans (by rw [← q.2]; exact hM))
  subst this
  exact ⟨fun _ => rfl, fun z => by omega⟩
theorem f53_lp (N : Nat) (hN : 5000 ≤ N) {T S : Nat} {a : Nat → Nat → Nat} {W : Nat} {tx : Nat → tx_T} {s : Nat} (hs : s < S) {w : Nat → Nat → Nat} (hw : ∀ t m, m ≤ 3 → w t m ≤ 2997) {x3 : Int32} {μ0 : am_M} :
    ∀ (n m b : Nat) (μ : am_M), b + n = 4 ^ T → n + 1 ≤ m → Rv μ T S a W tx → RC μ T w (a 1) (a 2) → fr p_f4 μ0 μ → RE 204 1783 μ w (a 1) (a 2) T (a 5 s) b →
      ∃ μ', f_X10_foresight_53_lp N m (nI s) x3 (nI b) μ = f_X10_foresight_118_lp N N (nI s) x3 1 μ' ∧ fr p_f4 μ0 μ' ∧ RE 204 1783 μ' w (a 1) (a 2) T (a 5 s) (4 ^ T)
  | n, 0, b, μ, h1, h2, hR, hC, hF, h => by omega
  | 0, m + 1, b, μ, h1, h2, hR, hC, hF, h => by
    have hT6 := hR.1.1
    have h4T : 4 ^ T ≤ 4 ^ 6 := Nat.pow_le_pow_right (by decide) hT6
    have h46 : (4 : Nat) ^ 6 = 4096 := by decide
    unfold f_X10_foresight_53_lp f_X10_foresight_53
    rw [baskets_r N hT6 hR.2.1, bd_some, if_pos ((nI_leI (by omega) (by omega)).mpr (by omega))]
    have : b = 4 ^ T := by omega
    subst this
    exact ⟨μ, rfl, hF, h⟩
  | n + 1, m + 1, b, μ, h1, h2, hR, hC, hF, h => by
    have hT6 := hR.1.1
    have hb := hR.1.2.2.2.1
    have hbs := hb s
    have h4T : 4 ^ T ≤ 4 ^ 6 := Nat.pow_le_pow_right (by decide) hT6
    have h46 : (4 : Nat) ^ 6 = 4096 := by decide
    have WB : bw w T b ≤ 17982 := Nat.le_trans (bw_le _ 2997 hw T b) (by omega)
    have CB_ : bc (a 1) T b ≤ 1782 := Nat.le_trans (bc_le _ 99 (fun t => (hb t).2.1) T b) (by omega)
    have PB : bc (a 2) T b ≤ 1782 := Nat.le_trans (bc_le _ 99 (fun t => (hb t).2.2.1) T b) (by omega)
    obtain ⟨μ1, e1, e2, e3, e4, e5, e6⟩ := unpack_r N (by omega) hT6 hC (show b < 4 ^ T by omega)
    have hR1 := hR.of (un_R e2)
    have hC1 : RC μ1 T w (a 1) (a 2) := hC.of e2 rfl (fun _ => rfl) rfl (fun _ => rfl)
    have hF1 := hF.tr (fc_f4 (un_fc e2))
    have hE1 := h.of e2 (fun _ => rfl)
    unfold f_X10_foresight_53_lp f_X10_foresight_53 f_X10_foresight_109
    rw [baskets_r N hT6 hR.2.1, bd_some, if_neg (fun z => by have := (nI_leI (by omega) (by omega)).mp z; omega), e1, bd_some, purseOf_r N hR1 hs, bd_some, e5, e4, e6, gd_nI (by omega) (by omega), nI_1]
    by_cases c1 : a 5 s < bc (a 1) T b
    · rw [if_pos ((nI_ltI (by omega) (by omega)).mpr c1)]
      exact f53_lp N hN hs hw n m (b + 1) μ1 (by omega) (by omega) hR1 hC1 hF1 (hE1.skip (by omega) (fun z hz1 hz2 => by have : z = b := by omega
                                                                                                                         subst this; omega))
    · rw [if_neg (fun z => c1 ((nI_ltI (by omega) (by omega)).mp z))]
      obtain ⟨M, k1, k2, k3⟩ := hE1 (bc (a 2) T b) (by omega)
      rw [k2]
      by_cases c2 : bw w T b ≤ M
      · rw [if_pos ((nI_leI (by omega) (by omega)).mpr c2)]
        exact f53_lp N hN hs hw n m (b + 1) μ1 (by omega) (by omega) hR1 hC1 hF1 (hE1.keep k2 k1 c2)
      · rw [if_neg (fun z => c2 ((nI_leI (by omega) (by omega)).mp z)), gd_nI (by omega) (by omega)]
        simp only [am_nme]
        have hP := hE1.put WB (by omega) (by omega) k2 k1
        rw [Nat.max_eq_right (by omega)] at hP
        have hG : fr p_204 μ1 (am_ui μ1 204 0 (bc (a 2) T b) (nI (bw w T b))) := fr.rf.ui rfl
        exact f53_lp N hN hs hw n m (b + 1) _ (by omega) (by omega) (hR1.of (f4_R (k204_f4 hG))) (hC1.of hG rfl (fun _ => rfl) rfl (fun _ => rfl)) (hF1.tr (k204_f4 hG)) hP
theorem f118_lp (N : Nat) {w : Nat → Nat → Nat} {c p : Nat → Nat} {T pu X : Nat} {x1 x3 : Int32} {μ0 : am_M} : ∀ (n m x : Nat) (μ : am_M), x + 1 + n = 1783 → n + 1 ≤ m → fr p_204 μ0 μ → (∀ i, i < x + 1 → RL1 204 μ w c p T pu X i) → (∀ i, x + 1 ≤ i → i < 1783 → RE1 204 μ w c p T pu X i) → ∃ μ', f_X10_foresight_118_lp N m x1 x3 (nI (x + 1)) μ = am_bd (f_X10_pointsInAll N x1 μ') (fun y9 μ8 => f_X10_foresight_192_lp N N x3 0 y9 0 μ8) ∧ fr p_204 μ0 μ' ∧ ∀ i, i < 1783 → RL1 204 μ' w c p T pu X i
  | n, 0, x, μ, h1, h2, hF, h3, h4 => by omega
  | 0, m + 1, x, μ, h1, h2, hF, h3, h4 => by
    unfold f_X10_foresight_118_lp f_X10_foresight_118
    rw [li_1783, if_pos ((nI_leI (by omega) (by omega)).mpr (by omega))]
    exact ⟨μ, rfl, hF, fun i hi => h3 i (by omega)⟩
  | n + 1, m + 1, x, μ, h1, h2, hF, h3, h4 => by
    obtain ⟨A, a1, a2, a3⟩ := h3 x (by omega)
    obtain ⟨B, b1, b2, b3⟩ := h4 (x + 1) (by omega) (by omega)
    obtain ⟨s1, s2⟩ := PM_step h3 h4 (by omega) a2 a1 b2 b1
    unfold f_X10_foresight_118_lp f_X10_foresight_118 f_X10_foresight_172
    rw [li_1783, if_neg (fun z => by have := (nI_leI (by omega) (by omega)).mp z; omega), nI_pred, gd_nI (by omega) (by omega), gd_nI (by omega) (by omega), a2, b2, gd_nI (by omega) (by omega), gd_nI (by omega) (by omega), nI_1]
    simp only [am_nme]
    rw [gd_nI (by omega) (by omega), a2, b2]
    by_cases d : A ≤ B
    · rw [if_pos ((nI_leI (by omega) (by omega)).mpr d)]
      rw [Nat.max_eq_right d] at s1 s2
      exact f118_lp N n m (x + 1) _ (by omega) (by omega) (hF.ui rfl) s1 s2
    · rw [if_neg (fun z => d ((nI_leI (by omega) (by omega)).mp z)), gd_nI (by omega) (by omega)]
      rw [Nat.max_eq_left (by omega)] at s1 s2
      exact f118_lp N n m (x + 1) _ (by omega) (by omega) (hF.ui rfl) s1 s2
theorem f26_lp (N : Nat) {x1 x3 : Int32} {μ0 : am_M} : ∀ (n m x : Nat) (μ : am_M), x + n = 1783 → n + 1 ≤ m → fr p_204 μ0 μ → (∀ i, i < x → μ.1 204 0 i = nI 0) → ∃ μ', f_X10_foresight_26_lp N m x1 x3 (nI x) μ = f_X10_foresight_53_lp N N x1 x3 0 μ' ∧ fr p_204 μ0 μ' ∧ (∀ i, i < 1783 → μ'.1 204 0 i = nI 0)
  | n, 0, x, μ, h1, h2, hF, h3 => by omega
  | 0, m + 1, x, μ, h1, h2, hF, h3 => by
    unfold f_X10_foresight_26_lp f_X10_foresight_26
    rw [li_1783, if_pos ((nI_leI (by omega) (by omega)).mpr (by omega))]
    exact ⟨μ, rfl, hF, fun i hi => h3 i (by omega)⟩
  | n + 1, m + 1, x, μ, h1, h2, hF, h3 => by
    unfold f_X10_foresight_26_lp f_X10_foresight_26
    rw [li_1783, if_neg (fun z => by have := (nI_leI (by omega) (by omega)).mp z; omega), gd_nI (by omega) (by omega), nI_1]
    simp only [am_nme]
    exact f26_lp N n m (x + 1) _ (by omega) (by omega) (hF.ui rfl) (fun i hi => by
      rw [ui1]
      by_cases e : i = x
      · rw [if_pos ⟨rfl, rfl, e⟩, li_0]
      · rw [if_neg (by omega)]; exact h3 i (by omega))
