/-! what all sorts want -/
def sN (f : Nat → Nat) : Nat → Nat
  | 0 => 0
  | n + 1 => sN f n + f n
theorem sN_le {f : Nat → Nat} {M : Nat} : ∀ n, (∀ i, i < n → f i ≤ M) → sN f n ≤ n * M
  | 0, _ => Nat.zero_le _
  | n + 1, h => by
    have h1 := sN_le n (fun i hi => h i (by omega))
    have h2 := h n (by omega)
    show sN f n + f n ≤ _
    rw [Nat.succ_mul]; omega
def ld (a : Nat → Nat → Nat) (B : Nat → Nat) (T t s : Nat) : Nat := a 4 s * dg T (B s) t
def wn (a : Nat → Nat → Nat) (B : Nat → Nat) (T S t : Nat) : Nat := sN (ld a B T t) S
theorem dg3 (T b t : Nat) : dg T b t ≤ 3 := by unfold dg; omega
theorem ld_le {T S : Nat} {a : Nat → Nat → Nat} {W : Nat} (h : BD T S a W) (B : Nat → Nat) (t s : Nat) : ld a B T t s ≤ 297 := by
  have h1 := (h.2.2.2.1 s).2.2.2.2.1
  have h2 := dg3 T (B s) t
  unfold ld
  exact Nat.le_trans (Nat.mul_le_mul h1 h2) (by decide)
theorem wn_le {T S : Nat} {a : Nat → Nat → Nat} {W : Nat} (h : BD T S a W) (B : Nat → Nat) (t : Nat) : wn a B T S t ≤ 1485 := by
  have h1 := sN_le (f := ld a B T t) S (fun i _ => ld_le h B t i)
  have h2 := h.2.1
  unfold wn
  omega
def p_98 (k _ : Nat) : Bool := k == 98
def p_wt (k i : Nat) : Bool := p_wk k i || k == 98
theorem k98_wt {μ μ' : am_M} (h : fr p_98 μ μ') : fr p_wt μ μ' := h.mono' (fun k i q => by simp only [p_wt, p_98, Bool.or_eq_true] at q ⊢; exact Or.inr q)
theorem wk_wt {μ μ' : am_M} (h : fr p_wk μ μ') : fr p_wt μ μ' := h.mono' (fun k i q => by simp only [p_wt, Bool.or_eq_true] at q ⊢; exact Or.inl q)
theorem wt_C {μ μ' : am_M} (h : fr p_wt μ μ') : fr p_C μ μ' := h.mono' (fun k i q => by simp only [p_wt, p_wk, p_wg, p_C, Bool.or_eq_true, Bool.and_eq_true, beq_iff_eq, bne_iff_ne] at q ⊢; omega)
theorem wa_in (N : Nat) (hN : 130 ≤ N) {T S : Nat} {a : Nat → Nat → Nat} {W : Nat} {tx : Nat → tx_T} {B : Nat → Nat} {s : Nat} (hs : s < S) {r : Int32 → am_M → Option (Unit × am_M)} {μ0 : am_M} :
    ∀ (n m t : Nat) (μ : am_M), t + n = T → n + 1 ≤ m → Cv μ T S a W tx → fr p_98 μ0 μ → μ.1 5 0 12 = nI (bdg T (B s)) → (∀ i, i < T → μ.1 98 0 i = nI (if i < t then sN (ld a B T i) (s + 1) else sN (ld a B T i) s)) →
      ∃ μ', f_X2_wantAll_57_lp N r m (nI s) (nI t) μ = r (nI (s + 1)) μ' ∧ fr p_98 μ0 μ' ∧ ∀ i, i < T → μ'.1 98 0 i = nI (sN (ld a B T i) (s + 1))
  | n, 0, t, μ, h1, h2, hC, h4, h5, h6 => by omega
  | 0, m + 1, t, μ, h1, h2, hC, h4, h5, h6 => by
    have hT6 := hC.1.1
    unfold f_X2_wantAll_57_lp f_X2_wantAll_57
    rw [hC.2.1, if_pos ((nI_leI (by omega) (by omega)).mpr (by omega)), nI_1]
    exact ⟨μ, rfl, h4, fun i hi => by rw [h6 i hi, if_pos (by omega)]⟩
  | n + 1, m + 1, t, μ, h1, h2, hC, h4, h5, h6 => by
    have hT6 := hC.1.1
    have hS5 := hC.1.2.1
    unfold f_X2_wantAll_57_lp f_X2_wantAll_57
    rw [hC.2.1, if_neg (fun z => by have := (nI_leI (by omega) (by omega)).mp z; omega), gd_nI (by omega) (by omega), li_4, at_cls N (by omega) (by omega), bd_some, h5, digitOf_c N hN hC.2.1 hT6 (by omega), bd_some, gd_nI (by omega) (by omega), h6 t (by omega), if_neg (by omega), hC.2.2.2.2.2.1 4 s (by omega) (by omega) hs, pk_mul, nI_add, nI_1]
    simp only [am_nme]
    have hF : fr p_98 μ (am_ui μ 98 0 t (nI (sN (ld a B T t) s + a 4 s * dg T (B s) t))) := fr.rf.ui rfl
    exact wa_in N hN hs n m (t + 1) _ (by omega) (by omega) (hC.of (wt_C (k98_wt hF))) (h4.tr hF) ((hF.1 5 0 12 rfl).trans h5) (fun i hi => by
      rw [ui1]
      by_cases e : i = t
      · subst e
        rw [if_pos ⟨rfl, rfl, rfl⟩, if_pos (by omega)]; rfl
      · rw [if_neg (by omega), h6 i hi]
        by_cases e2 : i < t
        · rw [if_pos e2, if_pos (by omega)]
        · rw [if_neg e2, if_neg (by omega)])
theorem wa_lp (N : Nat) (hN : 130 ≤ N) {T S : Nat} {a : Nat → Nat → Nat} {W : Nat} {tx : Nat → tx_T} {B : Nat → Nat} {c p : Nat → Nat} (hc : ∀ t, c t ≤ 99) (hp : ∀ t, p t ≤ 99) (hB : ∀ s, CB a tx T c p s (B s)) {μ0 : am_M} :
    ∀ (n m s : Nat) (μ : am_M), s + n = S → n + 1 ≤ m → Cv μ T S a W tx → TC μ T c p → fr p_wt μ0 μ → (∀ i, i < T → μ.1 98 0 i = nI (sN (ld a B T i) s)) →
      ∃ μ', f_X2_wantAll_28_lp N m (nI s) μ = some ((), μ') ∧ fr p_wt μ0 μ' ∧ ∀ i, i < T → μ'.1 98 0 i = nI (wn a B T S i)
  | n, 0, s, μ, h1, h2, hC, hT, h4, h6 => by omega
  | 0, m + 1, s, μ, h1, h2, hC, hT, h4, h6 => by
    have hS5 := hC.1.2.1
    unfold f_X2_wantAll_28_lp f_X2_wantAll_28
    rw [hC.2.2.1, if_pos ((nI_leI (by omega) (by omega)).mpr (by omega))]
    have : s = S := by omega
    subst this
    exact ⟨μ, rfl, h4, h6⟩
  | n + 1, m + 1, s, μ, h1, h2, hC, hT, h4, h6 => by
    have hS5 := hC.1.2.1
    have hT6 := hC.1.1
    unfold f_X2_wantAll_28_lp f_X2_wantAll_28
    rw [hC.2.2.1, if_neg (fun z => by have := (nI_leI (by omega) (by omega)).mp z; omega)]
    obtain ⟨μ1, μ2, e1, e2, e3, e4⟩ := wc_c N hN hC hc hp hT (show s < S by omega) (hB s)
    rw [e1, bd_some, e2, bd_some, li_0]
    obtain ⟨μ3, g1, g2, g3⟩ := wa_in N hN (a := a) (W := W) (tx := tx) (B := B) (show s < S by omega) (r := f_X2_wantAll_28_lp N m) (μ0 := μ2) T N 0 μ2 (by omega) (by omega) (hC.of (wk_C e3)) fr.rf e4.2.2.2 (fun i hi => by rw [if_neg (by omega), e3.1 98 0 i rfl]; exact h6 i hi)
    rw [g1]
    have hF := (wk_wt e3).tr (k98_wt g2)
    exact wa_lp N hN hc hp hB n m (s + 1) μ3 (by omega) (by omega) (hC.of (wt_C hF)) (hT.of hF (fun _ => rfl) (fun _ => rfl)) (h4.tr hF) g3
theorem wa_0 (N : Nat) (hN : 130 ≤ N) {T S : Nat} {a : Nat → Nat → Nat} {W : Nat} {tx : Nat → tx_T} {μ0 : am_M} :
    ∀ (n m t : Nat) (μ : am_M), t + n = T → n + 1 ≤ m → Cv μ T S a W tx → fr p_98 μ0 μ → (∀ i, i < t → μ.1 98 0 i = nI 0) →
      ∃ μ', f_X2_wantAll_2_lp N m (nI t) μ = f_X2_wantAll_28_lp N N (nI 0) μ' ∧ fr p_98 μ0 μ' ∧ ∀ i, i < T → μ'.1 98 0 i = nI 0
  | n, 0, t, μ, h1, h2, hC, h4, h6 => by omega
  | 0, m + 1, t, μ, h1, h2, hC, h4, h6 => by
    have hT6 := hC.1.1
    unfold f_X2_wantAll_2_lp f_X2_wantAll_2
    rw [hC.2.1, if_pos ((nI_leI (by omega) (by omega)).mpr (by omega)), li_0]
    exact ⟨μ, rfl, h4, fun i hi => h6 i (by omega)⟩
  | n + 1, m + 1, t, μ, h1, h2, hC, h4, h6 => by
    have hT6 := hC.1.1
    unfold f_X2_wantAll_2_lp f_X2_wantAll_2
    rw [hC.2.1, if_neg (fun z => by have := (nI_leI (by omega) (by omega)).mp z; omega), gd_nI (by omega) (by omega), nI_1]
    simp only [am_nme]
    have hF : fr p_98 μ (am_ui μ 98 0 t 0) := fr.rf.ui rfl
    exact wa_0 N hN n m (t + 1) _ (by omega) (by omega) (hC.of (wt_C (k98_wt hF))) (h4.tr hF) (fun i hi => by
      rw [ui1]
      by_cases e : i = t
      · rw [if_pos ⟨rfl, rfl, e⟩, li_0]
      · rw [if_neg (by omega)]; exact h6 i (by omega))
theorem wantAll_c (N : Nat) (hN : 130 ≤ N) {μ : am_M} {T S : Nat} {a : Nat → Nat → Nat} {W : Nat} {tx : Nat → tx_T} {B : Nat → Nat} {c p : Nat → Nat} (hC : Cv μ T S a W tx) (hT : TC μ T c p) (hc : ∀ t, c t ≤ 99) (hp : ∀ t, p t ≤ 99) (hB : ∀ s, CB a tx T c p s (B s)) :
    ∃ μ', f_X2_wantAll N μ = some ((), μ') ∧ fr p_wt μ μ' ∧ ∀ i, i < T → μ'.1 98 0 i = nI (wn a B T S i) := by
  have hT6 := hC.1.1
  have hS5 := hC.1.2.1
  unfold f_X2_wantAll f_X2_wantAll_0
  rw [li_0]
  obtain ⟨μ1, e1, e2, e3⟩ := wa_0 N hN T N 0 μ (by omega) (by omega) hC fr.rf (fun i hi => by omega)
  rw [e1]
  have hF := k98_wt e2
  exact wa_lp N hN hc hp hB S N 0 μ1 (by omega) (by omega) (hC.of (wt_C hF)) (hT.of hF (fun _ => rfl) (fun _ => rfl)) hF e3
/-! the reference -/
def p_19 (k _ : Nat) : Bool := k == 193 || k == 194
def p_fw (k i : Nat) : Bool := p_fb k i || p_19 k i
theorem k19_fw {μ μ' : am_M} (h : fr p_19 μ μ') : fr p_fw μ μ' := h.mono' (fun k i q => by simp only [p_fw, Bool.or_eq_true] at q ⊢; exact Or.inr q)
theorem fb_fw {μ μ' : am_M} (h : fr p_fb μ μ') : fr p_fw μ μ' := h.mono' (fun k i q => by simp only [p_fw, Bool.or_eq_true] at q ⊢; exact Or.inl q)
theorem fw_R {μ μ' : am_M} (h : fr p_fw μ μ') : fr p_R μ μ' := h.mono' (fun k i q => by simp only [p_fw, p_fb, p_19, p_R, Bool.or_eq_true, Bool.and_eq_true, beq_iff_eq] at q ⊢; omega)
theorem fw_in (N : Nat) (hN : 130 ≤ N) {T S : Nat} {a : Nat → Nat → Nat} {W : Nat} {tx : Nat → tx_T} {B : Nat → Nat} {s : Nat} (hs : s < S) {r : Int32 → am_M → Option (Unit × am_M)} {μ0 : am_M} :
    ∀ (n m t : Nat) (μ : am_M), t + n = T → n + 1 ≤ m → Rv μ T S a W tx → fr p_19 μ0 μ → (∀ i, i < T → μ.1 185 0 i = nI (dg T (B s) i)) → (∀ i, i < T → μ.1 193 0 i = nI (if i < t then sN (ld a B T i) (s + 1) else sN (ld a B T i) s)) → (∀ i, i < t → μ.1 194 0 (6 * s + i) = nI (ld a B T i s)) → (∀ z i, z < s → i < T → μ.1 194 0 (6 * z + i) = nI (ld a B T i z)) →
      ∃ μ', f_X10_findWanted_41_lp N r m (nI s) (nI t) μ = r (nI (s + 1)) μ' ∧ fr p_19 μ0 μ' ∧ (∀ i, i < T → μ'.1 193 0 i = nI (sN (ld a B T i) (s + 1))) ∧ (∀ z i, z < s + 1 → i < T → μ'.1 194 0 (6 * z + i) = nI (ld a B T i z))
  | n, 0, t, μ, h1, h2, hC, h4, h5, h6, h7, h8 => by omega
  | 0, m + 1, t, μ, h1, h2, hC, h4, h5, h6, h7, h8 => by
    have hT6 := hC.1.1
    unfold f_X10_findWanted_41_lp f_X10_findWanted_41
    rw [hC.2.1, if_pos ((nI_leI (by omega) (by omega)).mpr (by omega)), nI_1]
    exact ⟨μ, rfl, h4, fun i hi => by rw [h6 i hi, if_pos (by omega)], fun z i hz hi => by
      by_cases e : z = s
      · subst e; exact h7 i (by omega)
      · exact h8 z i (by omega) hi⟩
  | n + 1, m + 1, t, μ, h1, h2, hC, h4, h5, h6, h7, h8 => by
    have hT6 := hC.1.1
    have hS5 := hC.1.2.1
    unfold f_X10_findWanted_41_lp f_X10_findWanted_41
    have e4 := (hC.2.2.2.2.2.1 s hs).1
    rw [hC.2.1, if_neg (fun z => by have := (nI_leI (by omega) (by omega)).mp z; omega)]
    simp (disch := omega) only [gd_nI, am_nme, li_6, pk_mul, nI_add]
    have e1 : (μ.1 169 0 s) * (μ.1 185 0 t) = nI (ld a B T t s) := by rw [e4, h5 t (by omega), pk_mul]; rfl
    rw [e1]
    simp only [ui1]
    simp only [Nat.reduceEqDiff, false_and, if_false]
    rw [e1, h6 t (by omega), if_neg (by omega), nI_add, nI_1]
    have hF : fr p_19 μ (am_ui (am_ui μ 194 0 (6 * s + t) (nI (ld a B T t s))) 193 0 t (nI (sN (ld a B T t) s + ld a B T t s))) := (fr.rf.ui rfl).ui rfl
    exact fw_in N hN hs n m (t + 1) _ (by omega) (by omega) (hC.of (fw_R (k19_fw hF))) (h4.tr hF) (fun i hi => (hF.1 185 0 i rfl).trans (h5 i hi)) (fun i hi => by
      rw [ui1]
      by_cases e : i = t
      · subst e
        rw [if_pos ⟨rfl, rfl, rfl⟩, if_pos (by omega)]; rfl
      · rw [if_neg (by omega), ui1, if_neg (by omega), h6 i hi]
        by_cases e2 : i < t
        · rw [if_pos e2, if_pos (by omega)]
        · rw [if_neg e2, if_neg (by omega)]) (fun i hi => by
      rw [ui1, if_neg (by omega), ui1]
      by_cases e : i = t
      · subst e
        rw [if_pos ⟨rfl, rfl, rfl⟩]
      · rw [if_neg (by omega)]; exact h7 i (by omega)) (fun z i hz hi => by
      rw [ui1, if_neg (by omega), ui1, if_neg (by omega)]; exact h8 z i hz hi)
theorem fw_lp (N : Nat) (hN : 5000 ≤ N) {T S : Nat} {a : Nat → Nat → Nat} {W : Nat} {tx : Nat → tx_T} {B : Nat → Nat} (hB : ∀ s, CB a tx T (a 1) (a 2) s (B s)) {μ0 : am_M} :
    ∀ (n m s : Nat) (μ : am_M), s + n = S → n + 1 ≤ m → Rv μ T S a W tx → fr p_fw μ0 μ → (∀ i, i < T → μ.1 193 0 i = nI (sN (ld a B T i) s)) → (∀ z i, z < s → i < T → μ.1 194 0 (6 * z + i) = nI (ld a B T i z)) →
      ∃ μ', f_X10_findWanted_25_lp N m (nI s) μ = some ((), μ') ∧ fr p_fw μ0 μ' ∧ (∀ i, i < T → μ'.1 193 0 i = nI (wn a B T S i)) ∧ (∀ z i, z < S → i < T → μ'.1 194 0 (6 * z + i) = nI (ld a B T i z))
  | n, 0, s, μ, h1, h2, hC, h4, h6, h7 => by omega
  | 0, m + 1, s, μ, h1, h2, hC, h4, h6, h7 => by
    have hS5 := hC.1.2.1
    unfold f_X10_findWanted_25_lp f_X10_findWanted_25
    rw [hC.2.2.1, if_pos ((nI_leI (by omega) (by omega)).mpr (by omega))]
    have : s = S := by omega
    subst this
    exact ⟨μ, rfl, h4, h6, h7⟩
  | n + 1, m + 1, s, μ, h1, h2, hC, h4, h6, h7 => by
    have hS5 := hC.1.2.1
    have hT6 := hC.1.1
    unfold f_X10_findWanted_25_lp f_X10_findWanted_25
    rw [hC.2.2.1, if_neg (fun z => by have := (nI_leI (by omega) (by omega)).mp z; omega)]
    obtain ⟨μ2, e2, e3, e4⟩ := bestOf_r N hN hC (show s < S by omega) (hB s)
    rw [e2, bd_some, li_0]
    obtain ⟨μ3, g1, g2, g3, g4⟩ := fw_in N (by omega) (a := a) (W := W) (tx := tx) (B := B) (show s < S by omega) (r := f_X10_findWanted_25_lp N m) (μ0 := μ2) T N 0 μ2 (by omega) (by omega) (hC.of (fb_R e3)) fr.rf e4.2.2.2 (fun i hi => by rw [if_neg (by omega), e3.1 193 0 i rfl]; exact h6 i hi) (fun i hi => by omega) (fun z i hz hi => by rw [e3.1 194 0 _ rfl]; exact h7 z i hz hi)
    rw [g1]
    have hF := (fb_fw e3).tr (k19_fw g2)
    exact fw_lp N hN hB n m (s + 1) μ3 (by omega) (by omega) (hC.of (fw_R hF)) (h4.tr hF) g3 g4
theorem fw_0 (N : Nat) {T S : Nat} {a : Nat → Nat → Nat} {W : Nat} {tx : Nat → tx_T} {μ0 : am_M} :
    ∀ (n m t : Nat) (μ : am_M), t + n = T → n + 1 ≤ m → Rv μ T S a W tx → fr p_19 μ0 μ → (∀ i, i < t → μ.1 193 0 i = nI 0) →
      ∃ μ', f_X10_findWanted_2_lp N m (nI t) μ = f_X10_findWanted_25_lp N N (nI 0) μ' ∧ fr p_19 μ0 μ' ∧ ∀ i, i < T → μ'.1 193 0 i = nI 0
  | n, 0, t, μ, h1, h2, hC, h4, h6 => by omega
  | 0, m + 1, t, μ, h1, h2, hC, h4, h6 => by
    have hT6 := hC.1.1
    unfold f_X10_findWanted_2_lp f_X10_findWanted_2
    rw [hC.2.1, if_pos ((nI_leI (by omega) (by omega)).mpr (by omega)), li_0]
    exact ⟨μ, rfl, h4, fun i hi => h6 i (by omega)⟩
  | n + 1, m + 1, t, μ, h1, h2, hC, h4, h6 => by
    have hT6 := hC.1.1
    unfold f_X10_findWanted_2_lp f_X10_findWanted_2
    rw [hC.2.1, if_neg (fun z => by have := (nI_leI (by omega) (by omega)).mp z; omega), gd_nI (by omega) (by omega), nI_1]
    simp only [am_nme]
    have hF : fr p_19 μ (am_ui μ 193 0 t 0) := fr.rf.ui rfl
    exact fw_0 N n m (t + 1) _ (by omega) (by omega) (hC.of (fw_R (k19_fw hF))) (h4.tr hF) (fun i hi => by
      rw [ui1]
      by_cases e : i = t
      · rw [if_pos ⟨rfl, rfl, e⟩, li_0]
      · rw [if_neg (by omega)]; exact h6 i (by omega))
theorem findWanted_r (N : Nat) (hN : 5000 ≤ N) {μ : am_M} {T S : Nat} {a : Nat → Nat → Nat} {W : Nat} {tx : Nat → tx_T} {B : Nat → Nat} (hC : Rv μ T S a W tx) (hB : ∀ s, CB a tx T (a 1) (a 2) s (B s)) :
    ∃ μ', f_X10_findWanted N μ = some ((), μ') ∧ fr p_fw μ μ' ∧ (∀ i, i < T → μ'.1 193 0 i = nI (wn a B T S i)) ∧ (∀ z i, z < S → i < T → μ'.1 194 0 (6 * z + i) = nI (ld a B T i z)) := by
  have hT6 := hC.1.1
  have hS5 := hC.1.2.1
  unfold f_X10_findWanted f_X10_findWanted_0
  rw [li_0]
  obtain ⟨μ1, e1, e2, e3⟩ := fw_0 N T N 0 μ (by omega) (by omega) hC fr.rf (fun i hi => by omega)
  rw [e1]
  have hF := k19_fw e2
  exact fw_lp N hN hB S N 0 μ1 (by omega) (by omega) (hC.of (fw_R hF)) hF e3 (fun z i hz _ => by omega)
