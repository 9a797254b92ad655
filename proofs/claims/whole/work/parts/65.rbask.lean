/-! the reference's baskets -/
theorem fr.mono' {P Q : Nat → Nat → Bool} {μ μ1 : am_M} (h : fr P μ μ1) (hq : ∀ k i, P k i = true → Q k i = true) : fr Q μ μ1 := h.mono (fun k i q => by
  cases hp : P k i with
  | false => rfl
  | true => rw [hq k i hp] at q; cases q)
theorem sh31 : ∀ n, n < 32 → ((nI n &&& (31 : Int32)).toBitVec.smod 32).toNat = n := by decide +kernel
theorem pow42 (k : Nat) : 2 ^ (2 * k) = 4 ^ k := by rw [Nat.pow_mul]
def dg (T b t : Nat) : Nat := b / 4 ^ (T - 1 - t) % 4
def RW (μ : am_M) (T : Nat) (w : Nat → Nat → Nat) : Prop := ∀ t m, t < T → m ≤ 3 → μ.1 184 0 (4 * t + m) = nI (w t m)
def p_la (k i : Nat) : Bool := k == 183 || k == 184 || (k == 10 && (i == 18 || i == 19 || i == 20 || i == 21 || i == 22))
def p_un (k i : Nat) : Bool := k == 185 || (k == 10 && (i == 26 || i == 27 || i == 28))
def p_fb (k i : Nat) : Bool := k == 183 || k == 184 || k == 185 || (k == 10 && (i == 18 || i == 19 || i == 20 || i == 21 || i == 22 || i == 26 || i == 27 || i == 28 || i == 30 || i == 31 || i == 32))
theorem wr_la {μ μ' : am_M} (h : fr p_wr μ μ') : fr p_la μ μ' := h.mono' (fun k i q => by simp only [p_wr, p_la, Bool.or_eq_true, Bool.and_eq_true, beq_iff_eq] at q ⊢; omega)
theorem la_fb {μ μ' : am_M} (h : fr p_la μ μ') : fr p_fb μ μ' := h.mono' (fun k i q => by simp only [p_fb, p_la, Bool.or_eq_true, Bool.and_eq_true, beq_iff_eq] at q ⊢; omega)
theorem un_fb {μ μ' : am_M} (h : fr p_un μ μ') : fr p_fb μ μ' := h.mono' (fun k i q => by simp only [p_fb, p_un, Bool.or_eq_true, Bool.and_eq_true, beq_iff_eq] at q ⊢; omega)
theorem fb_R {μ μ' : am_M} (h : fr p_fb μ μ') : fr p_R μ μ' := h.mono' (fun k i q => by simp only [p_fb, p_R, Bool.or_eq_true, Bool.and_eq_true, beq_iff_eq] at q ⊢; omega)
theorem la_R {μ μ' : am_M} (h : fr p_la μ μ') : fr p_R μ μ' := fb_R (la_fb h)
theorem un_R {μ μ' : am_M} (h : fr p_un μ μ') : fr p_R μ μ' := fb_R (un_fb h)
theorem lay_in (N : Nat) (hN : 130 ≤ N) {T S : Nat} {a : Nat → Nat → Nat} {W : Nat} {tx : Nat → tx_T} {s t : Nat} (hs : s < S) (ht : t < T) {r : Int32 → Int32 → am_M → Option (Unit × am_M)} {μ0 : am_M} :
    ∀ (j m k : Nat) (μ : am_M), k + j = 4 → 1 ≤ k → j + 1 ≤ m → Rv μ T S a W tx → fr p_la μ0 μ → (∀ z, z < k → μ.1 184 0 (4 * t + z) = nI (cwt (wf tx a T (a 1) (a 2) s) t z)) → (∀ i, i < 4 * t → μ.1 184 0 i = μ0.1 184 0 i) →
      ∃ μ', f_X10_layWorths_21_lp N r m (nI s) (nI t) (nI k) μ = r (nI s) (nI (t + 1)) μ' ∧ fr p_la μ0 μ' ∧ (∀ z, z ≤ 3 → μ'.1 184 0 (4 * t + z) = nI (cwt (wf tx a T (a 1) (a 2) s) t z)) ∧ (∀ i, i < 4 * t → μ'.1 184 0 i = μ0.1 184 0 i)
  | j, 0, k, μ, h1, h2, h3, hC, h4, h5, h6 => by omega
  | 0, m + 1, k, μ, h1, h2, h3, hC, h4, h5, h6 => by
    have hT6 := hC.1.1
    unfold f_X10_layWorths_21_lp f_X10_layWorths_21
    rw [if_pos (by rw [li_3, nI_ltI (by omega) (by omega)]; omega), nI_1]
    exact ⟨μ, rfl, h4, fun z hz => h5 z (by omega), h6⟩
  | j + 1, m + 1, k, μ, h1, h2, h3, hC, h4, h5, h6 => by
    have hT6 := hC.1.1
    unfold f_X10_layWorths_21_lp f_X10_layWorths_21
    rw [if_neg (by rw [li_3, nI_ltI (by omega) (by omega)]; omega)]
    obtain ⟨k, rfl⟩ : ∃ k', k = k' + 1 := ⟨k - 1, by omega⟩
    obtain ⟨μ1, e1, e2⟩ := worth_r N hN hC (k := k + 1) hs ht
    have e3 : (4 * nI t + nI (k + 1) - 1 : Int32) = nI (4 * t + k) := by
      rw [li_4, pk_mul, nI_add, show 4 * t + (k + 1) = (4 * t + k) + 1 by omega, nI_pred]
    have e4 : (4 * nI t + nI (k + 1) : Int32) = nI (4 * t + (k + 1)) := by rw [li_4, pk_mul, nI_add]
    rw [e3, e4]
    simp (disch := omega) only [gd_nI, am_nme, e1, bd_some, nI_1, h5 k (by omega), nI_add]
    have hF : fr p_la μ (am_ui μ1 184 0 (4 * t + (k + 1)) (nI (cwt (wf tx a T (a 1) (a 2) s) t k + wv (tx (a 8 s)) s (a 7 s) T t (k + 1) (a 1 t) (a 2 t)))) := (wr_la e2).ui rfl
    refine lay_in N hN hs ht j m (k + 2) _ (by omega) (by omega) (by omega) (hC.of (la_R hF)) (h4.tr hF) (fun z hz => ?_) (fun i hi => ?_)
    · by_cases e : z = k + 1
      · subst e; simp [ui1, cwt, wf]
      · rw [ui1, if_neg (by omega), e2.1 184 0 _ rfl]; exact h5 z (by omega)
    · rw [ui1, if_neg (by omega), e2.1 184 0 _ rfl]; exact h6 i hi
theorem lay_lp (N : Nat) (hN : 130 ≤ N) {T S : Nat} {a : Nat → Nat → Nat} {W : Nat} {tx : Nat → tx_T} {s : Nat} (hs : s < S) {μ0 : am_M} : ∀ (n m t : Nat) (μ : am_M), t + n = T → n + 1 ≤ m → Rv μ T S a W tx → fr p_la μ0 μ → (∀ i z, i < t → z ≤ 3 → μ.1 184 0 (4 * i + z) = nI (cwt (wf tx a T (a 1) (a 2) s) i z)) →
      ∃ μ', f_X10_layWorths_2_lp N m (nI s) (nI t) μ = some ((), μ') ∧ fr p_la μ0 μ' ∧ RW μ' T (cwt (wf tx a T (a 1) (a 2) s))
  | n, 0, t, μ, h1, h2, hC, h4, h5 => by omega
  | 0, m + 1, t, μ, h1, h2, hC, h4, h5 => by
    have hT6 := hC.1.1
    unfold f_X10_layWorths_2_lp f_X10_layWorths_2
    rw [hC.2.1, if_pos ((nI_leI (by omega) (by omega)).mpr (by omega))]
    exact ⟨μ, rfl, h4, fun i z hi hz => h5 i z (by omega) hz⟩
  | n + 1, m + 1, t, μ, h1, h2, hC, h4, h5 => by
    have hT6 := hC.1.1
    unfold f_X10_layWorths_2_lp f_X10_layWorths_2
    rw [hC.2.1, if_neg (fun z => by have := (nI_leI (by omega) (by omega)).mp z; omega), li_4, pk_mul, li_0, li_1]
    simp (disch := omega) only [gd_nI, am_nme]
    have hF : fr p_la μ (am_ui μ 184 0 (4 * t) (nI 0)) := fr.rf.ui rfl
    obtain ⟨μ1, e1, e2, e3, e4⟩ := lay_in N hN hs (show t < T by omega) (r := f_X10_layWorths_2_lp N m) 3 N 1 _ (by omega) (by omega) (by omega) (hC.of (la_R hF)) fr.rf (fun z hz => by
      have : z = 0 := by omega
      subst this
      simp [ui1, cwt]) (fun _ _ => rfl)
    rw [e1]
    refine lay_lp N hN hs n m (t + 1) μ1 (by omega) (by omega) (hC.of (la_R (hF.tr e2))) ((h4.tr hF).tr e2) (fun i z hi hz => ?_)
    by_cases e : i = t
    · subst e; exact e3 z hz
    · rw [e4 _ (by omega), ui1, if_neg (by omega)]; exact h5 i z (by omega) hz
theorem lay_r (N : Nat) (hN : 130 ≤ N) {μ : am_M} {T S : Nat} {a : Nat → Nat → Nat} {W : Nat} {tx : Nat → tx_T} (hC : Rv μ T S a W tx) {s : Nat} (hs : s < S) : ∃ μ', f_X10_layWorths N (nI s) μ = some ((), μ') ∧ fr p_la μ μ' ∧ RW μ' T (cwt (wf tx a T (a 1) (a 2) s)) := by
  have hT6 := hC.1.1
  unfold f_X10_layWorths f_X10_layWorths_0
  rw [li_0]
  exact lay_lp N hN hs T N 0 μ (by omega) (by omega) hC fr.rf (fun i z hi => by omega)
/-- costs as the reference reads them -/
def RC (μ : am_M) (T : Nat) (w : Nat → Nat → Nat) (c p : Nat → Nat) : Prop := μ.1 10 0 6 = nI T ∧ RW μ T w ∧ ∃ (c0 : Nat → Nat) (dr : Nat), μ.1 10 0 29 = nI dr ∧ dr ≤ 900 ∧ ∀ t, t < T → c0 t ≤ 99 ∧ μ.1 160 0 (6 + t) = nI (c0 t) ∧ c t = c0 t * dr / 100 ∧ μ.1 160 0 (12 + t) = nI (p t)
theorem RC.of {P : Nat → Nat → Bool} {μ μ' : am_M} {T : Nat} {w : Nat → Nat → Nat} {c p : Nat → Nat} (h : RC μ T w c p) (hf : fr P μ μ') (h1 : P 10 6 = false) (h2 : ∀ i, P 184 i = false) (h3 : P 10 29 = false) (h4 : ∀ i, P 160 i = false) : RC μ' T w c p := by
  obtain ⟨a1, a2, c0, dr, a3, a4, a5⟩ := h
  exact ⟨(hf.1 10 0 6 h1).trans a1, fun t m ht hm => (hf.1 184 0 _ (h2 _)).trans (a2 t m ht hm), c0, dr, (hf.1 10 0 29 h3).trans a3, a4, fun t ht => ⟨(a5 t ht).1, (hf.1 160 0 _ (h4 _)).trans (a5 t ht).2.1, (a5 t ht).2.2.1, (hf.1 160 0 _ (h4 _)).trans (a5 t ht).2.2.2⟩⟩
theorem un_lp (N : Nat) {T : Nat} (hT : T ≤ 6) {w : Nat → Nat → Nat} {c p : Nat → Nat} {b : Nat} (hb : b < 4 ^ T) {μ0 : am_M} : ∀ (n m t : Nat) (μ : am_M), t + n = T → n + 1 ≤ m → RC μ T w c p → fr p_un μ0 μ → (∀ i, i < t → μ.1 185 0 i = nI (dg T b i)) → μ.1 10 0 26 = nI (bw w t (b / 4 ^ (T - t))) → μ.1 10 0 27 = nI (bc c t (b / 4 ^ (T - t))) → μ.1 10 0 28 = nI (bc p t (b / 4 ^ (T - t))) →
    ∃ μ', f_X10_unpack_17_lp N m (nI b) (nI t) μ = some ((), μ') ∧ fr p_un μ0 μ' ∧ (∀ i, i < T → μ'.1 185 0 i = nI (dg T b i)) ∧ μ'.1 10 0 26 = nI (bw w T b) ∧ μ'.1 10 0 27 = nI (bc c T b) ∧ μ'.1 10 0 28 = nI (bc p T b)
  | n, 0, t, μ, h1, h2, h3, h4, h5, h6, h7, h8 => by omega
  | 0, m + 1, t, μ, h1, h2, h3, h4, h5, h6, h7, h8 => by
    unfold f_X10_unpack_17_lp f_X10_unpack_17
    have ht : t = T := by omega
    subst ht
    rw [h3.1, if_pos ((nI_leI (by omega) (by omega)).mpr (by omega))]
    simp only [Nat.sub_self, Nat.pow_zero, Nat.div_one] at h6 h7 h8
    exact ⟨μ, rfl, h4, h5, h6, h7, h8⟩
  | n + 1, m + 1, t, μ, h1, h2, h3, h4, h5, h6, h7, h8 => by
    have hb6 : b < 4096 := Nat.lt_of_lt_of_le hb (Nat.pow_le_pow_right (by decide) hT)
    unfold f_X10_unpack_17_lp f_X10_unpack_17
    obtain ⟨a1, a2, c0, dr, a3, a4, a5⟩ := id h3
    obtain ⟨q1, q2, q3, q4'⟩ := a5 t (by omega)
    have en : ((nI b >>> ((2 * ((nI T - 1) - nI t)) &&& 31)) &&& 3 : Int32) = nI (dg T b t) := by
      rw [li_1, pk_sub (by omega), pk_sub (by omega), li_2, pk_mul, pk_shrN (by omega) _ (2 * (T - 1 - t)) (sh31 _ (by omega)), pow42, pk_andN (Nat.lt_of_le_of_lt (Nat.div_le_self _ _) (by omega)) 2 (by decide)]
      rfl
    have hdg : dg T b t ≤ 3 := by unfold dg; omega
    have hcd : c0 t * dr ≤ 99 * 900 := Nat.mul_le_mul q1 a4
    rw [a1, if_neg (fun z => by have := (nI_leI (by omega) (by omega)).mp z; omega), en, am_nme]
    have e4 : (4 * nI t + nI (dg T b t) : Int32) = nI (4 * t + dg T b t) := by rw [li_4, pk_mul, nI_add]
    rw [e4, li_6, li_12, nI_add, nI_add, li_100]
    simp (disch := omega) only [gd_nI, am_nme]
    simp only [ui1]
    simp only [Nat.reduceEqDiff, false_and, and_false, if_false, true_and, a2 t _ (by omega) hdg, h6, h7, h8, q2, q4', a3, nI_add, pk_mul]
    rw [pk_div (by omega) (by decide) (by decide), ← q3]
    simp only [pk_mul, nI_add]
    have hdiv : b / 4 ^ (T - (t + 1)) / 4 = b / 4 ^ (T - t) := by
      rw [Nat.div_div_eq_div_mul, ← Nat.pow_succ]
      congr 2; omega
    have hmod : b / 4 ^ (T - (t + 1)) % 4 = dg T b t := by
      unfold dg; congr 3; omega
    have hw : bw w (t + 1) (b / 4 ^ (T - (t + 1))) = bw w t (b / 4 ^ (T - t)) + w t (dg T b t) := by
      show bw w t (b / 4 ^ (T - (t + 1)) / 4) + w t (b / 4 ^ (T - (t + 1)) % 4) = _
      rw [hdiv, hmod]
    have hc : ∀ f, bc f (t + 1) (b / 4 ^ (T - (t + 1))) = bc f t (b / 4 ^ (T - t)) + dg T b t * f t := by
      intro f
      show bc f t (b / 4 ^ (T - (t + 1)) / 4) + (b / 4 ^ (T - (t + 1)) % 4) * f t = _
      rw [hdiv, hmod]
    rw [← hw, ← hc, ← hc, li_1, nI_add]
    have hF : fr p_un μ (am_ui (am_ui (am_ui (am_ui μ 185 0 t (nI (dg T b t))) 10 0 26 (nI (bw w (t + 1) (b / 4 ^ (T - (t + 1)))))) 10 0 27 (nI (bc c (t + 1) (b / 4 ^ (T - (t + 1)))))) 10 0 28 (nI (bc p (t + 1) (b / 4 ^ (T - (t + 1)))))) := (((fr.rf.ui rfl).ui rfl).ui rfl).ui rfl
    refine un_lp N hT hb n m (t + 1) _ (by omega) (by omega) (h3.of hF rfl (fun _ => rfl) rfl (fun _ => rfl)) (h4.tr hF) (fun i hi => ?_) (by simp [ui1]) (by simp [ui1]) (by simp [ui1])
    by_cases e : i = t
    · subst e; simp [ui1]
    · simp [ui1, e]; exact h5 i (by omega)
theorem unpack_r (N : Nat) (hN : 130 ≤ N) {μ : am_M} {T : Nat} (hT : T ≤ 6) {w : Nat → Nat → Nat} {c p : Nat → Nat} (h : RC μ T w c p) {b : Nat} (hb : b < 4 ^ T) :
    ∃ μ', f_X10_unpack N (nI b) μ = some ((), μ') ∧ fr p_un μ μ' ∧ (∀ i, i < T → μ'.1 185 0 i = nI (dg T b i)) ∧ μ'.1 10 0 26 = nI (bw w T b) ∧ μ'.1 10 0 27 = nI (bc c T b) ∧ μ'.1 10 0 28 = nI (bc p T b) := by
  unfold f_X10_unpack f_X10_unpack_0
  simp only [am_nme, li_0]
  have hF : fr p_un μ (am_ui (am_ui (am_ui μ 10 0 26 (nI 0)) 10 0 27 (nI 0)) 10 0 28 (nI 0)) := ((fr.rf.ui rfl).ui rfl).ui rfl
  exact un_lp N hT hb T N 0 _ (by omega) (by omega) (h.of hF rfl (fun _ => rfl) rfl (fun _ => rfl)) hF (fun i hi => by omega) (by simp [ui1, bw]) (by simp [ui1, bc]) (by simp [ui1, bc])
