/-! told baskets; judge -/
theorem or_nI {a d k : Nat} (ha : a < 2 ^ k) : nI a ||| nI (d * 2 ^ k) = nI (a + d * 2 ^ k) := by
  have h := Nat.two_pow_add_eq_or_of_lt ha d
  have e : a + d * 2 ^ k = a ||| d * 2 ^ k := by
    rw [Nat.mul_comm d, Nat.add_comm, h, Nat.or_comm]
  rw [e]
  apply Int32.toBitVec_inj.mp
  show BitVec.ofNat 32 a ||| BitVec.ofNat 32 (d * 2 ^ k) = BitVec.ofNat 32 (a ||| d * 2 ^ k)
  exact BitVec.ofNat_or.symm
theorem bdg_0 : ∀ T, bdg T 0 = 0
  | 0 => rfl
  | T + 1 => by show bdg T (0 / 4) * 10 + 0 % 4 = 0; simp [bdg_0 T]
theorem bdg_up : ∀ T b, b < 4 ^ T → bdg (T + 1) b = bdg T b
  | 0, b, h => by
    have : b = 0 := by simpa using h
    subst this; rfl
  | T + 1, b, h => by
    have h1 : b / 4 < 4 ^ T := by rw [Nat.pow_succ] at h; omega
    show bdg (T + 1) (b / 4) * 10 + b % 4 = bdg T (b / 4) * 10 + b % 4
    rw [bdg_up T (b / 4) h1]
theorem pk_lp (N : Nat) {T : Nat} (hT : T ≤ 6) {b : Nat} {μ : am_M} (h6 : μ.1 10 0 6 = nI T) : ∀ (n m t : Nat), t + n = T → n + 1 ≤ m → f_X10_packed_7_lp N m (nI (b % 4 ^ t)) (nI (bdg n (b / 4 ^ t))) (nI t) μ = some (nI (b % 4 ^ T), μ)
  | n, 0, t, h1, h2 => by omega
  | 0, m + 1, t, h1, h2 => by
    unfold f_X10_packed_7_lp f_X10_packed_7
    rw [h6, if_pos ((nI_leI (by omega) (by omega)).mpr (by omega))]
    have : t = T := by omega
    subst this; rfl
  | n + 1, m + 1, t, h1, h2 => by
    have hb := bdg6 (T := n + 1) (by omega) (b / 4 ^ t)
    have h4 : 4 ^ t ≤ 4 ^ 6 := Nat.pow_le_pow_right (by decide) (by omega)
    have h46 : (4 : Nat) ^ 6 = 4096 := by decide
    have hm : b % 4 ^ t < 4 ^ t := Nat.mod_lt _ (Nat.pow_pos (by decide))
    unfold f_X10_packed_7_lp f_X10_packed_7
    rw [h6, if_neg (fun z => by have := (nI_leI (by omega) (by omega)).mp z; omega), li_10, rem_nI (by omega) (by decide) (by decide), pk_div (by omega) (by decide) (by decide), (bdg_d n _).1, (bdg_d n _).2, li_2, pk_mul, nI_1]
    have hd : b / 4 ^ t % 4 < 4 := Nat.mod_lt _ (by decide)
    have hmul : b / 4 ^ t % 4 * 4 ^ t ≤ 3 * 4096 := Nat.mul_le_mul (by omega) (by omega)
    rw [pk_shlN _ (2 * t) (sh31 _ (by omega)) (by rw [pow42]; omega), or_nI (by rw [pow42]; exact hm), pow42]
    simp only [am_nme]
    have e : b % 4 ^ t + b / 4 ^ t % 4 * 4 ^ t = b % 4 ^ (t + 1) := by
      rw [Nat.pow_succ, Nat.mod_mul, Nat.mul_comm (4 ^ t)]
    have e2 : b / 4 ^ t / 4 = b / 4 ^ (t + 1) := by rw [Nat.pow_succ, Nat.div_div_eq_div_mul]
    rw [e, e2]
    exact pk_lp N hT h6 n m (t + 1) (by omega) (by omega)
theorem packed_r (N : Nat) (hN : 130 ≤ N) {T : Nat} (hT : T ≤ 6) {b : Nat} (hb : b < 4 ^ T) {μ : am_M} (h6 : μ.1 10 0 6 = nI T) : f_X10_packed N (nI (bdg T b)) μ = some (nI b, μ) := by
  have := pk_lp N hT (b := b) h6 T N 0 (by omega) (by omega)
  rw [Nat.mod_eq_of_lt hb, Nat.pow_zero, Nat.mod_one, Nat.div_one, ← li_0] at this
  exact this

def TL (cell : Nat) (μ : am_M) (T : Nat) (D : Nat → Nat) : Prop := ∀ s, s < 5 → D s < 4 ^ T ∧ μ.1 cell 0 s = nI (bdg T (D s))
theorem wc2_c (N : Nat) (hN : 130 ≤ N) {μ : am_M} {T S : Nat} {a : Nat → Nat → Nat} {W : Nat} {tx : Nat → tx_T} (hC : Cv μ T S a W tx) {c p : Nat → Nat} (hc : ∀ t, c t ≤ 99) (hp : ∀ t, p t ≤ 99) (hT : TC μ T c p) {s b : Nat} (hs : s < S) (hB : CB a tx T c p s b) :
    ∃ μ1 μ', f_X7_weigh N (nI s) μ = some ((), μ1) ∧ f_X7_choose N (nI s) μ1 = some ((), μ') ∧ fr p_wk μ μ' ∧ SR μ' T (cwt (wf tx a T c p s)) c p b ∧ DM μ' T (cwt (wf tx a T c p s)) c p (a 5 s) (a 6 s + 10 * a 7 s) 100 := by
  obtain ⟨μ1, e1, e2, e3⟩ := weigh_c N hN hC hT hs
  have hw := wf_le tx a T c p s
  have hT1 := hT.of e2 (fun _ => rfl) (fun _ => rfl)
  obtain ⟨μ', b', g1, g2, g3, g4, g5, g6, g7⟩ := choose_c N hN (hC.of (p_wg_C e2)) (w := cwt (wf tx a T c p s)) (c := c) (p := p) ⟨hC.1.1, fun t m hm => Nat.le_trans (cwt_le hw t m) (by omega), fun t m hm => cwt_mono _ t m hm, fun t => by have := hc t; omega, hp, by omega, by omega, by omega⟩ hT1 e3 hs
  have : b = b' := NB_uniq hB g7
  subst this
  have e3' := e3.of g2 (fun _ => rfl) (fun _ => rfl)
  exact ⟨μ1, μ', e1, g1, (wg_wk e2).tr (k5_wk g2), g3, (g2.1 1 0 1 rfl).trans ((e2.1 1 0 1 rfl).trans hC.2.1), hT1.of g2 (fun _ => rfl) (fun _ => rfl), e3'.1, e3'.2, g4, g5, g6⟩
theorem dg_step (T b t n : Nat) (h : t + (n + 1) = T) : b / 4 ^ (n + 1) = b / 4 ^ n / 4 ∧ dg T b t = b / 4 ^ n % 4 := by
  refine ⟨by rw [Nat.div_div_eq_div_mul, ← Nat.pow_succ], ?_⟩
  unfold dg
  rw [show T - 1 - t = n by omega]
theorem bc_step (f : Nat → Nat) (T b t n : Nat) (h : t + (n + 1) = T) : bc f (t + 1) (b / 4 ^ n) = bc f t (b / 4 ^ (n + 1)) + dg T b t * f t := by
  rw [(dg_step T b t n h).1, (dg_step T b t n h).2]; rfl
theorem bw_step (w : Nat → Nat → Nat) (T b t n : Nat) (h : t + (n + 1) = T) : bw w (t + 1) (b / 4 ^ n) = bw w t (b / 4 ^ (n + 1)) + w t (dg T b t) := by
  rw [(dg_step T b t n h).1, (dg_step T b t n h).2]; rfl
theorem fo_lp (N : Nat) (hN : 130 ≤ N) {T : Nat} (hT : T ≤ 6) {s b0 d : Nat} (hs : s < 5) (hd : d < 4 ^ T) {w : Nat → Nat → Nat} {c p : Nat → Nat} {pu bo : Nat} (hB : BB T w c p pu bo 100) (hc : ∀ t, c t ≤ 99) {μ : am_M} (hD : DM μ T w c p pu bo 100) (hS : SR μ T w c p b0) (h99 : μ.1 99 0 s = nI (bdg T d)) :
    ∀ (n m t : Nat), t + n = T → n + 1 ≤ m → f_X2_faultOf_26_lp N m (nI s) (nI (bw w t (d / 4 ^ n))) (nI (bc c t (d / 4 ^ n))) (nI (bc p t (d / 4 ^ n))) (nI t) μ = some (if bc c T d + 100 * (bc p T d - bo) ≤ pu then (if bw w T b0 ≤ bw w T d then 0 else 20) else 10, μ)
  | n, 0, t, h1, h2 => by omega
  | 0, m + 1, t, h1, h2 => by
    unfold f_X2_faultOf_26_lp f_X2_faultOf_26
    rw [hD.1, if_pos ((nI_leI (by omega) (by omega)).mpr (by omega))]
    have : t = T := by omega
    subst this
    rw [Nat.pow_zero, Nat.div_one]
    have W0 : bw w t b0 ≤ 17982 := Nat.le_trans (bw_le w 2997 hB.2.1 t b0) (by omega)
    have W1 : bw w t d ≤ 17982 := Nat.le_trans (bw_le w 2997 hB.2.1 t d) (by omega)
    have C1 : bc c t d ≤ 1782 := Nat.le_trans (bc_le c 99 hc t d) (by omega)
    have P1 : bc p t d ≤ 1782 := Nat.le_trans (bc_le p 99 hB.2.2.2.2.1 t d) (by omega)
    rw [pay_c N hB hD (by omega) (by omega), bd_some, gI, hS.1]
    by_cases c1 : bc c t d + 100 * (bc p t d - bo) ≤ pu
    · rw [if_pos c1, if_pos c1]
      by_cases c2 : bw w t b0 ≤ bw w t d
      · rw [if_pos c2, if_pos ((nI_leI (by omega) (by omega)).mpr c2)]
      · rw [if_neg c2, if_neg (fun z => c2 ((nI_leI (by omega) (by omega)).mp z))]
    · rw [if_neg c1, if_neg c1]
  | n + 1, m + 1, t, h1, h2 => by
    unfold f_X2_faultOf_26_lp f_X2_faultOf_26
    have h3 := dg3 T d t
    rw [hD.1, if_neg (fun z => by have := (nI_leI (by omega) (by omega)).mp z; omega), gd_nI (by omega) (by omega), h99, digitOf_c N hN hD.1 hT (by omega), bd_some, first_c N (by omega) h3, bd_some, hD.2.2.1 t _ (by omega) h3, nI_1]
    simp only [am_nme]
    rw [coinOf_c N (by omega), bd_some, (hD.2.1 t (by omega)).1]
    rw [pointsOf_c N (by omega), bd_some, (hD.2.1 t (by omega)).2]
    simp only [pk_mul, nI_add]
    rw [← bc_step c T d t n h1, ← bc_step p T d t n h1, ← bw_step w T d t n h1]
    exact fo_lp N hN hT hs hd hB hc hD hS h99 n m (t + 1) (by omega) (by omega)
theorem faultOf_c (N : Nat) (hN : 130 ≤ N) {μ : am_M} {T S : Nat} {a : Nat → Nat → Nat} {W : Nat} {tx : Nat → tx_T} (hC : Cv μ T S a W tx) (hT : TC μ T (a 1) (a 2)) {D : Nat → Nat} (hD : TL 99 μ T D) {s b : Nat} (hs : s < S) (hB : CB a tx T (a 1) (a 2) s b) :
    ∃ μ', f_X2_faultOf N (nI s) μ = some (if bc (a 1) T (D s) + 100 * (bc (a 2) T (D s) - (a 6 s + 10 * a 7 s)) ≤ a 5 s then (if bw (cwt (wf tx a T (a 1) (a 2) s)) T b ≤ bw (cwt (wf tx a T (a 1) (a 2) s)) T (D s) then 0 else 20) else 10, μ') ∧ fr p_wk μ μ' := by
  have hT6 := hC.1.1
  have hS5 := hC.1.2.1
  have hb := hC.1.2.2.2.1
  have hbs := hb s
  unfold f_X2_faultOf f_X2_faultOf_0
  obtain ⟨μ1, μ2, e1, e2, e3, e4, e5⟩ := wc2_c N hN hC (fun t => (hb t).2.1) (fun t => (hb t).2.2.1) hT hs hB
  have hw := wf_le tx a T (a 1) (a 2) s
  have hBB : BB T (cwt (wf tx a T (a 1) (a 2) s)) (a 1) (a 2) (a 5 s) (a 6 s + 10 * a 7 s) 100 := ⟨hT6, fun t m hm => Nat.le_trans (cwt_le hw t m) (by omega), fun t m hm => cwt_mono _ t m hm, fun t => by have := (hb t).2.1; omega, fun t => (hb t).2.2.1, by omega, by omega, by omega⟩
  have hDs := hD s (by omega)
  have := fo_lp N hN hT6 (s := s) (b0 := b) (by omega) hDs.1 hBB (fun t => (hb t).2.1) e5 e4 ((e3.1 99 0 s rfl).trans hDs.2) T N 0 (by omega) (by omega)
  rw [Nat.div_eq_of_lt hDs.1] at this
  rw [e1, bd_some, e2, bd_some]
  exact ⟨μ2, this, e3⟩
theorem tl_lp (N : Nat) (hN : 130 ≤ N) {T S : Nat} {a : Nat → Nat → Nat} {W : Nat} {tx : Nat → tx_T} {D : Nat → Nat} {t : Nat} {μ : am_M} (hC : Cv μ T S a W tx) (hD : TL 99 μ T D) (ht : t < T) : ∀ (n m s : Nat), s + n = S → n + 1 ≤ m → f_X2_toldOf_4_lp N m (nI t) (nI (sN (ld a D T t) s)) (nI s) μ = some (nI (wn a D T S t), μ)
  | n, 0, s, h1, h2 => by omega
  | 0, m + 1, s, h1, h2 => by
    have hS5 := hC.1.2.1
    unfold f_X2_toldOf_4_lp f_X2_toldOf_4
    rw [hC.2.2.1, if_pos ((nI_leI (by omega) (by omega)).mpr (by omega))]
    have : s = S := by omega
    subst this; rfl
  | n + 1, m + 1, s, h1, h2 => by
    have hT6 := hC.1.1
    have hS5 := hC.1.2.1
    unfold f_X2_toldOf_4_lp f_X2_toldOf_4
    rw [hC.2.2.1, if_neg (fun z => by have := (nI_leI (by omega) (by omega)).mp z; omega), li_4, at_cls N (by omega) (by omega), bd_some, gd_nI (by omega) (by omega), (hD s (by omega)).2, digitOf_c N hN hC.2.1 hT6 ht, bd_some, hC.2.2.2.2.2.1 4 s (by omega) (by omega) (by omega), pk_mul, nI_add, nI_1]
    simp only [am_nme]
    exact tl_lp N hN hC hD ht n m (s + 1) (by omega) (by omega)
theorem toldOf_c (N : Nat) (hN : 130 ≤ N) {T S : Nat} {a : Nat → Nat → Nat} {W : Nat} {tx : Nat → tx_T} {D : Nat → Nat} {t : Nat} {μ : am_M} (hC : Cv μ T S a W tx) (hD : TL 99 μ T D) (ht : t < T) : f_X2_toldOf N (nI t) μ = some (nI (wn a D T S t), μ) := by
  have hS5 := hC.1.2.1
  unfold f_X2_toldOf f_X2_toldOf_0
  exact tl_lp N hN hC hD ht S N 0 (by omega) (by omega)
