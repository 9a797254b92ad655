/-! judge, the reference and both -/
theorem bestOf2_r (N : Nat) (hN : 5000 ≤ N) {μ : am_M} {T S : Nat} {a : Nat → Nat → Nat} {W : Nat} {tx : Nat → tx_T} (hC : Rv μ T S a W tx) {s b : Nat} (hs : s < S) (hB : CB a tx T (a 1) (a 2) s b) :
    ∃ μ', f_X10_bestOf N (nI s) μ = some (nI b, μ') ∧ fr p_fb μ μ' ∧ RS μ' T (cwt (wf tx a T (a 1) (a 2) s)) (a 1) (a 2) b ∧ RC μ' T (cwt (wf tx a T (a 1) (a 2) s)) (a 1) (a 2) := by
  have hb := hC.1.2.2.2.1
  have hbs := hb s
  unfold f_X10_bestOf f_X10_bestOf_0
  rw [purseOf_r N hC hs, bd_some, pia_r N hC hs, bd_some]
  obtain ⟨μ', b', g1, g2, g3, g5, g4⟩ := findBest_r N hN hC hs (pu := a 5 s) (bo := a 6 s + 10 * a 7 s) (by omega) (by omega)
  have : b = b' := NB_uniq hB g4
  subst this
  have hC1 := hC.of (fb_R g2)
  exact ⟨μ', by rw [g1, bd_some], g2, g3, hC1.2.1, g5, a 1, 100, hC1.2.2.2.2.2.2.2, by decide, fun t ht => ⟨(hb t).2.1, (hC1.2.2.2.2.1 t ht).2.1, by omega, (hC1.2.2.2.2.1 t ht).2.2.1⟩⟩
theorem TL.of {P : Nat → Nat → Bool} {cell : Nat} {μ μ' : am_M} {T : Nat} {D : Nat → Nat} (h : TL cell μ T D) (hf : fr P μ μ') (h1 : ∀ i, P cell i = false) : TL cell μ' T D := fun s hs => ⟨(h s hs).1, (hf.1 cell 0 s (h1 s)).trans (h s hs).2⟩
theorem d95 {T t d : Nat} (hT : T ≤ 6) (ht : t < T) (hd : d < 4 ^ T) : (nI d >>> ((2 * (nI T - 1 - nI t)) &&& 31)) &&& 3 = nI (dg T d t) := by
  have h4 : 4 ^ T ≤ 4 ^ 6 := Nat.pow_le_pow_right (by decide) hT
  have h46 : (4 : Nat) ^ 6 = 4096 := by decide
  cases T with
  | zero => omega
  | succ T =>
    rw [nI_pred, pk_sub (by omega), li_2, pk_mul, pk_shrN (by omega) _ (2 * (T - t)) (sh31 _ (by omega)), pow42, pk_andN (Nat.lt_of_le_of_lt (Nat.div_le_self _ _) (by omega)) 2 (by decide)]
    rfl
theorem j95_lp (N : Nat) (hN : 130 ≤ N) {T S : Nat} {a : Nat → Nat → Nat} {W : Nat} {tx : Nat → tx_T} {D : Nat → Nat} {t : Nat} {μ : am_M} {r : Int32 → am_M → Option (Int32 × am_M)} (hC : Rv μ T S a W tx) (hD : TL 172 μ T D) (ht : t < T) : ∀ (n m s : Nat), s + n = S → n + 1 ≤ m → f_X10_judge_95_lp N r m (nI t) (nI (sN (ld a D T t) s)) (nI s) μ = if wn a D T S t ≤ a 0 t then r (nI (t + 1)) μ else some (nI (30 + t), μ)
  | n, 0, s, h1, h2 => by omega
  | 0, m + 1, s, h1, h2 => by
    have hT6 := hC.1.1
    have hS5 := hC.1.2.1
    have hb := hC.1.2.2.2.1 t
    have hw := wn_le hC.1 D t
    unfold f_X10_judge_95_lp f_X10_judge_95
    rw [hC.2.2.1, if_pos ((nI_leI (by omega) (by omega)).mpr (by omega)), gd_nI (by omega) (by omega), (hC.2.2.2.2.1 t ht).1, nI_1, li_30, nI_add]
    have : s = S := by omega
    subst this
    by_cases c : wn a D T s t ≤ a 0 t
    · rw [if_pos c]; exact if_pos ((nI_leI (by omega) (by omega)).mpr c)
    · rw [if_neg c]; exact if_neg (fun z => c ((nI_leI (by omega) (by omega)).mp z))
  | n + 1, m + 1, s, h1, h2 => by
    have hT6 := hC.1.1
    have hS5 := hC.1.2.1
    unfold f_X10_judge_95_lp f_X10_judge_95
    have hDs := hD s (by omega)
    rw [hC.2.2.1, if_neg (fun z => by have := (nI_leI (by omega) (by omega)).mp z; omega), gd_nI (by omega) (by omega), gd_nI (by omega) (by omega), hDs.2, packed_r N hN hT6 hDs.1 hC.2.1, bd_some, hC.2.1, d95 hT6 ht hDs.1, (hC.2.2.2.2.2.1 s (by omega)).1, pk_mul, nI_add, nI_1]
    simp only [am_nme]
    exact j95_lp N hN hC hD ht n m (s + 1) (by omega) (by omega)
theorem j83_lp (N : Nat) (hN : 130 ≤ N) {T S : Nat} {a : Nat → Nat → Nat} {W : Nat} {tx : Nat → tx_T} {D : Nat → Nat} {μ ν : am_M} (hC : Cv μ T S a W tx) (hD : TL 99 μ T D) (hR : Rv ν T S a W tx) (hE : TL 172 ν T D) : ∀ (n m t : Nat), t + n = T → n + 1 ≤ m → ∃ r, f_X2_judged_42_lp N m (nI t) μ = some (r, μ) ∧ f_X10_judge_83_lp N m (nI t) ν = some (r, ν)
  | n, 0, t, h1, h2 => by omega
  | 0, m + 1, t, h1, h2 => by
    have hT6 := hC.1.1
    unfold f_X2_judged_42_lp f_X2_judged_42 f_X10_judge_83_lp f_X10_judge_83
    rw [hC.2.1, hR.2.1, if_pos ((nI_leI (by omega) (by omega)).mpr (by omega)), if_pos ((nI_leI (by omega) (by omega)).mpr (by omega))]
    exact ⟨_, rfl, rfl⟩
  | n + 1, m + 1, t, h1, h2 => by
    have hT6 := hC.1.1
    have hS5 := hC.1.2.1
    have hb := hC.1.2.2.2.1 t
    have hw := wn_le hC.1 D t
    have e := at_cls N (c := 0) (t := t) (by omega) (by omega) μ
    rw [← li_0] at e
    have e9 := j95_lp N hN hR hE (t := t) (r := f_X10_judge_83_lp N m) (by omega) S N 0 (by omega) (by omega)
    have e9' : f_X10_judge_95_lp N (f_X10_judge_83_lp N m) N (nI t) 0 0 ν = _ := e9
    unfold f_X2_judged_42_lp f_X2_judged_42 f_X10_judge_83_lp f_X10_judge_83
    rw [hC.2.1, hR.2.1, if_neg (fun z => by have := (nI_leI (by omega) (by omega)).mp z; omega), if_neg (fun z => by have := (nI_leI (by omega) (by omega)).mp z; omega), toldOf_c N hN hC hD (by omega), bd_some, e, bd_some, e9', hC.2.2.2.2.1 0 t (by omega) (by omega), nI_1, li_30, nI_add]
    by_cases c : wn a D T S t ≤ a 0 t
    · rw [if_pos c, if_pos ((nI_leI (by omega) (by omega)).mpr c)]
      exact j83_lp N hN hC hD hR hE n m (t + 1) (by omega) (by omega)
    · rw [if_neg c, if_neg (fun z => c ((nI_leI (by omega) (by omega)).mp z))]
      exact ⟨_, rfl, rfl⟩
theorem jg_lp (N : Nat) (hN : 5000 ≤ N) {T S : Nat} {a : Nat → Nat → Nat} {W : Nat} {tx : Nat → tx_T} {D B : Nat → Nat} (hB : ∀ s, CB a tx T (a 1) (a 2) s (B s)) {μ0 ν0 : am_M} :
    ∀ (n m s : Nat) (μ ν : am_M), s + n = S → n + 1 ≤ m → Cv μ T S a W tx → TC μ T (a 1) (a 2) → TL 99 μ T D → Rv ν T S a W tx → TL 172 ν T D → fr p_C μ0 μ → fr p_R ν0 ν →
      ∃ r μ' ν', f_X2_judged_9_lp N m (nI s) μ = some (r, μ') ∧ f_X10_judge_2_lp N m (nI s) ν = some (r, ν') ∧ fr p_C μ0 μ' ∧ fr p_R ν0 ν'
  | n, 0, s, μ, ν, h1, h2, hC, hT, hD, hR, hE, hF, hG => by omega
  | 0, m + 1, s, μ, ν, h1, h2, hC, hT, hD, hR, hE, hF, hG => by
    have hT6 := hC.1.1
    have hS5 := hC.1.2.1
    unfold f_X2_judged_9_lp f_X2_judged_9 f_X10_judge_2_lp f_X10_judge_2
    rw [hC.2.2.1, hR.2.2.1, if_pos ((nI_leI (by omega) (by omega)).mpr (by omega)), if_pos ((nI_leI (by omega) (by omega)).mpr (by omega)), li_0]
    obtain ⟨r, e1, e2⟩ := j83_lp N (by omega) hC hD hR hE T N 0 (by omega) (by omega)
    exact ⟨r, μ, ν, e1, e2, hF, hG⟩
  | n + 1, m + 1, s, μ, ν, h1, h2, hC, hT, hD, hR, hE, hF, hG => by
    have hT6 := hC.1.1
    have hS5 := hC.1.2.1
    have hb := hC.1.2.2.2.1
    have hbs := hb s
    have hs : s < S := by omega
    have hEs := hE s (by omega)
    have hw := wf_le tx a T (a 1) (a 2) s
    have hwb : ∀ t m, m ≤ 3 → cwt (wf tx a T (a 1) (a 2) s) t m ≤ 2997 := fun t m hm => Nat.le_trans (cwt_le hw t m) (by omega)
    have W0 : bw (cwt (wf tx a T (a 1) (a 2) s)) T (B s) ≤ 17982 := Nat.le_trans (bw_le _ 2997 hwb T (B s)) (by omega)
    have W1 : bw (cwt (wf tx a T (a 1) (a 2) s)) T (D s) ≤ 17982 := Nat.le_trans (bw_le _ 2997 hwb T (D s)) (by omega)
    have C1 : bc (a 1) T (D s) ≤ 1782 := Nat.le_trans (bc_le _ 99 (fun t => (hb t).2.1) T (D s)) (by omega)
    have P1 : bc (a 2) T (D s) ≤ 1782 := Nat.le_trans (bc_le _ 99 (fun t => (hb t).2.2.1) T (D s)) (by omega)
    obtain ⟨μ1, e1, e2⟩ := faultOf_c N (by omega) hC hT hD hs (hB s)
    obtain ⟨ν1, g1, g2, g3, g4⟩ := bestOf2_r N hN hR hs (hB s)
    have hR1 := hR.of (fb_R g2)
    have hE1 := hE.of g2 (fun _ => rfl)
    obtain ⟨ν2, g5, g6, g7, g8, g9, g10⟩ := unpack_r N (by omega) hT6 g4 hEs.1
    have hR2 := hR1.of (un_R g6)
    have hE2 := hE1.of g6 (fun _ => rfl)
    have g30 : ν2.1 10 0 30 = _ := (g6.1 10 0 30 rfl).trans g3.1
    have hG2 := hG.tr ((fb_R g2).tr (un_R g6))
    have hF1 := hF.tr (wk_C e2)
    unfold f_X2_judged_9_lp f_X2_judged_9 f_X10_judge_2_lp f_X10_judge_2 f_X10_judge_54
    rw [hC.2.2.1, hR.2.2.1, if_neg (fun z => by have := (nI_leI (by omega) (by omega)).mp z; omega), if_neg (fun z => by have := (nI_leI (by omega) (by omega)).mp z; omega), e1, bd_some, g1, bd_some, gd_nI (by omega) (by omega), (hE1 s (by omega)).2, packed_r N (by omega) hT6 hEs.1 hR1.2.1, bd_some, g5, bd_some, purseOf_r N hR2 hs, bd_some, pia_r N hR2 hs, bd_some, g8, g9, g10, g30, nI_1]
    have hpay := pay_100 (pu := a 5 s) (bo := a 6 s + 10 * a 7 s) (C := bc (a 1) T (D s)) (P := bc (a 2) T (D s)) (by omega)
    unfold pay at hpay
    by_cases c1 : bc (a 1) T (D s) ≤ a 5 s
    · rw [if_neg (show ¬ nI (a 5 s) < nI (bc (a 1) T (D s)) from fun z => by have := (nI_ltI (by omega) (by omega)).mp z; omega)]
      by_cases c2 : bc (a 2) T (D s) ≤ a 6 s + 10 * a 7 s
      · simp only [if_pos (hpay.mpr ⟨c1, c2⟩)]
        rw [if_pos ((nI_leI (by omega) (by omega)).mpr c2)]
        by_cases c3 : bw (cwt (wf tx a T (a 1) (a 2) s)) T (B s) ≤ bw (cwt (wf tx a T (a 1) (a 2) s)) T (D s)
        · simp only [if_pos c3]
          rw [if_pos ((nI_leI (by omega) (by omega)).mpr c3), if_pos trivial]
          exact jg_lp N hN hB n m (s + 1) μ1 ν2 (by omega) (by omega) (hC.of (wk_C e2)) (hT.of e2 (fun _ => rfl) (fun _ => rfl)) (hD.of e2 (fun _ => rfl)) hR2 hE2 hF1 hG2
        · simp only [if_neg c3]
          rw [if_neg (show ¬ nI (bw (cwt (wf tx a T (a 1) (a 2) s)) T (B s)) ≤ nI (bw (cwt (wf tx a T (a 1) (a 2) s)) T (D s)) from fun z => c3 ((nI_leI (by omega) (by omega)).mp z)), if_neg (show ¬ (20 : Int32) = 0 by decide)]
          exact ⟨_, μ1, ν2, rfl, rfl, hF1, hG2⟩
      · simp only [if_neg (fun q => c2 (hpay.mp q).2)]
        rw [if_neg (show ¬ nI (bc (a 2) T (D s)) ≤ nI (a 6 s + 10 * a 7 s) from fun z => c2 ((nI_leI (by omega) (by omega)).mp z)), if_neg (show ¬ (10 : Int32) = 0 by decide)]
        exact ⟨_, μ1, ν2, rfl, rfl, hF1, hG2⟩
    · simp only [if_neg (fun q => c1 (hpay.mp q).1)]
      rw [if_pos ((nI_ltI (by omega) (by omega)).mpr (by omega)), if_neg (show ¬ (10 : Int32) = 0 by decide)]
      exact ⟨_, μ1, ν2, rfl, rfl, hF1, hG2⟩
theorem judge_q (N : Nat) (hN : 5000 ≤ N) {T S : Nat} {a : Nat → Nat → Nat} {W : Nat} {tx : Nat → tx_T} {D : Nat → Nat} {μ ν : am_M} (hC : Cv μ T S a W tx) (hD : TL 99 μ T D) (hR : Rv ν T S a W tx) (hE : TL 172 ν T D) : ∃ r μ' ν', f_X9_judge N μ = some (r, μ') ∧ fr p_C μ μ' ∧ f_X10_judge N ν = some (r, ν') ∧ fr p_R ν ν' := by
  have hS5 := hC.1.2.1
  obtain ⟨B, hB⟩ := CB_ex a tx T (a 1) (a 2)
  unfold f_X9_judge f_X9_judge_0 f_X2_judged f_X2_judged_0 f_X10_judge f_X10_judge_0
  obtain ⟨μ1, e1, e2, e3⟩ := recall_C N (by omega) hC
  rw [e1, bd_some, li_0]
  obtain ⟨r, μ', ν', g1, g2, g3, g4⟩ := jg_lp N hN (D := D) hB S N 0 μ1 ν (by omega) (by omega) (hC.of (rc_C e2)) e3 (hD.of e2 (fun _ => rfl)) hR hE (rc_C e2) fr.rf
  rw [g1, bd_some, g2]
  exact ⟨r, μ', ν', rfl, g3, rfl, g4⟩
