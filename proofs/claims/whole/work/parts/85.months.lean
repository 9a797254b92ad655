/-! months -/
def p_7 (k i : Nat) : Bool := k == 7 && (i == 3 || i == 4)
theorem k7_C {μ μ' : am_M} (h : fr p_7 μ μ') : fr p_C μ μ' := h.mono' (fun k i q => by simp only [p_7, p_C, Bool.or_eq_true, Bool.and_eq_true, beq_iff_eq, bne_iff_ne] at q ⊢; omega)
theorem mo_lp (N : Nat) (hN : 5000 ≤ N) {T S : Nat} {a : Nat → Nat → Nat} {W : Nat} {tx : Nat → tx_T} {s M K : Nat} (hs : s < S) (hM : M ≤ 12) (hM1 : 1 ≤ M) (hK : K ≤ 99) {z : Int32} {μ0 ν0 : am_M} :
    ∀ (n m i L V P : Nat) (μ ν : am_M), i + n = M → n + 1 ≤ m → L ≤ 228 → Cv μ T S a W tx → TC μ T (a 1) (a 2) → WM μ T (cwt (wf tx a T (a 1) (a 2) s)) → μ.1 7 0 3 = nI V → μ.1 7 0 4 = nI P → Rv ν T S a W tx → fr p_C μ0 μ → fr p_R ν0 ν →
      ∃ μ' ν' V' P', f_X0_live_31_lp N m (nI s) (nI M) (nI K) (nI L) (nI i) μ = some ((), μ') ∧ μ'.1 7 0 3 = nI V' ∧ μ'.1 7 0 4 = nI P' ∧ f_X10_months_53_lp N m (nI s) (nI M) (nI K) z (nI V) (nI (if i < M then P + (L - min K L) else P + L)) (nI (if i < M then min K L else 0)) (nI i) ν = (if z = 0 then some (nI V', ν') else some (nI P', ν')) ∧ fr p_C μ0 μ' ∧ fr p_R ν0 ν'
  | n, 0, i, L, V, P, μ, ν, h1, h2, hL, hC, hT, hw, h3, h4, hR, hF, hG => by omega
  | 0, m + 1, i, L, V, P, μ, ν, h1, h2, hL, hC, hT, hw, h3, h4, hR, hF, hG => by
    unfold f_X0_live_31_lp f_X0_live_31 f_X10_months_53_lp f_X10_months_53
    rw [if_pos ((nI_leI (by omega) (by omega)).mpr (by omega)), if_pos ((nI_leI (by omega) (by omega)).mpr (by omega)), h4, nI_add, if_neg (show ¬ i < M by omega)]
    simp only [am_nme]
    have hFa : fr p_7 μ (am_ui μ 7 0 4 (nI (P + L))) := fr.rf.ui rfl
    exact ⟨_, ν, V, P + L, rfl, by rw [ui1, if_neg (by omega)]; exact h3, by rw [ui1, if_pos ⟨rfl, rfl, rfl⟩], rfl, hF.tr (k7_C hFa), hG⟩
  | n + 1, m + 1, i, L, V, P, μ, ν, h1, h2, hL, hC, hT, hw, h3, h4, hR, hF, hG => by
    have hT6 := hC.1.1
    have hS5 := hC.1.2.1
    have hb := hC.1.2.2.2.1
    have hbs := hb s
    have hk : min K L ≤ 99 ∧ min K L ≤ L := ⟨by omega, by omega⟩
    have ek : (if nI K < nI L then nI K else nI L) = nI (min K L) := by
      by_cases c : K < L
      · rw [if_pos ((nI_ltI (by omega) (by omega)).mpr c)]; congr 1; omega
      · rw [if_neg (fun q => c ((nI_ltI (by omega) (by omega)).mp q))]; congr 1; omega
    obtain ⟨k, hk0⟩ : ∃ k, k = min K L := ⟨_, rfl⟩
    rw [← hk0] at ek hk
    have hwf := wf_le tx a T (a 1) (a 2) s
    have hwb : ∀ t m, m ≤ 3 → cwt (wf tx a T (a 1) (a 2) s) t m ≤ 2997 := fun t m hm => Nat.le_trans (cwt_le hwf t m) (by omega)
    obtain ⟨bo, hbo⟩ : ∃ bo, bo = a 6 s + 10 * a 7 s + k := ⟨_, rfl⟩
    obtain ⟨μ1, b, g1, g2, g3, -, -, -, g7⟩ := search_c N (by omega) (pu := a 5 s) (bo := bo) (pr := 100) (w := cwt (wf tx a T (a 1) (a 2) s)) (c := a 1) (p := a 2) ⟨hT6, hwb, fun t m hm => cwt_mono _ t m hm, fun i => by have := (hb i).2.1; omega, fun t => (hb t).2.2.1, by omega, by omega, by omega⟩ hC.2.1 hT hw
    have hNB : NB (cwt (wf tx a T (a 1) (a 2) s)) (a 1) (a 2) T (a 5 s) bo b := Bst_congr g7 (fun _ _ => pay_100 (by omega)) (fun _ _ => Iff.rfl)
    obtain ⟨ν1, b', q1, q2, q3, q4, q5⟩ := findBest_r N hN hR hs (pu := a 5 s) (bo := bo) (by omega) (by omega)
    have := NB_uniq hNB q5
    subst this
    have hpb : bc (a 2) T b ≤ bo := hNB.2.2.1.2
    have e4 := hC.2.2.2.2.2.1 5 s (by omega) (by omega) hs
    have e6 := hC.2.2.2.2.2.1 6 s (by omega) (by omega) hs
    have e7 := hC.2.2.2.2.2.1 7 s (by omega) (by omega) hs
    have hF1 : fr p_C μ μ1 := wk_C (k5_wk g2)
    have m3 : μ1.1 7 0 3 = nI V := (g2.1 7 0 3 rfl).trans h3
    have m4 : μ1.1 7 0 4 = nI P := (g2.1 7 0 4 rfl).trans h4
    obtain ⟨μ2, r2⟩ : ∃ μ2, μ2 = am_ui (am_ui μ1 7 0 3 (nI (V + bw (cwt (wf tx a T (a 1) (a 2) s)) T b))) 7 0 4 (nI (P + (L - k))) := ⟨_, rfl⟩
    have hF2 : fr p_7 μ1 μ2 := by rw [r2]; exact (fr.rf.ui rfl).ui rfl
    have hcl : f_X0_live_31_lp N (m + 1) (nI s) (nI M) (nI K) (nI L) (nI i) μ = f_X0_live_31_lp N m (nI s) (nI M) (nI K) (nI (bo - bc (a 2) T b)) (nI (i + 1)) μ2 := by
      show f_X0_live_31 N (f_X0_live_31_lp N m) (nI s) (nI M) (nI K) (nI L) (nI i) μ = _
      unfold f_X0_live_31
      rw [if_neg (fun q => by have := (nI_leI (by omega) (by omega)).mp q; omega), ek]
      simp only [am_nme]
      rw [pia_cls N (by omega), bd_some, e6, e7, pk_mul, nI_add, nI_add, li_5, at_cls N (by omega) (by omega), bd_some, e4, ← hbo, li_100, g1, bd_some, m3, g3.1, nI_add, pk_sub hk.2, nI_1]
      have z1 : (am_ui μ1 7 0 3 (nI (V + bw (cwt (wf tx a T (a 1) (a 2) s)) T b))).1 7 0 4 = nI P := by rw [ui1, if_neg (by omega)]; exact m4
      rw [z1, nI_add, ← r2, hF2.1 5 0 11 rfl, g3.2.2.1, pk_sub hpb]
    have hrf : f_X10_months_53_lp N (m + 1) (nI s) (nI M) (nI K) z (nI V) (nI (if i < M then P + (L - min K L) else P + L)) (nI (if i < M then min K L else 0)) (nI i) ν = f_X10_months_53_lp N m (nI s) (nI M) (nI K) z (nI (V + bw (cwt (wf tx a T (a 1) (a 2) s)) T b)) (nI (if i + 1 < M then P + (L - k) + (bo - bc (a 2) T b - min K (bo - bc (a 2) T b)) else P + (L - k) + (bo - bc (a 2) T b))) (nI (if i + 1 < M then min K (bo - bc (a 2) T b) else 0)) (nI (i + 1)) ν1 := by
      show f_X10_months_53 N (f_X10_months_53_lp N m) (nI s) (nI M) (nI K) z (nI V) (nI (if i < M then P + (L - min K L) else P + L)) (nI (if i < M then min K L else 0)) (nI i) ν = _
      have hi : i < M := by omega
      rw [if_pos hi, if_pos hi, ← hk0]
      unfold f_X10_months_53 f_X10_months_125
      rw [if_neg (fun q => by have := (nI_leI (by omega) (by omega)).mp q; omega), pia_r N hR hs, bd_some, nI_add, ← hbo]
      simp only [am_nme]
      rw [purseOf_r N hR hs, bd_some, q1, bd_some, q3.1, q3.2.2.1, nI_add, pk_sub hpb, nI_1]
      by_cases c : i + 1 < M
      · rw [if_pos c, if_pos c, if_neg (fun q => by have := (nI_eq (by omega) (by omega)).mp q; omega)]
        by_cases d : K ≤ bo - bc (a 2) T b
        · rw [if_pos ((nI_leI (by omega) (by omega)).mpr d), pk_sub d, nI_add, Nat.min_eq_left d]
        · rw [if_neg (fun q => d ((nI_leI (by omega) (by omega)).mp q)), pk_sub (Nat.le_refl _), nI_add, Nat.min_eq_right (by omega)]
      · rw [if_neg c, if_neg c, if_pos (by rw [show i + 1 = M by omega]), li_0, pk_sub (Nat.zero_le _), nI_add, Nat.sub_zero]
    rw [hcl, hrf]
    exact mo_lp N hN hs hM hM1 hK n m (i + 1) _ _ _ μ2 ν1 (by omega) (by omega) (by omega) ((hC.of hF1).of (k7_C hF2)) ((hT.of g2 (fun _ => rfl) (fun _ => rfl)).of hF2 (fun _ => rfl) (fun _ => rfl)) ((hw.of g2 (fun _ => rfl) (fun _ => rfl)).of hF2 (fun _ => rfl) (fun _ => rfl)) (by rw [r2, ui1, if_neg (by omega), ui1, if_pos ⟨rfl, rfl, rfl⟩]) (by rw [r2, ui1, if_pos ⟨rfl, rfl, rfl⟩]) (hR.of (fb_R q2)) ((hF.tr hF1).tr (k7_C hF2)) (hG.tr (fb_R q2))
theorem months_q (N : Nat) (hN : 5000 ≤ N) {T S : Nat} {a : Nat → Nat → Nat} {W : Nat} {tx : Nat → tx_T} (x y z v : Int32) : Q2 T S a W tx (f_X9_months N x y z v) (f_X10_months N x y z v) := by
  intro μ ν hC hR
  have hS5 := hC.1.2.1
  unfold f_X9_months f_X9_months_0 f_X10_months f_X10_months_0
  simp only [hasSort_c N hC.2.2.1, isSort_r N hR.2.2.1, bd_some, gI]
  by_cases c1 : IT S x
  · rw [if_pos c1, if_pos c1]
    simp only [w_cls, w_ref N y 1 12 1 12 (by decide) (by decide), bd_some, gI]
    by_cases c2 : 1 ≤ y ∧ y ≤ 12
    · rw [if_pos c2, if_pos c2]
      simp only [two_ref, bd_some, gI]
      by_cases c3 : 0 ≤ z ∧ z ≤ 99
      · rw [if_pos c3, if_pos c3]
        simp only [w_ref N v 0 1 0 1 (by decide) (by decide), bd_some, gI]
        by_cases c4 : 0 ≤ v ∧ v ≤ 1
        · rw [if_pos c4, if_pos c4]
          obtain ⟨s, hs, rfl⟩ := IT_ex (by omega) c1
          obtain ⟨M, hM1, hM, rfl⟩ := rd_ex (K := 12) (by decide) c2
          obtain ⟨K, hK, rfl⟩ := nI_of2 (M := 99) (n := 99) (by decide) (Int32.not_lt.mpr c3.1) c3.2
          unfold f_X0_live f_X0_live_0
          obtain ⟨μ1, e1, e2, e3⟩ := recall_C N (by omega) hC
          have hC1 := hC.of (rc_C e2)
          obtain ⟨μ2, e4, e5, e6⟩ := weigh_c N (by omega) hC1 e3 hs
          have hF := (rc_ex e2).tr (wk_ex (wg_wk e5))
          have hC2 := hC.of (ex_C hF)
          obtain ⟨μ3, r3⟩ : ∃ μ3, μ3 = am_ui (am_ui μ2 7 0 3 0) 7 0 4 0 := ⟨_, rfl⟩
          have hF3 : fr p_7 μ2 μ3 := by rw [r3]; exact (fr.rf.ui rfl).ui rfl
          obtain ⟨μ', ν', V', P', q1, q2, q3, q4, q5, q6⟩ := mo_lp N hN (z := v) (M := M) (K := K) hs hM hM1 hK (μ0 := μ) (ν0 := ν) M N 0 0 0 0 μ3 ν (by omega) (by omega) (by omega) (hC2.of (k7_C hF3)) ((e3.of e5 (fun _ => rfl) (fun _ => rfl)).of hF3 (fun _ => rfl) (fun _ => rfl)) (e6.of hF3 (fun _ => rfl) (fun _ => rfl)) (by rw [r3]; simp [ui1]; rfl) (by rw [r3]; simp [ui1]; rfl) hR ((ex_C hF).tr (k7_C hF3)) fr.rf
          have q1' : f_X0_live_31_lp N N (nI s) (nI M) (nI K) 0 0 μ3 = _ := q1
          have hz : ∀ c : Prop, [Decidable c] → (nI (if c then 0 + (0 - min K 0) else 0 + 0) : Int32) = 0 := fun c _ => by by_cases h : c; rw [if_pos h]; simp; rfl; rw [if_neg h]; rfl
          have hz2 : ∀ c : Prop, [Decidable c] → (nI (if c then min K 0 else 0) : Int32) = 0 := fun c _ => by by_cases h : c; rw [if_pos h]; simp; rfl; rw [if_neg h]; rfl
          rw [hz, hz2] at q4
          have q4' : f_X10_months_53_lp N N (nI s) (nI M) (nI K) v 0 0 0 0 ν = _ := q4
          rw [e1, bd_some, e4, bd_some]
          simp only [am_nme]
          rw [← r3, q1', bd_some, q2, q3, q4']
          by_cases d : v = 0
          · rw [if_pos d, if_pos d]; exact ⟨_, _, _, rfl, q5, rfl, q6⟩
          · rw [if_neg d, if_neg d]; exact ⟨_, _, _, rfl, q5, rfl, q6⟩
        · rw [if_neg c4, if_neg c4]; exact ⟨_, _, _, rfl, fr.rf, rfl, fr.rf⟩
      · rw [if_neg c3, if_neg c3]; exact ⟨_, _, _, rfl, fr.rf, rfl, fr.rf⟩
    · rw [if_neg c2, if_neg c2]; exact ⟨_, _, _, rfl, fr.rf, rfl, fr.rf⟩
  · rw [if_neg c1, if_neg c1]; exact ⟨_, _, _, rfl, fr.rf, rfl, fr.rf⟩
