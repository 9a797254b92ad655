/-! black -/
def MX (py : Nat → Prop) (v : Nat → Nat) (X : Nat → Prop) (M : Nat) : Prop := (∀ z, X z → py z → v z ≤ M) ∧ (M = 0 ∨ ∃ z, X z ∧ py z ∧ v z = M)
theorem MX_of {w : Nat → Nat → Nat} {c p : Nat → Nat} {T : Nat} {py : Nat → Prop} {b M : Nat} (h : Bst w c p T py (fun _ => True) (some b)) (hM : MX py (bw w T) (fun z => z < 4 ^ T) M) : M = bw w T b := by
  obtain ⟨-, a2, a3, a4⟩ := h
  obtain ⟨m1, m2⟩ := hM
  have h1 := m1 b a2 a3
  rcases m2 with m2 | ⟨z, z1, z2, z3⟩
  · omega
  · have := (a4 z trivial z1 z2).1
    unfold beats at this
    omega
theorem MX_up {py : Nat → Prop} {v : Nat → Nat} {b M : Nat} (h : MX py v (fun z => z < b) M) (M' : Nat) (h1 : ¬ py b → M' = M) (h2 : py b → (v b ≤ M → M' = M) ∧ (M < v b → M' = v b)) : MX py v (fun z => z < b + 1) M' := by
  obtain ⟨m1, m2⟩ := h
  by_cases c : py b
  · obtain ⟨h2a, h2b⟩ := h2 c
    by_cases d : v b ≤ M
    · rw [h2a d]
      refine ⟨fun z hz hp => ?_, ?_⟩
      · by_cases e : z = b
        · subst e; exact d
        · exact m1 z (by omega) hp
      · rcases m2 with m2 | ⟨z, z1, z2, z3⟩
        · exact Or.inl m2
        · exact Or.inr ⟨z, by omega, z2, z3⟩
    · rw [h2b (by omega)]
      refine ⟨fun z hz hp => ?_, Or.inr ⟨b, by omega, c, rfl⟩⟩
      by_cases e : z = b
      · subst e; exact Nat.le_refl _
      · have := m1 z (by omega) hp; omega
  · rw [h1 c]
    refine ⟨fun z hz hp => ?_, ?_⟩
    · by_cases e : z = b
      · subst e; exact absurd hp c
      · exact m1 z (by omega) hp
    · rcases m2 with m2 | ⟨z, z1, z2, z3⟩
      · exact Or.inl m2
      · exact Or.inr ⟨z, by omega, z2, z3⟩
theorem bl_lp (N : Nat) (hN : 130 ≤ N) {T S : Nat} {a : Nat → Nat → Nat} {W : Nat} {tx : Nat → tx_T} {s pr : Nat} (hs : s < S) (hpr : pr ≤ 200) {w : Nat → Nat → Nat} (hw : ∀ t m, m ≤ 3 → w t m ≤ 2997) {μ0 : am_M} :
    ∀ (n m b M : Nat) (μ : am_M), b + n = 4 ^ T → n + 1 ≤ m → Rv μ T S a W tx → RC μ T w (a 1) (a 2) → fr p_fc μ0 μ → MX (fun b => pay (a 5 s) (a 6 s + 10 * a 7 s) pr (bc (a 1) T b) (bc (a 2) T b)) (bw w T) (fun z => z < b) M → M ≤ 17982 →
      ∃ μ' M', f_X10_black_66_lp N m (nI s) (nI pr) (nI M) (nI b) μ = some (nI M', μ') ∧ fr p_fc μ0 μ' ∧ MX (fun b => pay (a 5 s) (a 6 s + 10 * a 7 s) pr (bc (a 1) T b) (bc (a 2) T b)) (bw w T) (fun z => z < 4 ^ T) M'
  | n, 0, b, M, μ, h1, h2, hR, hC, h4, h6, h7 => by omega
  | 0, m + 1, b, M, μ, h1, h2, hR, hC, h4, h6, h7 => by
    have hT6 := hR.1.1
    have h4T : 4 ^ T ≤ 4 ^ 6 := Nat.pow_le_pow_right (by decide) hT6
    have h46 : (4 : Nat) ^ 6 = 4096 := by decide
    unfold f_X10_black_66_lp f_X10_black_66
    rw [baskets_r N hT6 hR.2.1, bd_some, if_pos ((nI_leI (by omega) (by omega)).mpr (by omega))]
    have : b = 4 ^ T := by omega
    subst this
    exact ⟨μ, M, rfl, h4, h6⟩
  | n + 1, m + 1, b, M, μ, h1, h2, hR, hC, h4, h6, h7 => by
    have hT6 := hR.1.1
    have hb := hR.1.2.2.2.1
    have hbs := hb s
    have h4T : 4 ^ T ≤ 4 ^ 6 := Nat.pow_le_pow_right (by decide) hT6
    have h46 : (4 : Nat) ^ 6 = 4096 := by decide
    have WB : bw w T b ≤ 17982 := Nat.le_trans (bw_le _ 2997 hw T b) (by omega)
    have CB_ : bc (a 1) T b ≤ 1782 := Nat.le_trans (bc_le _ 99 (fun t => (hb t).2.1) T b) (by omega)
    have PB : bc (a 2) T b ≤ 1782 := Nat.le_trans (bc_le _ 99 (fun t => (hb t).2.2.1) T b) (by omega)
    obtain ⟨μ1, e1, e2, e3, e4, e5, e6⟩ := unpack_r N hN hT6 hC (show b < 4 ^ T by omega)
    have hR1 := hR.of (un_R e2)
    have hC1 : RC μ1 T w (a 1) (a 2) := hC.of e2 rfl (fun _ => rfl) rfl (fun _ => rfl)
    have hF1 := h4.tr (un_fc e2)
    have hm : pr * (bc (a 2) T b - (a 6 s + 10 * a 7 s)) ≤ 200 * 1782 := Nat.mul_le_mul hpr (by omega)
    have hm2 : (bc (a 2) T b - (a 6 s + 10 * a 7 s)) * pr ≤ 1782 * 200 := Nat.mul_le_mul (by omega) hpr
    have go : ∀ ovr, ovr = bc (a 2) T b - (a 6 s + 10 * a 7 s) → ∃ μ' M', f_X10_black_107 N (f_X10_black_66_lp N m) (nI s) (nI pr) (nI M) (nI b) (nI ovr) μ1 = some (nI M', μ') ∧ fr p_fc μ0 μ' ∧ MX (fun b => pay (a 5 s) (a 6 s + 10 * a 7 s) pr (bc (a 1) T b) (bc (a 2) T b)) (bw w T) (fun z => z < 4 ^ T) M' := by
      intro ovr ho
      subst ho
      have ec := Nat.mul_comm (bc (a 2) T b - (a 6 s + 10 * a 7 s)) pr
      unfold f_X10_black_107 f_X10_black_143 f_X10_black_145
      rw [purseOf_r N hR1 hs, bd_some, e5, e4, pk_mul, nI_add, nI_1, ec]
      by_cases c1 : a 5 s < bc (a 1) T b + pr * (bc (a 2) T b - (a 6 s + 10 * a 7 s))
      · rw [if_pos ((nI_ltI (by omega) (by omega)).mpr c1)]
        exact bl_lp N hN hs hpr hw n m (b + 1) M μ1 (by omega) (by omega) hR1 hC1 hF1 (MX_up h6 M (fun _ => rfl) (fun q => by unfold pay at q; omega)) h7
      · rw [if_neg (fun z => c1 ((nI_ltI (by omega) (by omega)).mp z))]
        have hpy : pay (a 5 s) (a 6 s + 10 * a 7 s) pr (bc (a 1) T b) (bc (a 2) T b) := by unfold pay; omega
        by_cases c2 : bw w T b ≤ M
        · rw [if_pos ((nI_leI (by omega) (by omega)).mpr c2)]
          exact bl_lp N hN hs hpr hw n m (b + 1) M μ1 (by omega) (by omega) hR1 hC1 hF1 (MX_up h6 M (fun _ => rfl) (fun _ => ⟨fun _ => rfl, fun q => by omega⟩)) h7
        · rw [if_neg (fun z => c2 ((nI_leI (by omega) (by omega)).mp z))]
          exact bl_lp N hN hs hpr hw n m (b + 1) (bw w T b) μ1 (by omega) (by omega) hR1 hC1 hF1 (MX_up h6 _ (fun q => absurd hpy q) (fun _ => ⟨fun q => absurd q c2, fun _ => rfl⟩)) WB
    unfold f_X10_black_66_lp f_X10_black_66
    rw [baskets_r N hT6 hR.2.1, bd_some, if_neg (fun z => by have := (nI_leI (by omega) (by omega)).mp z; omega), e1, bd_some, pia_r N hR1 hs, bd_some, e6]
    by_cases d : bc (a 2) T b ≤ a 6 s + 10 * a 7 s
    · rw [if_pos ((nI_leI (by omega) (by omega)).mpr d), li_0]
      exact go 0 (by omega)
    · rw [if_neg (fun z => d ((nI_leI (by omega) (by omega)).mp z)), pia_r N hR1 hs, bd_some, pk_sub (by omega)]
      exact go _ rfl
theorem black_q (N : Nat) (hN : 5000 ≤ N) {T S : Nat} {a : Nat → Nat → Nat} {W : Nat} {tx : Nat → tx_T} (x y z : Int32) : Q2 T S a W tx (f_X9_black N x y z) (f_X10_black N x y z) := by
  intro μ ν hC hR
  have hT6 := hC.1.1
  have hS5 := hC.1.2.1
  have hb := hC.1.2.2.2.1
  have h4T : 4 ^ T ≤ 4 ^ 6 := Nat.pow_le_pow_right (by decide) hT6
  have h46 : (4 : Nat) ^ 6 = 4096 := by decide
  unfold f_X9_black f_X9_black_0 f_X10_black f_X10_black_0 f_X0_byStealth f_X0_byStealth_0
  simp only [hasSort_c N hC.2.2.1, isSort_r N hR.2.2.1, bd_some, gI]
  by_cases c1 : IT S x
  · rw [if_pos c1, if_pos c1]
    obtain ⟨s, hs, rfl⟩ := IT_ex (by omega) c1
    simp only [w_cls, isRate_r, bd_some, gI]
    by_cases c0 : y < 0
    · rw [if_pos c0, if_neg (fun q => absurd (Int32.lt_of_lt_of_le c0 (show (0 : Int32) ≤ 100 by decide)) (Int32.not_lt.mpr q.1))]
      exact ⟨_, _, _, rfl, fr.rf, rfl, fr.rf⟩
    · rw [if_neg c0]
      obtain ⟨j, hj, rfl⟩ := nI_of c0
      rw [li_100, pk_div hj (by decide) (by decide), rem_nI hj (by decide) (by decide)]
      have e2 : (nI 100 ≤ nI j ∧ nI j ≤ 9999) ↔ (1 ≤ nI (j / 100) ∧ nI (j / 100) ≤ 99) := by
        rw [li_9999, li_1, li_99, nI_leI (by omega) hj, nI_leI hj (by omega), nI_leI (by omega) (by omega), nI_leI (by omega) (by omega)]
        omega
      by_cases c2 : nI 100 ≤ nI j ∧ nI j ≤ 9999
      · rw [if_pos c2, if_pos (e2.mp c2)]
        simp only [w_ref N z 0 (nI 100) 0 100 (by decide) (by decide), bd_some, gI]
        by_cases c3 : 0 ≤ z ∧ z ≤ nI 100
        · rw [if_pos c3, if_pos c3]
          have hj2 : j ≤ 9999 := by rw [li_9999] at c2; exact (nI_leI hj (by omega)).mp c2.2
          obtain ⟨q, hq, rfl⟩ : ∃ q, q ≤ 100 ∧ z = nI q := nI_of2 (M := nI 100) (n := 100) (by decide) (Int32.not_lt.mpr c3.1) c3.2
          have hm : j % 100 * q ≤ 99 * 100 := Nat.mul_le_mul (by omega) hq
          have ep : nI (j / 100) + (nI (j % 100) * nI q + 99) / nI 100 = nI (j / 100 + (j % 100 * q + 99) / 100) := by
            rw [pk_mul, li_99, nI_add, pk_div (by omega) (by decide) (by decide), nI_add]
          obtain ⟨pr, hpr, hprl⟩ : ∃ pr, pr = j / 100 + (j % 100 * q + 99) / 100 ∧ pr ≤ 200 := ⟨_, rfl, by omega⟩
          rw [← hpr] at ep
          obtain ⟨μ1, e1, e2, e3⟩ := recall_C N (by omega) hC
          have hC1 := hC.of (rc_C e2)
          obtain ⟨μ2, e4, e5, e6⟩ := weigh_c N (by omega) hC1 e3 hs
          have hF := (rc_ex e2).tr (wk_ex (wg_wk e5))
          have hC2 := hC.of (ex_C hF)
          have hwf := wf_le tx a T (a 1) (a 2) s
          have hwb : ∀ t m, m ≤ 3 → cwt (wf tx a T (a 1) (a 2) s) t m ≤ 2997 := fun t m hm => Nat.le_trans (cwt_le hwf t m) (by omega)
          have hbs := hb s
          obtain ⟨μ3, b1, g1, g2, g3, -, -, -, g7⟩ := search_c N (by omega) (pu := a 5 s) (bo := a 6 s + 10 * a 7 s) (pr := pr) (w := cwt (wf tx a T (a 1) (a 2) s)) (c := a 1) (p := a 2) ⟨hT6, hwb, fun t m hm => cwt_mono _ t m hm, fun i => by have := (hb i).2.1; omega, fun t => (hb t).2.2.1, by omega, by omega, hprl⟩ hC2.2.1 (e3.of e5 (fun _ => rfl) (fun _ => rfl)) e6
          obtain ⟨ν1, r1, r2, r3⟩ := lay_r N (by omega) hR hs
          have hR1 := hR.of (la_R r2)
          have hRC : RC ν1 T (cwt (wf tx a T (a 1) (a 2) s)) (a 1) (a 2) := ⟨hR1.2.1, r3, a 1, 100, hR1.2.2.2.2.2.2.2, by decide, fun t ht => ⟨(hb t).2.1, (hR1.2.2.2.2.1 t ht).2.1, by omega, (hR1.2.2.2.2.1 t ht).2.2.1⟩⟩
          obtain ⟨ν2, M, q1, q2, q3⟩ := bl_lp N (by omega) hs hprl hwb (μ0 := ν1) (4 ^ T) N 0 0 ν1 (by omega) (by omega) hR1 hRC fr.rf ⟨fun z hz _ => by omega, Or.inl rfl⟩ (by omega)
          have hM := MX_of g7 q3
          subst hM
          rw [ep, e1, bd_some, e4, bd_some]
          simp only [am_nme]
          rw [li_5, at_cls N (by omega) (by omega), bd_some, pia_cls N (by omega), bd_some, hC2.2.2.2.2.2.1 5 s (by omega) (by omega) hs, hC2.2.2.2.2.2.1 6 s (by omega) (by omega) hs, hC2.2.2.2.2.2.1 7 s (by omega) (by omega) hs, pk_mul, nI_add, g1, bd_some, bd_some, g3.1, r1, bd_some, li_0, q1]
          exact ⟨_, _, _, rfl, ex_C (hF.tr (wk_ex (k5_wk g2))), rfl, (la_R r2).tr (fc_R q2)⟩
        · rw [if_neg c3, if_neg c3]; exact ⟨_, _, _, rfl, fr.rf, rfl, fr.rf⟩
      · rw [if_neg c2, if_neg (fun q => c2 (e2.mpr q))]; exact ⟨_, _, _, rfl, fr.rf, rfl, fr.rf⟩
  · rw [if_neg c1, if_neg c1]; exact ⟨_, _, _, rfl, fr.rf, rfl, fr.rf⟩
