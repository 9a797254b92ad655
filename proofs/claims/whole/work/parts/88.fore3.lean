/-! foresight agrees -/
theorem ff_lp (N : Nat) {w : Nat → Nat → Nat} {c p : Nat → Nat} {T pu I pw : Nat} (hI : I ≤ 129) {μ ν : am_M} (h1 : ∀ i, i < 259 → RL1 114 μ w c p T pu (4 ^ T) i) (h2 : ∀ i, i < 1783 → RL1 204 ν w c p T pu (4 ^ T) i) : ∀ (n m i V : Nat), i + n = I + 1 → n + 1 ≤ m → V ≤ 35964 → ∃ r, f_X0_gainByForesight_40_lp N m (nI pw) (nI I) (nI V) (nI i) μ = some (r, μ) ∧ f_X10_foresight_192_lp N m (nI (2 * pw)) (nI V) (nI I) (nI i) ν = some (r, ν)
  | n, 0, i, V, e1, e2, e3 => by omega
  | 0, m + 1, i, V, e1, e2, e3 => by
    unfold f_X0_gainByForesight_40_lp f_X0_gainByForesight_40 f_X10_foresight_192_lp f_X10_foresight_192 f_X10_foresight_277
    rw [if_pos ((nI_ltI (by omega) (by omega)).mpr (by omega)), if_pos ((nI_ltI (by omega) (by omega)).mpr (by omega)), li_2, pk_mul]
    exact ⟨_, rfl, rfl⟩
  | n + 1, m + 1, i, V, e1, e2, e3 => by
    obtain ⟨A, a1, a2, a3⟩ := h1 i (by omega)
    obtain ⟨B, b1, b2, b3⟩ := h1 (2 * I - i) (by omega)
    obtain ⟨A', a1', a2', a3'⟩ := h2 i (by omega)
    obtain ⟨B', b1', b2', b3'⟩ := h2 (2 * I - i) (by omega)
    have q1 := MX_uniq a3 a3'
    have q2 := MX_uniq b3 b3'
    subst q1; subst q2
    unfold f_X0_gainByForesight_40_lp f_X0_gainByForesight_40 f_X10_foresight_192_lp f_X10_foresight_192 f_X10_foresight_251 f_X10_foresight_269
    rw [if_neg (fun z => by have := (nI_ltI (by omega) (by omega)).mp z; omega), if_neg (fun z => by have := (nI_ltI (by omega) (by omega)).mp z; omega), li_1783, if_neg (fun z => by have := (nI_leI (by omega) (by omega)).mp z; omega), li_2, pk_mul, pk_sub (by omega), gd_nI (by omega) (by omega), gd_nI (by omega) (by omega), a2, b2, nI_add]
    simp only [am_nme]
    rw [gd_nI (by omega) (by omega), if_neg (show ¬ nI 1783 ≤ nI (2 * I - i) from fun z => by have := (nI_leI (by omega) (by omega)).mp z; omega), gd_nI (by omega) (by omega), a2', b2', nI_add, nI_1]
    by_cases d : V < A + B
    · rw [if_pos ((nI_ltI (by omega) (by omega)).mpr d), if_neg (show ¬ nI (A + B) ≤ nI V from fun z => by have := (nI_leI (by omega) (by omega)).mp z; omega)]
      exact ff_lp N hI h1 h2 n m (i + 1) (A + B) (by omega) (by omega) (by omega)
    · rw [if_neg (fun z => d ((nI_ltI (by omega) (by omega)).mp z)), if_pos ((nI_leI (by omega) (by omega)).mpr (by omega))]
      exact ff_lp N hI h1 h2 n m (i + 1) V (by omega) (by omega) e3
theorem foresight_q (N : Nat) (hN : 5000 ≤ N) {T S : Nat} {a : Nat → Nat → Nat} {W : Nat} {tx : Nat → tx_T} (x : Int32) : Q2 T S a W tx (f_X9_foresight N x) (f_X10_foresight N x) := by
  intro μ ν hC hR
  have hT6 := hC.1.1
  have hS5 := hC.1.2.1
  have hb := hC.1.2.2.2.1
  have h4T : 4 ^ T ≤ 4 ^ 6 := Nat.pow_le_pow_right (by decide) hT6
  have h46 : (4 : Nat) ^ 6 = 4096 := by decide
  unfold f_X9_foresight f_X9_foresight_0 f_X10_foresight f_X10_foresight_0
  simp only [hasSort_c N hC.2.2.1, isSort_r N hR.2.2.1, bd_some, gI]
  by_cases c1 : IT S x
  · rw [if_pos c1, if_pos c1]
    obtain ⟨s, hs, rfl⟩ := IT_ex (by omega) c1
    have hbs := hb s
    have hwf := wf_le tx a T (a 1) (a 2) s
    have hwb : ∀ t m, m ≤ 3 → cwt (wf tx a T (a 1) (a 2) s) t m ≤ 2997 := fun t m hm => Nat.le_trans (cwt_le hwf t m) (by omega)
    obtain ⟨B, hB⟩ := CB_ex a tx T (a 1) (a 2)
    obtain ⟨μ1, e1, e2, e3⟩ := recall_C N (by omega) hC
    obtain ⟨μ2, μ3, e4, e5, e6, e7, e8⟩ := wc2_c N (by omega) (hC.of (rc_C e2)) (fun t => (hb t).2.1) (fun t => (hb t).2.2.1) e3 hs (hB s)
    have hF := (rc_C e2).tr (wk_C e6)
    have hC3 := hC.of hF
    obtain ⟨μ4, r1, r2, r3⟩ := reach_c N hN hT6 hwb (fun t => (hb t).2.1) (fun t => (hb t).2.2.1) (pu := a 5 s) (by omega) e8.1 e8.2.1 e8.2.2.1
    obtain ⟨ν1, g1, g2, g3, g4⟩ := bestOf2_r N hN hR hs (hB s)
    have hR1 := hR.of (fb_R g2)
    obtain ⟨ν2, k1, k2, k3⟩ := f26_lp N (x1 := nI s) (x3 := nI (2 * bw (cwt (wf tx a T (a 1) (a 2) s)) T (B s))) 1783 N 0 ν1 (by omega) (by omega) fr.rf (fun i hi => by omega)
    have hR2 := hR1.of (f4_R (k204_f4 k2))
    obtain ⟨ν3, l1, l2, l3⟩ := f53_lp N hN hs hwb (x3 := nI (2 * bw (cwt (wf tx a T (a 1) (a 2) s)) T (B s))) (μ0 := ν2) (4 ^ T) N 0 ν2 (by omega) (by omega) hR2 (g4.of k2 rfl (fun _ => rfl) rfl (fun _ => rfl)) fr.rf (RE_0 k3)
    have hR3 := hR2.of (f4_R l2)
    obtain ⟨ν4, v1, v2, v3⟩ := f118_lp N (w := cwt (wf tx a T (a 1) (a 2) s)) (c := a 1) (p := a 2) (T := T) (pu := a 5 s) (X := 4 ^ T) (x1 := nI s) (x3 := nI (2 * bw (cwt (wf tx a T (a 1) (a 2) s)) T (B s))) 1782 N 0 ν3 (by omega) (by omega) fr.rf (RE_all0 l3 (by omega)) (fun i hi hn => l3 i hn)
    have hR4 := hR3.of (f4_R (k204_f4 v2))
    obtain ⟨r, z1, z2⟩ := ff_lp N (I := a 6 s + 10 * a 7 s) (pw := bw (cwt (wf tx a T (a 1) (a 2) s)) T (B s)) (by omega) r3 v3 (a 6 s + 10 * a 7 s + 1) N 0 0 (by omega) (by omega) (by omega)
    have k1' : f_X10_foresight_26_lp N N (nI s) (nI (2 * bw (cwt (wf tx a T (a 1) (a 2) s)) T (B s))) 0 ν1 = _ := k1
    have l1' : f_X10_foresight_53_lp N N (nI s) (nI (2 * bw (cwt (wf tx a T (a 1) (a 2) s)) T (B s))) 0 ν2 = _ := l1
    have v1' : f_X10_foresight_118_lp N N (nI s) (nI (2 * bw (cwt (wf tx a T (a 1) (a 2) s)) T (B s))) 1 ν3 = _ := v1
    have z1' : f_X0_gainByForesight_40_lp N N (nI (bw (cwt (wf tx a T (a 1) (a 2) s)) T (B s))) (nI (a 6 s + 10 * a 7 s)) 0 0 μ4 = _ := z1
    have z2' : f_X10_foresight_192_lp N N (nI (2 * bw (cwt (wf tx a T (a 1) (a 2) s)) T (B s))) 0 (nI (a 6 s + 10 * a 7 s)) 0 ν4 = _ := z2
    have em : (if nI (a 6 s + 10 * a 7 s) < 129 then nI (a 6 s + 10 * a 7 s) else 129) = nI (a 6 s + 10 * a 7 s) := by
      by_cases d : a 6 s + 10 * a 7 s < 129
      · rw [if_pos (by rw [li_129]; exact (nI_ltI (by omega) (by omega)).mpr d)]
      · rw [if_neg (by rw [li_129]; exact fun z => d ((nI_ltI (by omega) (by omega)).mp z)), li_129]; congr 1; omega
    have hcl : f_X0_gainByForesight N (nI s) μ = some (r, μ4) := by
      unfold f_X0_gainByForesight f_X0_gainByForesight_0 f_X0_plainWorth f_X0_plainWorth_0
      rw [e1, bd_some, e4, bd_some, e5, bd_some, bd_some, e7.1, pia_cls N (by omega), bd_some, hC3.2.2.2.2.2.1 6 s (by omega) (by omega) hs, hC3.2.2.2.2.2.1 7 s (by omega) (by omega) hs, pk_mul, nI_add, em]
      simp only [am_nme]
      rw [li_5, at_cls N (by omega) (by omega), bd_some, hC3.2.2.2.2.2.1 5 s (by omega) (by omega) hs, r1, bd_some]
      exact z1'
    rw [hcl, bd_some, g1, bd_some, g3.1, li_2, pk_mul]
    simp only [am_nme]
    rw [k1', l1', v1', pia_r N hR4 hs, bd_some, z2']
    exact ⟨r, μ4, ν4, rfl, hF.tr (k114_C r2), rfl, (((fb_R g2).tr (f4_R (k204_f4 k2))).tr (f4_R l2)).tr (f4_R (k204_f4 v2))⟩
  · rw [if_neg c1, if_neg c1]; exact ⟨_, _, _, rfl, fr.rf, rfl, fr.rf⟩
