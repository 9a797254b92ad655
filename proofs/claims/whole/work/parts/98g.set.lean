/-! set -/
theorem leastPointsOf_c (N : Nat) {t : Nat} (ht : t < 6) (μ : am_M) : f_X2_leastPointsOf N (nI t) μ = some (μ.1 100 0 t, μ) := by
  unfold f_X2_leastPointsOf f_X2_leastPointsOf_0
  rw [w_cls, bd_some, gI, if_pos (by rw [li_0, li_5]; exact ⟨nI_pos' (by omega), (nI_leI (by omega) (by omega)).mpr (by omega)⟩), gd_nI (by omega) (by omega)]
theorem st_lp (N : Nat) (hN : 130 ≤ N) {T S W : Nat} {tx : Nat → tx_T} {v : Int32} {pp : Nat → Nat} (hpp : ∀ i, pp i ≤ 99) {μ0 ν0 : am_M} : ∀ (n m t : Nat) (a : Nat → Nat → Nat) (μ ν : am_M) (d u : Nat) (E : hE), t + n = T → n + 1 ≤ m → Cv μ T S a W tx → Rv ν T S a W tx → HC μ d u E → HQ ν d u E → HV T S d u E → μ.1 6 0 6 = v → (∀ i, i < T → μ.1 100 0 i = nI (pp i)) → (∀ i, i < T → ν.1 200 0 i = nI (pp i)) → fr p_hc μ0 μ → fr p_hq ν0 ν →
    ∃ μ' ν' a' d' u' E', f_X9_set_22_lp N m (nI t) μ = some (v, μ') ∧ f_X10_set_21_lp N m v (nI t) ν = some (v, ν') ∧ Cv μ' T S a' W tx ∧ Rv ν' T S a' W tx ∧ HC μ' d' u' E' ∧ HQ ν' d' u' E' ∧ HV T S d' u' E' ∧ fr p_hc μ0 μ' ∧ fr p_hq ν0 ν'
  | n, 0, t, a, μ, ν, d, u, E, h1, h2, hC, hR, g1, g2, g3, k1, k2, k3, hF, hG => by omega
  | 0, m + 1, t, a, μ, ν, d, u, E, h1, h2, hC, hR, g1, g2, g3, k1, k2, k3, hF, hG => by
    have hT := hC.1.1
    unfold f_X9_set_22_lp f_X9_set_22 f_X10_set_21_lp f_X10_set_21
    rw [hC.2.1, hR.2.1, if_pos ((nI_leI (by omega) (by omega)).mpr (by omega)), if_pos ((nI_leI (by omega) (by omega)).mpr (by omega)), k1]
    exact ⟨μ, ν, a, d, u, E, rfl, rfl, hC, hR, g1, g2, g3, hF, hG⟩
  | n + 1, m + 1, t, a, μ, ν, d, u, E, h1, h2, hC, hR, g1, g2, g3, k1, k2, k3, hF, hG => by
    have hT := hC.1.1
    have hV : VE T S 2 t (pp t) := by unfold VE; have := hpp t; omega
    obtain ⟨r, μ', ν', d', u', E', e1, e2, e3, e4, e5, e6, e7, e8, e9⟩ := change_2 N hN hC hR g1 g2 g3 hV
    have hpl : pl 2 t = 12 + t := rfl
    rw [hpl] at e2
    unfold f_X9_set_22_lp f_X9_set_22 f_X10_set_21_lp f_X10_set_21
    rw [hC.2.1, hR.2.1, if_neg (fun z => by have := (nI_leI (by omega) (by omega)).mp z; omega), if_neg (fun z => by have := (nI_leI (by omega) (by omega)).mp z; omega), leastPointsOf_c N (by omega), bd_some, gd_nI (by omega) (by omega), k2 t (by omega), k3 t (by omega), li_2, e1, bd_some, li_12, nI_add, e2, bd_some, nI_1]
    exact st_lp N hN hpp n m (t + 1) _ μ' ν' d' u' E' (by omega) (by omega) e5 e6 e7 e8 e9 ((e3.1 6 0 6 rfl).trans k1) (fun i hi => (e3.1 100 0 i rfl).trans (k2 i hi)) (fun i hi => (e4.1 200 0 i rfl).trans (k3 i hi)) (hF.tr e3) (hG.tr e4)
theorem set_ag (N : Nat) (hN : 5000 ≤ N) (x : Int32) : AG (f_X9_set N x) (f_X10_set N x) := by
  intro μ ν h
  have h0 := h
  obtain ⟨⟨T, S, a, W, tx, d, u, E, D, h1, h2, h3, h4, h5, h6, h7, h8⟩, hB, hD⟩ := h
  have hT6 := h1.1.1
  unfold f_X9_set f_X9_set_0 f_X10_set f_X10_set_0
  rw [w_cls, areRounds_r, bd_some, bd_some]
  simp only [gI]
  by_cases c1 : 1 ≤ x ∧ x ≤ 60
  · rw [if_pos c1, if_pos c1]
    obtain ⟨L, hL1, hL, rfl⟩ := rd_ex (M := 60) (K := 60) (by decide) c1
    obtain ⟨μ1, ν1, p, B, md, ls, lr, pp, e1, e2, e3, e4, e5, e6, e7, e8, e9, e10, e11, e12, e13⟩ := rounds_2 N hN hL1 hL h1 h2
    obtain ⟨r1, r2, r3, r4, r5, r6, r7⟩ := e5
    have hH : HC μ1 d u E := h3.ag (e3.nt (fun k i q z => by
      simp only [p_C, p_h, Bool.or_eq_true, Bool.and_eq_true, beq_iff_eq, bne_iff_ne] at q z
      omega))
    have hQ : HQ ν1 d u E := h4.ag (e4.nt (fun k i q z => by
      simp only [p_RR, p_R, p_16, p_hr, Bool.or_eq_true, Bool.and_eq_true, beq_iff_eq] at q z
      omega))
    obtain ⟨μ', ν', a', d', u', E', g1, g2, g3, g4, g5, g6, g7, g8, g9⟩ := st_lp N (by omega) e13 (μ0 := μ1) (ν0 := ν1) T N 0 a μ1 ν1 d u E (by omega) (by omega) r1 e6 hH hQ h5 (r5.trans e9.symm) r7 e12 fr.rf fr.rf
    rw [e1, e2, bd_some, bd_some, am_nme, li_0, g1, g2]
    refine ⟨_, μ', ν', rfl, rfl, ⟨⟨T, S, a', W, tx, d', u', E', D, g3, g4, g5, g6, g7, h6.ag (fun s => (g8.1 99 0 s rfl).trans (e3.1 99 0 s rfl)), h7.ag (fun s => (g9.1 172 0 s rfl).trans (e4.1 172 0 s rfl)), h8⟩, hB.ag ((g8.1 3 0 1 rfl).trans (e3.1 3 0 1 rfl)) (fun j => (g8.1 48 0 j rfl).trans (e3.1 48 0 j rfl)) ((g9.1 10 0 14 rfl).trans (e4.1 10 0 14 rfl)) (fun j => (g9.1 173 0 j rfl).trans (e4.1 173 0 j rfl)), hD.ag (fun k r i q => (g8.nt ?_ k r i q).trans (e3.nt ?_ k r i q)) (fun r i => by rw [g8.2, e3.2]) (fun k r i q => (g9.nt ?_ k r i q).trans (e4.nt ?_ k r i q)) (fun i => by rw [g9.2, e4.2])⟩, (e3.cO C_cO).tr (g8.cO hc_cO), (e4.rO RR_rO).tr (g9.rO hq_rO)⟩
    · intro k i q z
      simp only [p_hc, p_h, qD, Bool.or_eq_true, Bool.and_eq_true, beq_iff_eq] at q z
      omega
    · intro k i q z
      simp only [p_C, qD, Bool.or_eq_true, Bool.and_eq_true, beq_iff_eq, bne_iff_ne] at q z
      omega
    · intro k i q z
      simp only [p_hq, p_hr, rD, Bool.or_eq_true, Bool.and_eq_true, beq_iff_eq] at q z
      omega
    · intro k i q z
      simp only [p_RR, p_R, p_16, rD, Bool.or_eq_true, Bool.and_eq_true, beq_iff_eq] at q z
      omega
  · rw [if_neg c1, if_neg c1]
    exact ⟨_, μ, ν, rfl, rfl, h0, cO.rf, rO.rf⟩
