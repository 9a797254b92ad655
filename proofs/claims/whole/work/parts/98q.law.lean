/-! the law's loop answers 1 -/
set_option maxHeartbeats 4000000 in
set_option maxRecDepth 100000 in
theorem law_step (N : Nat) (hN : 5000 ≤ N) {L : Nat} {xs : Nat → Int32} {r : Int32 → am_M → Option (Int32 × am_M)} {i : Nat} (hL : L ≤ 3072) (h : i + 6 ≤ L) {μ : am_M} (hA : AL μ μ) : ∃ μ', AL μ' μ' ∧ f_L_law_18 L xs N r (nI i) μ = r (nI (i + 6)) μ' := by
  have g0 : ∀ {γ : Type} (k : Nat → Option γ), am_gd (nI i) L k = k i := fun k => gd_nI (by omega) (by omega)
  have g1 : ∀ {γ : Type} (k : Nat → Option γ), am_gd (nI i + 1) L k = k (i + 1) := fun k => by rw [nI_1]; exact gd_nI (by omega) (by omega)
  have g2 : ∀ {γ : Type} (k : Nat → Option γ), am_gd (nI i + 2) L k = k (i + 2) := fun k => by rw [li_2, nI_add]; exact gd_nI (by omega) (by omega)
  have g3 : ∀ {γ : Type} (k : Nat → Option γ), am_gd (nI i + 3) L k = k (i + 3) := fun k => by rw [li_3, nI_add]; exact gd_nI (by omega) (by omega)
  have g4 : ∀ {γ : Type} (k : Nat → Option γ), am_gd (nI i + 4) L k = k (i + 4) := fun k => by rw [li_4, nI_add]; exact gd_nI (by omega) (by omega)
  have g5 : ∀ {γ : Type} (k : Nat → Option γ), am_gd (nI i + 5) L k = k (i + 5) := fun k => by rw [li_5, nI_add]; exact gd_nI (by omega) (by omega)
  have fin : ∀ μ', f_L_law_1462 L xs N r (nI i) μ' = r (nI (i + 6)) μ' := fun μ' => by
    unfold f_L_law_1462
    rw [li_6, nI_add]
  have st : ∀ {f g : am_M → Option (Int32 × am_M)}, AG f g → ∃ μ', AL μ' μ' ∧ am_bd (f μ) (fun y μ1 => am_bd (g μ1) (fun z μ2 => if y = z then f_L_law_1462 L xs N r (nI i) μ2 else am_z 0 μ2)) = r (nI (i + 6)) μ' := fun hG => by
    obtain ⟨v, μ1, μ2, e1, e2, e3⟩ := hG.law hA
    rw [e1, bd_some, e2, bd_some, if_pos rfl, fin]
    exact ⟨μ2, e3, rfl⟩
  have sl : ∀ {f g : am_M → Option (Int64 × am_M)}, AG f g → ∃ μ', AL μ' μ' ∧ am_bd (f μ) (fun y μ1 => am_bd (g μ1) (fun z μ2 => if lg_cmp y z = 0 then f_L_law_1462 L xs N r (nI i) μ2 else am_z 0 μ2)) = r (nI (i + 6)) μ' := fun hG => by
    obtain ⟨v, μ1, μ2, e1, e2, e3⟩ := hG.law hA
    have ec : lg_cmp v v = 0 := by
      unfold lg_cmp
      rw [if_neg (Int64.lt_irrefl), if_pos rfl]
    rw [e1, bd_some, e2, bd_some, if_pos ec, fin]
    exact ⟨μ2, e3, rfl⟩
  unfold f_L_law_18
  rw [if_neg (show ¬ (Int32.ofNat L - 6 < nI i) from fun z => by
    have z' : nI L - nI 6 < nI i := z
    rw [pk_sub (by omega), nI_ltI (by omega) (by omega)] at z'
    omega), g0]
  by_cases c0 : xs i &&& 63 = 0
  · rw [if_pos c0]
    simp only [g1, g2, g3]
    exact st (thing_ag N _ _ _)
  rw [if_neg c0]
  by_cases c1 : xs i &&& 63 = 1
  · rw [if_pos c1]
    simp only [g1, g2, g3]
    exact st (things_ag N (by omega) _ _ _)
  rw [if_neg c1]
  by_cases c2 : xs i &&& 63 = 2
  · rw [if_pos c2]
    simp only [g1, g2, g3]
    exact st (AG.m2 (fun _ _ _ _ => mend_2 N (by omega) _ _ _))
  rw [if_neg c2]
  by_cases c3 : xs i &&& 63 = 3
  · rw [if_pos c3]
    simp only [g1, g2, g3]
    exact st (sort_ag N _ _ _)
  rw [if_neg c3]
  by_cases c4 : xs i &&& 63 = 4
  · rw [if_pos c4]
    simp only [g1, g2, g3]
    exact st (AG.m2 (fun _ _ _ _ => purse_2 N (by omega) _ _ _))
  rw [if_neg c4]
  by_cases c5 : xs i &&& 63 = 5
  · rw [if_pos c5]
    simp only [g1, g2]
    exact st (AG.q2 (fun _ _ _ _ _ => of_q N _ _))
  rw [if_neg c5]
  by_cases c6 : xs i &&& 63 = 6
  · rw [if_pos c6]
    simp only [g1, g2]
    exact st (feed_ag N (by omega) _ _)
  rw [if_neg c6]
  by_cases c7 : xs i &&& 63 = 7
  · rw [if_pos c7]
    exact st (want_ag N hN)
  rw [if_neg c7]
  by_cases c8 : xs i &&& 63 = 8
  · rw [if_pos c8]
    simp only [g1, g2]
    exact st (AG.q2 (fun _ _ _ _ _ => worth_q N hN _ _))
  rw [if_neg c8]
  by_cases c9 : xs i &&& 63 = 9
  · rw [if_pos c9]
    simp only [g1, g2]
    exact st (AG.q2 (fun _ _ _ _ _ => basket_q N hN _ _))
  rw [if_neg c9]
  by_cases c10 : xs i &&& 63 = 10
  · rw [if_pos c10]
    simp only [g1, g2]
    exact st (AG.q2 (fun _ _ _ _ _ => wanted_q N hN _ _))
  rw [if_neg c10]
  by_cases c11 : xs i &&& 63 = 11
  · rw [if_pos c11]
    simp only [g1, g2]
    exact st (AG.q2 (fun _ _ _ _ _ => led_q N hN _ _))
  rw [if_neg c11]
  by_cases c12 : xs i &&& 63 = 12
  · rw [if_pos c12]
    simp only [g1, g2]
    exact st (AG.q3 (fun _ _ _ _ _ => found_q N hN _ _))
  rw [if_neg c12]
  by_cases c13 : xs i &&& 63 = 13
  · rw [if_pos c13]
    simp only [g1]
    exact st (set_ag N hN _)
  rw [if_neg c13]
  by_cases c14 : xs i &&& 63 = 14
  · rw [if_pos c14]
    simp only [g1, g2]
    exact st (tell_ag N (by omega) _ _)
  rw [if_neg c14]
  by_cases c15 : xs i &&& 63 = 15
  · rw [if_pos c15]
    exact st (judge_ag N hN)
  rw [if_neg c15]
  by_cases c16 : xs i &&& 63 = 16
  · rw [if_pos c16]
    simp only [g1, g2, g3]
    exact st (AG.q2 (fun _ _ _ _ _ => changed_q N hN _ _ _))
  rw [if_neg c16]
  by_cases c17 : xs i &&& 63 = 17
  · rw [if_pos c17]
    exact st (AG.q2 (fun _ _ _ _ _ => free_q N hN))
  rw [if_neg c17]
  by_cases c18 : xs i &&& 63 = 18
  · rw [if_pos c18]
    simp only [g1, g2, g3]
    exact st (AG.q2 (fun _ _ _ _ _ => black_q N hN _ _ _))
  rw [if_neg c18]
  by_cases c19 : xs i &&& 63 = 19
  · rw [if_pos c19]
    simp only [g1, g2]
    exact st (AG.q3 (fun _ _ _ _ _ => beside_q N hN _ _))
  rw [if_neg c19]
  by_cases c20 : xs i &&& 63 = 20
  · rw [if_pos c20]
    simp only [g1]
    exact st (AG.q3 (fun _ _ _ _ _ => loses_q N hN _))
  rw [if_neg c20]
  by_cases c21 : xs i &&& 63 = 21
  · rw [if_pos c21]
    exact st (AG.q3 (fun _ _ _ _ _ => fewest_q N hN))
  rw [if_neg c21]
  by_cases c22 : xs i &&& 63 = 22
  · rw [if_pos c22]
    simp only [g1]
    exact st (AG.q2 (fun _ _ _ _ _ => least_q N hN _))
  rw [if_neg c22]
  by_cases c23 : xs i &&& 63 = 23
  · rw [if_pos c23]
    simp only [g1, g2, g3, g4]
    exact st (AG.q2 (fun _ _ _ _ _ => months_q N hN _ _ _ _))
  rw [if_neg c23]
  by_cases c24 : xs i &&& 63 = 24
  · rw [if_pos c24]
    simp only [g1]
    exact st (AG.q2 (fun _ _ _ _ _ => foresight_q N hN _))
  rw [if_neg c24]
  by_cases c25 : xs i &&& 63 = 25
  · rw [if_pos c25]
    simp only [g1]
    exact st (AG.q2 (fun _ _ _ _ _ => cheap_q N hN _))
  rw [if_neg c25]
  by_cases c26 : xs i &&& 63 = 26
  · rw [if_pos c26]
    simp only [g1]
    exact st (AG.q2 (fun _ _ _ _ _ => wrong_q N hN _))
  rw [if_neg c26]
  by_cases c27 : xs i &&& 63 = 27
  · rw [if_pos c27]
    exact st (undo_ag N)
  rw [if_neg c27]
  by_cases c28 : xs i &&& 63 = 28
  · rw [if_pos c28]
    exact st (redo_ag N)
  rw [if_neg c28]
  by_cases c29 : xs i &&& 63 = 29
  · rw [if_pos c29]
    simp only [g1]
    exact st (body_ag N _)
  rw [if_neg c29]
  by_cases c30 : xs i &&& 63 = 30
  · rw [if_pos c30]
    simp only [g1, g2, g3]
    exact st (act_ag N (by omega) _ _ _)
  rw [if_neg c30]
  by_cases c31 : xs i &&& 63 = 31
  · rw [if_pos c31]
    simp only [g1]
    exact st (trace_ag N _)
  rw [if_neg c31]
  by_cases c32 : xs i &&& 63 = 32
  · rw [if_pos c32]
    simp only [g1, g2]
    exact st (keep_ag N (by omega) _ _)
  rw [if_neg c32]
  by_cases c33 : xs i &&& 63 = 33
  · rw [if_pos c33]
    simp only [g1, g2, g3]
    exact st (row_ag N (by omega) _ _ _)
  rw [if_neg c33]
  by_cases c34 : xs i &&& 63 = 34
  · rw [if_pos c34]
    simp only [g1, g2, g3, g4]
    exact st (put_ag N _ _ _)
  rw [if_neg c34]
  by_cases c35 : xs i &&& 63 = 35
  · rw [if_pos c35]
    simp only [g1, g2]
    exact sl (element_ag N _ _)
  rw [if_neg c35]
  by_cases c36 : xs i &&& 63 = 36
  · rw [if_pos c36]
    simp only [g1, g2, g3, g4, g5]
    exact st (shift_ag N (by omega) _ _ _ _ _)
  rw [if_neg c36]
  by_cases c37 : xs i &&& 63 = 37
  · rw [if_pos c37]
    simp only [g1, g2]
    exact st (taken_ag N (by omega) _ _)
  rw [if_neg c37]
  by_cases c38 : xs i &&& 63 = 38
  · rw [if_pos c38]
    simp only [g1]
    exact st (count_ag N _)
  rw [if_neg c38]
  exact ⟨μ, hA, fin μ⟩
theorem law_lp (N : Nat) (hN : 5000 ≤ N) {L : Nat} {xs : Nat → Int32} (hL : L ≤ 3072) : ∀ (n m i : Nat) (μ : am_M), L < i + 6 * n + 6 → n + 1 ≤ m → i ≤ 3100 → AL μ μ → ∃ μ', f_L_law_18_lp L xs N m (nI i) μ = some (nI 1, μ')
  | n, 0, i, μ, h1, h2, h3, hA => by omega
  | n, m + 1, i, μ, h1, h2, h3, hA => by
    unfold f_L_law_18_lp
    by_cases c : i + 6 ≤ L
    · obtain ⟨μ', e1, e2⟩ := law_step N hN (xs := xs) (r := f_L_law_18_lp L xs N m) hL c hA
      rw [e2]
      cases n with
      | zero => omega
      | succ n => exact law_lp N hN hL n m (i + 6) μ' (by omega) (by omega) (by omega) e1
    · unfold f_L_law_18
      rw [if_pos (show Int32.ofNat L - 6 < nI i by
        have z : nI L - nI 6 < nI i := by
          rw [Int32.lt_iff_toInt_lt, pk_sub_toInt (by omega) (by omega), nI_toInt (by omega)]
          omega
        exact z), li_1, z_1]
      exact ⟨μ, rfl⟩
