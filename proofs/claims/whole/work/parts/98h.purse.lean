/-! body, trace, count -/
theorem SH.up {K K' s : Nat} {μ ν : am_M} (h : SH K μ ν s) (hK : K ≤ K') : SH K' μ ν s := by
  rcases h with h | ⟨b, h0, h1⟩ | h
  · exact Or.inl h
  · exact Or.inr (Or.inl ⟨b, by omega, h1⟩)
  · exact Or.inr (Or.inr h)
def p_bc (k i : Nat) : Bool := k == 128 || (k == 8 && i == 1)
def p_br (k i : Nat) : Bool := k == 206 || (k == 10 && i == 45)
theorem body_ag (N : Nat) (x : Int32) : AG (f_X9_body N x) (f_X10_body N x) := by
  intro μ ν h
  have h0 := h
  obtain ⟨hA, hB, ⟨K, kd, n, ⟨k1, k2, k3, k4⟩, hT, hS⟩⟩ := h
  unfold f_X9_body f_X9_body_0 f_X10_body f_X10_body_0 f_X3_add f_X3_add_0
  simp only [w_cls, w_ref N x 0 7 0 7 (by decide) (by decide), bd_some, gI]
  by_cases c1 : 0 ≤ x ∧ x ≤ 7
  · rw [if_pos c1, if_pos c1, k2, k3]
    obtain ⟨v, hv, rfl⟩ := nI_of2 (M := 7) (n := 7) (by decide) (Int32.not_lt.mpr c1.1) c1.2
    by_cases q : K = 50
    · subst q
      rw [if_neg (by decide), if_pos (by decide), bd_some]
      exact ⟨_, μ, ν, rfl, rfl, h0, cO.rf, rO.rf⟩
    · rw [if_pos (by rw [li_50]; exact (nI_ltI (by omega) (by omega)).mpr (by omega)), if_neg (by rw [li_50]; exact fun z => q ((nI_eq (by omega) (by omega)).mp z)), gd_nI (by omega) (by omega), gd_nI (by omega) (by omega)]
      simp only [am_nme, ui1, Nat.reduceEqDiff, false_and, if_false, k2, k3, and_self, if_true, nI_1, nI_pred, bd_some]
      have eF : fr p_bc μ (am_ui (am_ui μ 128 0 K (nI v)) 8 0 1 (nI (K + 1))) := (fr.rf.ui rfl).ui rfl
      have eG : fr p_br ν (am_ui (am_ui ν 206 0 K (nI v)) 10 0 45 (nI (K + 1))) := (fr.rf.ui rfl).ui rfl
      refine ⟨_, _, _, rfl, rfl, ⟨hA.ag (eF.nt ?_) (eG.nt ?_), hB.ag (eF.1 3 0 1 rfl) (fun j => eF.1 48 0 j rfl) (eG.1 10 0 14 rfl) (fun j => eG.1 173 0 j rfl), ⟨K + 1, fun j => if j = K then v else kd j, n, ⟨by omega, by simp [ui1], by simp [ui1], fun j hj => ?_⟩, ⟨hT.1, (eF.1 8 0 3 rfl).trans hT.2.1, (eG.1 10 0 48 rfl).trans hT.2.2.1, fun j hj hj2 => (eF.1 130 0 j rfl).trans ((hT.2.2.2 j hj hj2).trans (eG.1 207 0 j rfl).symm)⟩, fun s hs => ((hS s hs).up (by omega)).ag (eF.1 144 0 s rfl) (eF.1 145 0 s rfl) (fun _ _ => rfl) (eG.1 211 0 s rfl) (eG.1 212 0 s rfl) (fun _ _ => rfl)⟩⟩, eF.cO ?_, eG.rO ?_⟩
      · intro k i q z
        simp only [p_bc, qA, Bool.or_eq_true, Bool.and_eq_true, beq_iff_eq] at q z
        omega
      · intro k i q z
        simp only [p_br, rA, Bool.or_eq_true, Bool.and_eq_true, beq_iff_eq] at q z
        omega
      · by_cases r : j = K
        · subst r
          simp [ui1]
          omega
        · simp only [ui1, Nat.reduceEqDiff, false_and, if_false, r, and_false]
          exact k4 j (by omega)
      · intro k i q
        simp only [p_bc, Bool.or_eq_true, Bool.and_eq_true, beq_iff_eq] at q
        exact decide_eq_false (by omega)
      · intro k i q
        simp only [p_br, Bool.or_eq_true, Bool.and_eq_true, beq_iff_eq] at q
        exact decide_eq_true (by omega)
  · rw [if_neg c1, if_neg c1]
    exact ⟨_, μ, ν, rfl, rfl, h0, cO.rf, rO.rf⟩
theorem trace_ag (N : Nat) (x : Int32) : AG (f_X9_trace N x) (f_X10_trace N x) := by
  intro μ ν h
  have h0 := h
  obtain ⟨hA, hB, ⟨K, kd, n, hK, ⟨t1, t2, t3, t4⟩, hS⟩⟩ := h
  unfold f_X9_trace f_X9_trace_0 f_X10_trace f_X10_trace_0 f_X3_traced f_X3_traced_0
  have em : (if (24 : Int32) < nI n then 24 else nI n) = nI (if 24 < n then 24 else n) := by
    by_cases q : 24 < n
    · rw [if_pos q, if_pos (by rw [li_24]; exact (nI_ltI (by omega) (by omega)).mpr q)]; rfl
    · rw [if_neg q, if_neg (by rw [li_24]; exact fun z => q ((nI_ltI (by omega) (by omega)).mp z))]
  rw [t2, t3, am_nme, em, w_cls, bd_some, gI]
  have hm : (if 24 < n then 24 else n) ≤ 24 ∧ (if 24 < n then 24 else n) ≤ n ∧ (∀ j, j < n → j < 24 → j < (if 24 < n then 24 else n)) := by
    by_cases q : 24 < n
    · rw [if_pos q]; exact ⟨by omega, by omega, fun j _ h => h⟩
    · rw [if_neg q]; exact ⟨by omega, by omega, fun j h _ => h⟩
  generalize (if 24 < n then 24 else n) = M at hm ⊢
  obtain ⟨m1, m2, m3⟩ := hm
  have no : (¬ IT M x) → ∃ r μ' ν', am_bd (if IT M x then am_gd x 24 (fun j4 => some ((μ.1 130 0 j4), μ)) else some ((-1 : Int32), μ)) (fun y2 μ1 => some (y2, μ1)) = some (r, μ') ∧ some ((-1 : Int32), ν) = some (r, ν') ∧ AL μ' ν' ∧ cO μ μ' ∧ rO ν ν' := fun q => by
    rw [if_neg q]
    exact ⟨_, μ, ν, rfl, rfl, h0, cO.rf, rO.rf⟩
  by_cases c1 : x < 0
  · rw [if_pos c1]
    exact no (fun q => absurd c1 (Int32.not_lt.mpr q.1))
  · rw [if_neg c1]
    obtain ⟨j, hj, rfl⟩ := nI_of c1
    by_cases c2 : n ≤ j
    · rw [if_pos ((nI_leI (by omega) (by omega)).mpr c2)]
      refine no (fun q => ?_)
      obtain ⟨t, ht, e⟩ := IT_ex (by omega) q
      have := (nI_eq (by omega) (by omega)).mp e
      omega
    · rw [if_neg (fun z => c2 ((nI_leI (by omega) (by omega)).mp z))]
      by_cases c3 : 24 ≤ j
      · rw [if_pos (show (24 : Int32) ≤ nI j by rw [li_24]; exact (nI_leI (by omega) (by omega)).mpr c3)]
        refine no (fun q => ?_)
        obtain ⟨t, ht, e⟩ := IT_ex (by omega) q
        have := (nI_eq (by omega) (by omega)).mp e
        omega
      · rw [if_neg (show ¬ (24 : Int32) ≤ nI j by rw [li_24]; exact fun z => c3 ((nI_leI (by omega) (by omega)).mp z)), if_pos (IT_nI (by omega) (m3 j (by omega) (by omega))), gd_nI (by omega) (by omega), gd_nI (by omega) (by omega), bd_some, t4 j (by omega) (by omega)]
        exact ⟨_, μ, ν, rfl, rfl, h0, cO.rf, rO.rf⟩
theorem count_ag (N : Nat) (x : Int32) : AG (f_X9_count N x) (f_X10_count N x) := by
  intro μ ν h
  have h0 := h
  obtain ⟨⟨T, S, a, W, tx, d, u, E, D, h1, h2, h3, h4, h5, h6, h7, h8⟩, ⟨L, b, hX⟩, ⟨K, kd, n, hK, hT, hS⟩⟩ := h
  unfold f_X9_count f_X9_count_0 f_X10_count f_X10_count_0 f_X8_known f_X8_known_0
  rw [h1.2.1, h2.2.1, h1.2.2.1, h2.2.2.1, h1.2.2.2.1, h2.2.2.2.1, hX.2.1, hX.2.2.1, h3.1, h4.1, hK.2.1, hK.2.2.1, hT.2.1, hT.2.2.1]
  simp only [bd_some]
  have go : ∀ v : Int32, ∃ r μ' ν', some (v, μ) = some (r, μ') ∧ some (v, ν) = some (r, ν') ∧ AL μ' ν' ∧ cO μ μ' ∧ rO ν ν' := fun v => ⟨v, μ, ν, rfl, rfl, h0, cO.rf, rO.rf⟩
  by_cases c0 : x = 0
  · rw [if_pos c0, if_pos c0]; exact go _
  rw [if_neg c0, if_neg c0]
  by_cases c1 : x = 1
  · rw [if_pos c1, if_pos c1]; exact go _
  rw [if_neg c1, if_neg c1]
  by_cases c2 : x = 2
  · rw [if_pos c2, if_pos c2]; exact go _
  rw [if_neg c2, if_neg c2]
  by_cases c3 : x = 3
  · rw [if_pos c3, if_pos c3]; exact go _
  rw [if_neg c3, if_neg c3]
  by_cases c4 : x = 4
  · rw [if_pos c4, if_pos c4]; exact go _
  rw [if_neg c4, if_neg c4]
  by_cases c5 : x = 5
  · rw [if_pos c5, if_pos c5]; exact go _
  rw [if_neg c5, if_neg c5]
  by_cases c6 : x = 6
  · rw [if_pos c6, if_pos c6]; exact go _
  rw [if_neg c6, if_neg c6]; exact go _
