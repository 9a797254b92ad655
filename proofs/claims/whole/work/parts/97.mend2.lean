theorem mend_2 (N : Nat) (hN : 130 ≤ N) {T S : Nat} {W : Nat} {tx : Nat → tx_T} (x y z : Int32) : M2 T S W tx (f_X9_mend N x y z) (f_X10_mend N x y z) := by
  intro a μ ν d u E hC hR h1 h2 h3
  have hT6 := hC.1.1
  have no : ∃ r μ' ν' d' u' E' a', some ((-1 : Int32), μ) = some (r, μ') ∧ some ((-1 : Int32), ν) = some (r, ν') ∧ fr p_hc μ μ' ∧ fr p_hq ν ν' ∧ Cv μ' T S a' W tx ∧ Rv ν' T S a' W tx ∧ HC μ' d' u' E' ∧ HQ ν' d' u' E' ∧ HV T S d' u' E' := ⟨-1, μ, ν, d, u, E, a, rfl, rfl, fr.rf, fr.rf, hC, hR, h1, h2, h3⟩
  unfold f_X9_mend f_X9_mend_0 f_X10_mend f_X10_mend_0
  simp only [hasThing_c N hC.2.1, isThing_r N hR.2.1, bd_some, gI]
  by_cases c1 : IT T x
  · rw [if_pos c1, if_pos c1]
    obtain ⟨t, ht, rfl⟩ := IT_ex (by omega) c1
    simp only [w_cls, w_ref N y 0 2 0 2 (by decide) (by decide), bd_some, gI]
    by_cases c2 : 0 ≤ y ∧ y ≤ 2
    · rw [if_pos c2, if_pos c2]
      obtain ⟨j, hj, rfl⟩ := nI_of2 (M := 2) (n := 2) (by decide) (Int32.not_lt.mpr c2.1) c2.2
      have go : ∀ (M : Int32) (H : Int64) (K : Nat), M.toInt = K → H = M.toInt64 → (∀ v, v ≤ K → VE T S j t v) → ∃ r μ' ν' d' u' E' a', f_X9_mend_34 N (nI t) (nI j) z M 0 z μ = some (r, μ') ∧ f_X10_mend_36 N (nI t) (nI j) z H 0 z.toInt64 ν = some (r, ν') ∧ fr p_hc μ μ' ∧ fr p_hq ν ν' ∧ Cv μ' T S a' W tx ∧ Rv ν' T S a' W tx ∧ HC μ' d' u' E' ∧ HQ ν' d' u' E' ∧ HV T S d' u' E' := by
        intro M H K hM hH hVE
        unfold f_X9_mend_34 f_X10_mend_36
        simp only [w_cls, w_ref N z 0 M 0 H (by decide) hH, bd_some, gI]
        by_cases c3 : 0 ≤ z ∧ z ≤ M
        · rw [if_pos c3, if_pos c3]
          obtain ⟨v, hv, rfl⟩ := nI_of2 hM (Int32.not_lt.mpr c3.1) c3.2
          obtain ⟨r, μ', ν', d', u', E', g1, g2, g⟩ := change_2 N hN hC hR h1 h2 h3 (hVE v hv)
          have hpl : pl j t = 6 * j + t := by
            unfold pl
            rcases (by omega : j = 0 ∨ j = 1 ∨ j = 2) with q | q | q <;> subst q <;> simp
          rw [hpl] at g2
          rw [Int32.zero_add, g1, bd_some, li_6, pk_mul, nI_add, g2, bd_some]
          exact ⟨r, μ', ν', d', u', E', _, rfl, rfl, g⟩
        · rw [if_neg c3, if_neg c3]; exact no
      by_cases q : j = 0
      · subst q
        rw [if_pos (by decide), if_pos (by decide)]
        exact go 999 999 999 (by decide) (by decide) (fun v hv => by unfold VE; omega)
      · rw [if_neg (nI_ne0 (by omega) (by omega)), if_neg (nI_ne0 (by omega) (by omega))]
        exact go 99 99 99 (by decide) (by decide) (fun v hv => by unfold VE; omega)
    · rw [if_neg c2, if_neg c2]; exact no
  · rw [if_neg c1, if_neg c1]; exact no
