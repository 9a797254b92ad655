/-! mend, purse: one change each -/
def M2 (T S : Nat) (W : Nat) (tx : Nat → tx_T) (f g : am_M → Option (Int32 × am_M)) : Prop := ∀ (a : Nat → Nat → Nat) (μ ν : am_M) (d u : Nat) (E : hE), Cv μ T S a W tx → Rv ν T S a W tx → HC μ d u E → HQ ν d u E → HV T S d u E → ∃ r μ' ν' d' u' E' a', f μ = some (r, μ') ∧ g ν = some (r, ν') ∧ fr p_hc μ μ' ∧ fr p_hq ν ν' ∧ Cv μ' T S a' W tx ∧ Rv ν' T S a' W tx ∧ HC μ' d' u' E' ∧ HQ ν' d' u' E' ∧ HV T S d' u' E'
theorem purse_2 (N : Nat) (hN : 130 ≤ N) {T S : Nat} {W : Nat} {tx : Nat → tx_T} (x y z : Int32) : M2 T S W tx (f_X9_purse N x y z) (f_X10_purse N x y z) := by
  intro a μ ν d u E hC hR h1 h2 h3
  have hS5 := hC.1.2.1
  have no : ∃ r μ' ν' d' u' E' a', some ((-1 : Int32), μ) = some (r, μ') ∧ some ((-1 : Int32), ν) = some (r, ν') ∧ fr p_hc μ μ' ∧ fr p_hq ν ν' ∧ Cv μ' T S a' W tx ∧ Rv ν' T S a' W tx ∧ HC μ' d' u' E' ∧ HQ ν' d' u' E' ∧ HV T S d' u' E' := ⟨-1, μ, ν, d, u, E, a, rfl, rfl, fr.rf, fr.rf, hC, hR, h1, h2, h3⟩
  unfold f_X9_purse f_X9_purse_0 f_X10_purse f_X10_purse_0
  simp only [hasSort_c N hC.2.2.1, isSort_r N hR.2.2.1, bd_some, gI]
  by_cases c1 : IT S x
  · rw [if_pos c1, if_pos c1]
    obtain ⟨s, hs, rfl⟩ := IT_ex (by omega) c1
    simp only [w_cls, w_ref N y 0 1 0 1 (by decide) (by decide), bd_some, gI]
    by_cases c2 : 0 ≤ y ∧ y ≤ 1
    · rw [if_pos c2, if_pos c2]
      simp only [two_ref, bd_some, gI]
      by_cases c3 : 0 ≤ z ∧ z ≤ 99
      · rw [if_pos c3, if_pos c3]
        obtain ⟨j, hj, rfl⟩ := nI_of2 (M := 1) (n := 1) (by decide) (Int32.not_lt.mpr c2.1) c2.2
        obtain ⟨v, hv, rfl⟩ := nI_of2 (M := 99) (n := 99) (by decide) (Int32.not_lt.mpr c3.1) c3.2
        have hV : VE T S (5 + j) s v := by unfold VE; omega
        obtain ⟨r, μ', ν', d', u', E', g1, g2, g⟩ := change_2 N hN hC hR h1 h2 h3 hV
        rw [li_5, nI_add, g1, bd_some]
        have hpl : pl (5 + j) s = (if j = 0 then 18 + s else 23 + s) := by
          unfold pl
          by_cases q : j = 0
          · subst q; simp
          · have : j = 1 := by omega
            subst this; simp
        rw [hpl] at g2
        unfold f_X10_purse_38
        by_cases q : j = 0
        · subst q
          rw [if_pos rfl] at g2
          rw [if_pos (by decide), li_18, nI_add, g2, bd_some]
          exact ⟨r, μ', ν', d', u', E', _, rfl, rfl, g⟩
        · rw [if_neg q] at g2
          rw [if_neg (nI_ne0 (by omega) (by omega)), li_23, nI_add, g2, bd_some]
          exact ⟨r, μ', ν', d', u', E', _, rfl, rfl, g⟩
      · rw [if_neg c3, if_neg c3]; exact no
    · rw [if_neg c2, if_neg c2]; exact no
  · rw [if_neg c1, if_neg c1]; exact no
