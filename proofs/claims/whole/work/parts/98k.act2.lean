/-! act -/
def p_aC (k i : Nat) : Bool := k == 130 || (k == 8 && (i == 3 || i == 4 || i == 5))
def p_aR (k i : Nat) : Bool := k == 207 || (k == 10 && (i == 48 || i == 49 || i == 50))
theorem act_fin {μ ν μ' ν' : am_M} {n : Nat} (h : AL μ ν) (e : fr p_aC μ μ') (g : fr p_aR ν ν') (hT : XT μ' ν' n) : AL μ' ν' ∧ cO μ μ' ∧ rO ν ν' := by
  obtain ⟨hA, hB, ⟨K, kd, n0, hK, -, hH⟩⟩ := h
  refine ⟨⟨hA.ag (e.nt ?_) (g.nt ?_), hB.ag (e.1 3 0 1 rfl) (fun j => e.1 48 0 j rfl) (g.1 10 0 14 rfl) (fun j => g.1 173 0 j rfl), ⟨K, kd, n, ⟨hK.1, (e.1 8 0 1 rfl).trans hK.2.1, (g.1 10 0 45 rfl).trans hK.2.2.1, fun j hj => ⟨(hK.2.2.2 j hj).1, (e.1 128 0 j rfl).trans (hK.2.2.2 j hj).2.1, (g.1 206 0 j rfl).trans (hK.2.2.2 j hj).2.2⟩⟩, hT, fun s hs => (hH s hs).ag (e.1 144 0 s rfl) (e.1 145 0 s rfl) (fun _ _ => by rw [e.2]) (g.1 211 0 s rfl) (g.1 212 0 s rfl) (fun _ _ => by rw [g.2])⟩⟩, e.cO ?_, g.rO ?_⟩
  · intro k i q z
    simp only [p_aC, qA, Bool.or_eq_true, Bool.and_eq_true, beq_iff_eq] at q z
    omega
  · intro k i q z
    simp only [p_aR, rA, Bool.or_eq_true, Bool.and_eq_true, beq_iff_eq] at q z
    omega
  · intro k i q
    simp only [p_aC, Bool.or_eq_true, Bool.and_eq_true, beq_iff_eq] at q
    exact decide_eq_false (by omega)
  · intro k i q
    simp only [p_aR, Bool.or_eq_true, Bool.and_eq_true, beq_iff_eq] at q
    exact decide_eq_true (by omega)
theorem ru_aC {μ μ' : am_M} (h : fr p_ru μ μ') : fr p_aC μ μ' := h.mono' (fun k i q => by simp only [p_ru, p_aC, Bool.or_eq_true, Bool.and_eq_true, beq_iff_eq] at q ⊢; omega)
theorem rv_aR {μ μ' : am_M} (h : fr p_rv μ μ') : fr p_aR μ μ' := h.mono' (fun k i q => by simp only [p_rv, p_aR, Bool.or_eq_true, Bool.and_eq_true, beq_iff_eq] at q ⊢; omega)
set_option maxHeartbeats 1000000 in
theorem act_ag (N : Nat) (hN : 130 ≤ N) (x y z : Int32) : AG (f_X9_act N x y z) (f_X10_act N x y z) := by
  intro μ ν h
  have h0 := h
  obtain ⟨hA, hB, ⟨K, kd, n, hK, hT, hH⟩⟩ := h
  have hK50 := hK.1
  unfold f_X9_act f_X9_act_0 f_X10_act f_X10_act_0 f_X3_forget f_X3_forget_0
  rw [am_nme, bd_some, am_nme]
  have e8 : (am_ui μ 8 0 3 0).1 8 0 1 = nI K := by rw [ui1, if_neg (by omega)]; exact hK.2.1
  have g8 : (am_ui ν 10 0 48 0).1 10 0 45 = nI K := by rw [ui1, if_neg (by omega)]; exact hK.2.2.1
  have eF : fr p_aC μ (am_ui μ 8 0 3 0) := fr.rf.ui rfl
  have eG : fr p_aR ν (am_ui ν 10 0 48 0) := fr.rf.ui rfl
  rw [has_c N hK50 e8, isBody_r N g8, bd_some, bd_some, gI, gI]
  by_cases c1 : IT K x
  · rw [if_pos c1, if_pos c1]
    obtain ⟨b, hb, rfl⟩ := IT_ex (by omega) c1
    obtain ⟨kb, k1, k2⟩ := hK.2.2.2 b hb
    rw [w_cls, bd_some, gI, gd_nI (by omega) (by omega), am_nme, am_nme]
    have k2' : (am_ui ν 10 0 48 0).1 206 0 b = nI (kd b) := by rw [ui1, if_neg (by omega)]; exact k2
    rw [k2']
    obtain ⟨ν3, hν3⟩ : ∃ ν3, ν3 = am_ui (am_ui (am_ui ν 10 0 48 0) 10 0 49 (nI (kd b))) 10 0 50 (nI b) := ⟨_, rfl⟩
    have eG3 : fr p_aR ν ν3 := by rw [hν3]; exact (eG.ui rfl).ui rfl
    rw [← hν3]
    have v49 : ν3.1 10 0 49 = nI (kd b) := by rw [hν3]; simp [ui1]
    rw [v49]
    by_cases c2 : 0 ≤ y ∧ y ≤ 3
    · rw [if_pos c2]
      obtain ⟨t, ht, rfl⟩ := nI_of2 (M := 3) (n := 3) (by decide) (Int32.not_lt.mpr c2.1) c2.2
      unfold f_X3_start f_X3_start_0 f_X3_kindOf f_X3_kindOf_0
      rw [am_nme, has_c N hK50 (by rw [ui1, if_neg (by omega)]; exact e8), bd_some, gI, if_pos c1, gd_nI (by omega) (by omega)]
      have k1' : (am_ui (am_ui μ 8 0 3 0) 8 0 4 (nI b)).1 128 0 b = nI (kd b) := by rw [ui1, if_neg (by omega), ui1, if_neg (by omega)]; exact k1
      rw [k1', bd_some, am_nme]
      obtain ⟨μ4, hμ4⟩ : ∃ μ4, μ4 = am_ui (am_ui (am_ui μ 8 0 3 0) 8 0 4 (nI b)) 8 0 5 (nI (kd b)) := ⟨_, rfl⟩
      have eF4 : fr p_aC μ μ4 := by rw [hμ4]; exact (eF.ui rfl).ui rfl
      rw [← hμ4]
      have v5 : μ4.1 8 0 5 = nI (kd b) := by rw [hμ4]; simp [ui1]
      rw [v5]
      have hU : RU μ4 ν3 (nI b) (kd b) 0 := ⟨by rw [hμ4]; simp [ui1], by rw [hν3]; simp [ui1], v5, v49, by rw [hμ4]; simp [ui1]; rfl, by rw [hν3]; simp [ui1]; rfl, fun j hj => by omega⟩
      have fin : ∀ {r μ' ν' n'}, RU μ' ν' (nI b) (kd b) n' → n' ≤ 15 → fr p_ru μ4 μ' → fr p_rv ν3 ν' → ∀ {A B : Option (Int32 × am_M)}, A = some (r, μ') → B = some (r, ν') → ∃ r μ' ν', am_bd (am_bd A (fun y m => some (y, m))) (fun y m => some (y, m)) = some (r, μ') ∧ am_bd B (fun y m => some (y, m)) = some (r, ν') ∧ AL μ' ν' ∧ cO μ μ' ∧ rO ν ν' := by
        intro r μ' ν' n' g3 g4 g5 g6 A B hA hB
        rw [hA, hB, bd_some, bd_some, bd_some]
        obtain ⟨a1, a2, a3⟩ := act_fin h0 (eF4.tr (ru_aC g5)) (eG3.tr (rv_aR g6)) (n := n') ⟨by omega, g3.2.2.2.2.1, g3.2.2.2.2.2.1, g3.2.2.2.2.2.2⟩
        exact ⟨r, μ', ν', rfl, rfl, a1, a2, a3⟩
      have kb8 : kd b < 8 := by omega
      rcases (by omega : t = 0 ∨ t = 1 ∨ t = 2 ∨ t = 3) with r | r | r | r <;> subst r
      · rw [if_pos (by decide)]
        obtain ⟨r, μ', ν', n', g1, g2, g3, g4, g5, g6⟩ := buy_all N hN (o := nI b) (q := kd b) kb8 (dep := 0) (by omega) 96 98 z μ4 ν3 0 (by omega) hU
        exact fin g3 (by omega) g5 g6 g1 g2
      · rw [if_neg (by decide), if_pos (by decide)]
        obtain ⟨r, μ', ν', n', g1, g2, g3, g4, g5, g6⟩ := keep_all N hN (o := nI b) (q := kd b) kb8 kb8 (dep := 0) (by omega) 90 97 z μ4 ν3 0 (by omega) hU
        exact fin g3 (by omega) g5 g6 g1 g2
      · rw [if_neg (by decide), if_neg (by decide), if_pos (by decide)]
        obtain ⟨r, μ', ν', n', g1, g2, g3, g4, g5, g6⟩ := lend_all N hN (o := nI b) (q := kd b) kb8 kb8 (dep := 0) (by omega) 94 98 z μ4 ν3 0 (by omega) hU
        exact fin g3 (by omega) g5 g6 g1 g2
      · rw [if_neg (by decide), if_neg (by decide), if_neg (by decide), if_pos (by decide)]
        obtain ⟨r, μ', ν', n', g1, g2, g3, g4, g5, g6⟩ := tell_all N hN (o := nI b) (q := kd b) kb8 kb8 (dep := 0) (by omega) 86 98 z μ4 ν3 0 (by omega) hU
        exact fin g3 (by omega) g5 g6 g1 g2
    · rw [if_neg c2]
      have ne : ∀ k : Int32, 0 ≤ k ∧ k ≤ 3 → ¬ y = k := fun k hk z => c2 (by rw [z]; exact hk)
      rw [if_neg (ne 0 (by decide)), if_neg (ne 1 (by decide)), if_neg (ne 2 (by decide)), if_neg (ne 3 (by decide))]
      obtain ⟨a1, a2, a3⟩ := act_fin h0 eF eG3 (n := 0) ⟨by omega, by simp [ui1]; rfl, by rw [hν3]; simp [ui1]; rfl, fun j hj => by omega⟩
      exact ⟨_, _, _, rfl, rfl, a1, a2, a3⟩
  · rw [if_neg c1, if_neg c1]
    obtain ⟨a1, a2, a3⟩ := act_fin h0 eF eG (n := 0) ⟨by omega, by simp [ui1]; rfl, by simp [ui1]; rfl, fun j hj => by omega⟩
    exact ⟨_, _, _, rfl, rfl, a1, a2, a3⟩
