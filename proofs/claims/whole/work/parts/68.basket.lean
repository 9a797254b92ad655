/-! worth, basket -/
def p_wk (k i : Nat) : Bool := p_wg k i || k == 5
theorem wk_C {μ μ' : am_M} (h : fr p_wk μ μ') : fr p_C μ μ' := h.mono' (fun k i q => by simp only [p_wk, p_wg, p_C, Bool.or_eq_true, Bool.and_eq_true, beq_iff_eq, bne_iff_ne] at q ⊢; omega)
theorem rc_C {μ μ' : am_M} (h : fr p_rc μ μ') : fr p_C μ μ' := h.mono' (fun k i q => by simp only [p_rc, p_C, Bool.or_eq_true, Bool.and_eq_true, beq_iff_eq, bne_iff_ne] at q ⊢; omega)
theorem wo_C {μ μ' : am_M} (h : fr p_wo μ μ') : fr p_C μ μ' := h.mono' (fun k i q => by simp only [p_wo, p_C, Bool.or_eq_true, Bool.and_eq_true, beq_iff_eq, bne_iff_ne] at q ⊢; omega)
theorem wg_wk {μ μ' : am_M} (h : fr p_wg μ μ') : fr p_wk μ μ' := h.mono' (fun k i q => by simp only [p_wk, Bool.or_eq_true] at q ⊢; exact Or.inl q)
theorem k5_wk {μ μ' : am_M} (h : fr p_5 μ μ') : fr p_wk μ μ' := h.mono' (fun k i q => by simp only [p_wk, p_5, Bool.or_eq_true] at q ⊢; exact Or.inr q)
theorem wr_R {μ μ' : am_M} (h : fr p_wr μ μ') : fr p_R μ μ' := la_R (wr_la h)
def CB (a : Nat → Nat → Nat) (tx : Nat → tx_T) (T : Nat) (c p : Nat → Nat) (s b : Nat) : Prop := NB (cwt (wf tx a T c p s)) c p T (a 5 s) (a 6 s + 10 * a 7 s) b
theorem NB_uniq {w : Nat → Nat → Nat} {c p : Nat → Nat} {T pu bo x y : Nat} (h1 : NB w c p T pu bo x) (h2 : NB w c p T pu bo y) : x = y := by
  unfold NB at h1 h2
  exact Bst_uniq h1 h2
theorem CB_ex (a : Nat → Nat → Nat) (tx : Nat → tx_T) (T : Nat) (c p : Nat → Nat) : ∃ B : Nat → Nat, ∀ s, CB a tx T c p s (B s) := by
  have h : ∀ s, ∃ b, CB a tx T c p s b := fun s => NB_ex _ _ _ _ _ _
  exact ⟨fun s => (h s).choose, fun s => (h s).choose_spec⟩
theorem wc_c (N : Nat) (hN : 130 ≤ N) {μ : am_M} {T S : Nat} {a : Nat → Nat → Nat} {W : Nat} {tx : Nat → tx_T} (hC : Cv μ T S a W tx) {c p : Nat → Nat} (hc : ∀ t, c t ≤ 99) (hp : ∀ t, p t ≤ 99) (hT : TC μ T c p) {s b : Nat} (hs : s < S) (hB : CB a tx T c p s b) :
    ∃ μ1 μ', f_X7_weigh N (nI s) μ = some ((), μ1) ∧ f_X7_choose N (nI s) μ1 = some ((), μ') ∧ fr p_wk μ μ' ∧ SR μ' T (cwt (wf tx a T c p s)) c p b := by
  obtain ⟨μ1, e1, e2, e3⟩ := weigh_c N hN hC hT hs
  have hw := wf_le tx a T c p s
  obtain ⟨μ', b', g1, g2, g3, -, -, -, g7⟩ := choose_c N hN (hC.of (p_wg_C e2)) (w := cwt (wf tx a T c p s)) (c := c) (p := p) ⟨hC.1.1, fun t m hm => Nat.le_trans (cwt_le hw t m) (by omega), fun t m hm => cwt_mono _ t m hm, fun t => by have := hc t; omega, hp, by omega, by omega, by omega⟩ (hT.of e2 (fun _ => rfl) (fun _ => rfl)) e3 hs
  have : b = b' := NB_uniq hB g7
  subst this
  exact ⟨μ1, μ', e1, g1, (wg_wk e2).tr (k5_wk g2), g3⟩
theorem recall_C (N : Nat) (hN : 130 ≤ N) {μ : am_M} {T S : Nat} {a : Nat → Nat → Nat} {W : Nat} {tx : Nat → tx_T} (hC : Cv μ T S a W tx) : ∃ μ', f_X7_recall N μ = some ((), μ') ∧ fr p_rc μ μ' ∧ TC μ' T (a 1) (a 2) := by
  obtain ⟨μ', e1, e2, e3⟩ := recall_c N hN μ
  have := hC.1.1
  exact ⟨μ', e1, e2, fun t ht => ⟨(e3 t (by omega)).1.trans (hC.2.2.2.2.1 1 t (by omega) ht), (e3 t (by omega)).2.trans (hC.2.2.2.2.1 2 t (by omega) ht)⟩⟩
theorem bestOf_r (N : Nat) (hN : 5000 ≤ N) {μ : am_M} {T S : Nat} {a : Nat → Nat → Nat} {W : Nat} {tx : Nat → tx_T} (hC : Rv μ T S a W tx) {s b : Nat} (hs : s < S) (hB : CB a tx T (a 1) (a 2) s b) :
    ∃ μ', f_X10_bestOf N (nI s) μ = some (nI b, μ') ∧ fr p_fb μ μ' ∧ RS μ' T (cwt (wf tx a T (a 1) (a 2) s)) (a 1) (a 2) b := by
  have hb := hC.1.2.2.2.1 s
  unfold f_X10_bestOf f_X10_bestOf_0
  rw [purseOf_r N hC hs, bd_some, pia_r N hC hs, bd_some]
  obtain ⟨μ', b', g1, g2, g3, -, g4⟩ := findBest_r N hN hC hs (pu := a 5 s) (bo := a 6 s + 10 * a 7 s) (by omega) (by omega)
  have : b = b' := NB_uniq hB g4
  subst this
  exact ⟨μ', by rw [g1, bd_some], g2, g3⟩
/-- a query: both answer alike, and change only what they may -/
def Q2 (T S : Nat) (a : Nat → Nat → Nat) (W : Nat) (tx : Nat → tx_T) (f g : am_M → Option (Int32 × am_M)) : Prop := ∀ μ μ2, Cv μ T S a W tx → Rv μ2 T S a W tx → ∃ r μ1 μ3, f μ = some (r, μ1) ∧ fr p_C μ μ1 ∧ g μ2 = some (r, μ3) ∧ fr p_R μ2 μ3
theorem worth_q (N : Nat) (hN : 5000 ≤ N) {T S : Nat} {a : Nat → Nat → Nat} {W : Nat} {tx : Nat → tx_T} (x y : Int32) : Q2 T S a W tx (f_X9_worth N x y) (f_X10_worth N x y) := by
  intro μ μ2 hC hR
  have h6 := hC.1.1
  have h5 := hC.1.2.1
  unfold f_X9_worth f_X9_worth_0 f_X10_worth f_X10_worth_0
  simp only [hasSort_c N hC.2.2.1, isSort_r N hR.2.2.1, bd_some, gI]
  by_cases c1 : IT S x
  · rw [if_pos c1, if_pos c1]
    by_cases c2 : y < 0
    · rw [if_pos c2, if_pos c2]; exact ⟨_, _, _, rfl, fr.rf, rfl, fr.rf⟩
    · rw [if_neg c2, if_neg c2]
      simp only [hasThing_c N hC.2.1, isThing_r N hR.2.1, bd_some, gI]
      by_cases c3 : IT T (y / 10)
      · rw [if_pos c3, if_pos c3]
        simp only [w_cls, w_ref N (am_rem y 10) 1 3 1 3 (by decide) (by decide), bd_some, gI]
        by_cases c4 : 1 ≤ am_rem y 10 ∧ am_rem y 10 ≤ 3
        · rw [if_pos c4, if_pos c4]
          obtain ⟨s, hs, rfl⟩ := IT_ex (by omega) c1
          obtain ⟨t, ht, e⟩ := IT_ex (by omega) c3
          obtain ⟨j, hj, rfl⟩ := nI_of c2
          rw [li_10, rem_nI hj (by decide) (by decide)]
          rw [li_10] at e
          rw [e]
          obtain ⟨μ1, e1, e2, e3⟩ := recall_C N (by omega) hC
          obtain ⟨μ3, e4, e5⟩ := worth_c N (by omega) (hC.of (rc_C e2)) e3 (k := j % 10) hs ht
          obtain ⟨μ4, e6, e7⟩ := worth_r N (by omega) hR (k := j % 10) hs ht
          rw [e1, bd_some, e4, e6, bd_some, bd_some]
          exact ⟨_, _, _, rfl, (rc_C e2).tr (wo_C e5), rfl, wr_R e7⟩
        · rw [if_neg c4, if_neg c4]; exact ⟨_, _, _, rfl, fr.rf, rfl, fr.rf⟩
      · rw [if_neg c3, if_neg c3]; exact ⟨_, _, _, rfl, fr.rf, rfl, fr.rf⟩
  · rw [if_neg c1, if_neg c1]; exact ⟨_, _, _, rfl, fr.rf, rfl, fr.rf⟩
theorem basket_q (N : Nat) (hN : 5000 ≤ N) {T S : Nat} {a : Nat → Nat → Nat} {W : Nat} {tx : Nat → tx_T} (x y : Int32) : Q2 T S a W tx (f_X9_basket N x y) (f_X10_basket N x y) := by
  intro μ μ2 hC hR
  have h6 := hC.1.1
  have h5 := hC.1.2.1
  unfold f_X9_basket f_X9_basket_0 f_X10_basket f_X10_basket_0
  simp only [hasSort_c N hC.2.2.1, isSort_r N hR.2.2.1, bd_some, gI]
  by_cases c1 : IT S x
  · rw [if_pos c1, if_pos c1]
    simp only [w_cls, w_ref N y 0 3 0 3 (by decide) (by decide), bd_some, gI]
    by_cases c4 : 0 ≤ y ∧ y ≤ 3
    · rw [if_pos c4, if_pos c4]
      obtain ⟨s, hs, rfl⟩ := IT_ex (by omega) c1
      obtain ⟨B, hB⟩ := CB_ex a tx T (a 1) (a 2)
      obtain ⟨μ1, e1, e2, e3⟩ := recall_C N (by omega) hC
      have hb := hC.1.2.2.2.1
      obtain ⟨μ3, μ4, e4, e5, e6, e7, e8, e9, e10⟩ := wc_c N (by omega) (hC.of (rc_C e2)) (fun t => (hb t).2.1) (fun t => (hb t).2.2.1) e3 hs (hB s)
      obtain ⟨μ5, g1, g2, g3, g4, g5, g6⟩ := bestOf_r N hN hR hs (hB s)
      rw [e1, bd_some, e4, bd_some, e5, bd_some, g1, bd_some]
      have hRR := hR.of (fb_R g2)
      rw [digitsNow_r N (by omega) h6 (hB s).2.1 hRR.2.1 g6, bd_some]
      rw [e7, e8, e9, e10, g3, g4, g5]
      have hF := (rc_C e2).tr (wk_C e6)
      by_cases d0 : y = 0
      · rw [if_pos d0, if_pos d0]; exact ⟨_, _, _, rfl, hF, rfl, fb_R g2⟩
      · rw [if_neg d0, if_neg d0]
        by_cases d1 : y = 1
        · rw [if_pos d1, if_pos d1]; exact ⟨_, _, _, rfl, hF, rfl, fb_R g2⟩
        · rw [if_neg d1, if_neg d1]
          by_cases d2 : y = 2
          · rw [if_pos d2, if_pos d2]; exact ⟨_, _, _, rfl, hF, rfl, fb_R g2⟩
          · rw [if_neg d2, if_neg d2]; exact ⟨_, _, _, rfl, hF, rfl, fb_R g2⟩
    · rw [if_neg c4, if_neg c4]; exact ⟨_, _, _, rfl, fr.rf, rfl, fr.rf⟩
  · rw [if_neg c1, if_neg c1]; exact ⟨_, _, _, rfl, fr.rf, rfl, fr.rf⟩
