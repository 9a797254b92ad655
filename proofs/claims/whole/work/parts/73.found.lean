/-! found -/
def p_20 (k _ : Nat) : Bool := k == 200 || k == 201
theorem k20_R {μ μ' : am_M} (h : fr p_20 μ μ') : fr p_R μ μ' := h.mono' (fun k i q => by simp only [p_20, p_R, Bool.or_eq_true, Bool.and_eq_true, beq_iff_eq] at q ⊢; omega)
theorem sv_lp (N : Nat) {T S : Nat} {a : Nat → Nat → Nat} {W : Nat} {tx : Nat → tx_T} {x1 : Int32} {μ0 : am_M} :
    ∀ (n m t : Nat) (μ : am_M), t + n = T → n + 1 ≤ m → Rv μ T S a W tx → fr p_20 μ0 μ → (∀ i, i < t → μ.1 200 0 i = nI (a 2 i) ∧ μ.1 201 0 i = nI (a 2 i)) →
      ∃ μ' k, f_X10_goRounds_2_lp N m x1 (nI t) μ = f_X10_goRounds_2 N k x1 (nI T) μ' ∧ Rv μ' T S a W tx ∧ fr p_20 μ0 μ' ∧ (∀ i, i < T → μ'.1 200 0 i = nI (a 2 i) ∧ μ'.1 201 0 i = nI (a 2 i))
  | n, 0, t, μ, h1, h2, hC, h4, h7 => by omega
  | 0, m + 1, t, μ, h1, h2, hC, h4, h7 => by
    have : t = T := by omega
    subst this
    exact ⟨μ, f_X10_goRounds_2_lp N m, rfl, hC, h4, h7⟩
  | n + 1, m + 1, t, μ, h1, h2, hC, h4, h7 => by
    have hT6 := hC.1.1
    have e : μ.1 160 0 (12 + t) = nI (a 2 t) := (hC.2.2.2.2.1 t (by omega)).2.2.1
    have step : f_X10_goRounds_2_lp N (m + 1) x1 (nI t) μ = f_X10_goRounds_2_lp N m x1 (nI (t + 1)) (am_ui (am_ui μ 201 0 t (nI (a 2 t))) 200 0 t (nI (a 2 t))) := by
      show f_X10_goRounds_2 N (f_X10_goRounds_2_lp N m) x1 (nI t) μ = _
      unfold f_X10_goRounds_2
      rw [hC.2.1, if_neg (fun z => by have := (nI_leI (by omega) (by omega)).mp z; omega), gdp_12 (by omega) (by omega), gd_nI (by omega) (by omega), e, nI_1]
      simp only [am_nme]
      rw [gdp_12 (by omega) (by omega), gd_nI (by omega) (by omega), ui1, if_neg (by omega), e]
    rw [step]
    have hF : fr p_20 μ (am_ui (am_ui μ 201 0 t (nI (a 2 t))) 200 0 t (nI (a 2 t))) := (fr.rf.ui rfl).ui rfl
    refine sv_lp N n m (t + 1) _ (by omega) (by omega) (hC.of (k20_R hF)) (h4.tr hF) (fun i hi => ⟨?_, ?_⟩)
    · rw [ui1]
      by_cases c : i = t
      · subst c; rw [if_pos ⟨rfl, rfl, rfl⟩]
      · rw [if_neg (by omega), ui1, if_neg (by omega)]; exact (h7 i (by omega)).1
    · rw [ui1, if_neg (by omega), ui1]
      by_cases c : i = t
      · subst c; rw [if_pos ⟨rfl, rfl, rfl⟩]
      · rw [if_neg (by omega)]; exact (h7 i (by omega)).2
def pb (a : Nat → Nat → Nat) (p : Nat → Nat) (t i : Nat) : Nat := if i < t then a 2 i else p i
def p_99 (k i : Nat) : Bool := k == 199 || p_16 k i
theorem k99_RR {μ μ' : am_M} (h : fr p_99 μ μ') : fr p_RR μ μ' := h.mono' (fun k i q => by
  simp only [p_99, p_RR, p_R, Bool.or_eq_true, Bool.and_eq_true, beq_iff_eq] at q ⊢
  rcases q with q | q
  · left; left; omega
  · exact Or.inl (Or.inr q))
theorem bk_lp (N : Nat) {T S : Nat} {a : Nat → Nat → Nat} {W : Nat} {tx : Nat → tx_T} {p : Nat → Nat} (hb : BD T S a W) (hp : ∀ i, p i ≤ 99) {μ0 : am_M} :
    ∀ (n m t : Nat) (μ : am_M), t + n = T → n + 1 ≤ m → Rv μ T S (ap a (pb a p t)) W tx → fr p_99 μ0 μ → (∀ i, i < T → μ.1 201 0 i = nI (a 2 i)) → (∀ i, i < t → μ.1 199 0 i = nI (p i)) →
      ∃ μ', f_X10_goRounds_226_lp N m (nI t) μ = some ((), μ') ∧ fr p_99 μ0 μ' ∧ Rv μ' T S a W tx ∧ (∀ i, i < T → μ'.1 199 0 i = nI (p i))
  | n, 0, t, μ, h1, h2, hC, h4, h5, h6 => by omega
  | 0, m + 1, t, μ, h1, h2, hC, h4, h5, h6 => by
    have hT6 := hC.1.1
    unfold f_X10_goRounds_226_lp f_X10_goRounds_226
    rw [hC.2.1, if_pos ((nI_leI (by omega) (by omega)).mpr (by omega))]
    have : t = T := by omega
    subst this
    obtain ⟨g1, g2, g3, g4, g5, g6, g7, g8⟩ := hC
    refine ⟨μ, rfl, h4, ⟨hb, g2, g3, g4, fun i hi => ⟨(g5 i hi).1, (g5 i hi).2.1, ?_, (g5 i hi).2.2.2⟩, g6, g7, g8⟩, h6⟩
    rw [(g5 i hi).2.2.1]
    show nI (pb a p t i) = _
    unfold pb; rw [if_pos hi]
  | n + 1, m + 1, t, μ, h1, h2, hC, h4, h5, h6 => by
    have hT6 := hC.1.1
    unfold f_X10_goRounds_226_lp f_X10_goRounds_226
    have e : μ.1 160 0 (12 + t) = nI (p t) := by
      rw [(hC.2.2.2.2.1 t (by omega)).2.2.1]
      show nI (pb a p t t) = _
      unfold pb; rw [if_neg (by omega)]
    rw [hC.2.1, if_neg (fun z => by have := (nI_leI (by omega) (by omega)).mp z; omega), gdp_12 (by omega) (by omega), gd_nI (by omega) (by omega), e, nI_1]
    simp only [am_nme]
    rw [gd_nI (by omega) (by omega), gdp_12 (by omega) (by omega), ui1, if_neg (by omega), h5 t (by omega)]
    have hF1 : fr p_99 μ (am_ui μ 199 0 t (nI (p t))) := fr.rf.ui rfl
    have hFR : fr p_R μ (am_ui μ 199 0 t (nI (p t))) := fr.rf.ui rfl
    have hF : fr p_99 μ (am_ui (am_ui μ 199 0 t (nI (p t))) 160 0 (12 + t) (nI (a 2 t))) := hF1.ui (by show (160 == 199 || p_16 160 (12 + t)) = true; rw [p16_t (by omega)]; rfl)
    refine bk_lp N hb hp n m (t + 1) _ (by omega) (by omega) ((hC.of hFR).p (by omega) (fun i => ?_) ?_ (fun i hi hne => ?_)) (h4.tr hF) (fun i hi => ?_) (fun i hi => ?_)
    · unfold pb
      by_cases c : i < t + 1
      · rw [if_pos c]; exact (hb.2.2.2.1 i).2.2.1
      · rw [if_neg c]; exact hp i
    · unfold pb; rw [if_pos (by omega)]
    · unfold pb
      by_cases c : i < t
      · rw [if_pos c, if_pos (by omega)]
      · rw [if_neg c, if_neg (by omega)]
    · rw [ui1, if_neg (by omega), ui1, if_neg (by omega)]; exact h5 i hi
    · rw [ui1, if_neg (by omega), ui1]
      by_cases c : i = t
      · subst c; rw [if_pos ⟨rfl, rfl, rfl⟩]
      · rw [if_neg (by omega)]; exact h6 i (by omega)
theorem Rv.apx {μ : am_M} {T S : Nat} {a : Nat → Nat → Nat} {W : Nat} {tx : Nat → tx_T} (h : Rv μ T S a W tx) : Rv μ T S (ap a (a 2)) W tx := by
  obtain ⟨g1, g2, g3, g4, g5, g6, g7, g8⟩ := h
  exact ⟨⟨g1.1, g1.2.1, g1.2.2.1, fun i => ⟨(g1.2.2.2.1 i).1, (g1.2.2.2.1 i).2.1, (g1.2.2.2.1 i).2.2.1, (g1.2.2.2.1 i).2.2.2⟩, g1.2.2.2.2⟩, g2, g3, g4, g5, g6, g7, g8⟩
theorem rounds_2 (N : Nat) (hN : 5000 ≤ N) {T S : Nat} {a : Nat → Nat → Nat} {W : Nat} {tx : Nat → tx_T} {L : Nat} (hL1 : 1 ≤ L) (hL : L ≤ 60) {μ ν : am_M} (hC : Cv μ T S a W tx) (hR : Rv ν T S a W tx) :
    ∃ (μ' ν' : am_M) (p B : Nat → Nat) (md ls lr : Int32) (pl : Nat → Nat), f_X2_findPoints N (nI L) μ = some ((), μ') ∧ f_X10_goRounds N (nI L) ν = some ((), ν') ∧ fr p_C μ μ' ∧ fr p_RR ν ν' ∧ CR μ' T S a W tx p B md ls lr pl ∧ Rv ν' T S a W tx ∧ ν'.1 10 0 35 = md ∧ ν'.1 10 0 36 = sI (ov a B T S) T ∧ ν'.1 10 0 37 = ls ∧ ν'.1 10 0 38 = lr ∧ (∀ i, i < T → ν'.1 199 0 i = nI (p i)) ∧ (∀ i, i < T → ν'.1 200 0 i = nI (pl i)) ∧ (∀ i, pl i ≤ 99) := by
  have hT6 := hC.1.1
  have hbd := hC.1
  have hb := hC.1.2.2.2.1
  obtain ⟨B, hB⟩ := CB_ex a tx T (a 1) (a 2)
  unfold f_X2_findPoints f_X2_findPoints_0 f_X10_goRounds f_X10_goRounds_0
  obtain ⟨μ1, e1, e2, e3⟩ := recall_C N (by omega) hC
  obtain ⟨μ2, e4, e5, e6⟩ := wantAll_c N (by omega) (hC.of (rc_C e2)) e3 (fun t => (hb t).2.1) (fun t => (hb t).2.2.1) hB
  rw [e1, bd_some, e4, bd_some]
  have hF2 := (rc_C e2).tr (wt_C e5)
  simp only [am_nme]
  have hFa : fr p_65 μ2 (am_ui μ2 6 0 5 0) := fr.rf.ui rfl
  have hFa2 := hF2.tr (k65_C hFa)
  obtain ⟨μ3, e7, e8, e9⟩ := keepLeast_c N (by omega) (p := a 2) (B := B) (md := 0) (hC.of hFa2) ((e3.of e5 (fun _ => rfl) (fun _ => rfl)).of hFa (fun _ => rfl) (fun _ => rfl)) (fun i hi => (hFa.1 98 0 i rfl).trans (e6 i hi)) (by simp [ui1])
  rw [e7, bd_some]
  obtain ⟨ν1, k, g1, g2, g3, g4⟩ := sv_lp N (a := a) (x1 := nI L) (μ0 := ν) T N 0 ν (by omega) (by omega) hR fr.rf (fun i hi => by omega)
  have g1' : f_X10_goRounds_2_lp N N (nI L) 0 ν = f_X10_goRounds_2 N k (nI L) (nI T) ν1 := g1
  obtain ⟨ν2, g5, g6, g7, -⟩ := findWanted_r N hN g2 hB
  rw [g1']
  unfold f_X10_goRounds_2
  rw [g2.2.1, if_pos ((nI_leI (by omega) (by omega)).mpr (Nat.le_refl _)), g5, bd_some]
  simp only [am_nme]
  have hR2 := g2.of (fw_R g6)
  have hFb : fr p_35 ν2 (am_ui ν2 10 0 35 0) := fr.rf.ui rfl
  rw [both_r N (by omega) (hR2.of (k35_R hFb)) (B := B) (fun i hi => (hFb.1 193 0 i rfl).trans (g7 i hi)), bd_some]
  obtain ⟨ν3, q1⟩ : ∃ ν3, ν3 = am_ui (am_ui (am_ui (am_ui ν2 10 0 35 0) 10 0 36 (sI (ov a B T S) T)) 10 0 37 ((am_ui (am_ui ν2 10 0 35 0) 10 0 36 (sI (ov a B T S) T)).1 10 0 36)) 10 0 38 0 := ⟨_, rfl⟩
  rw [← q1]
  have hFc : fr p_R ν2 ν3 := by rw [q1]; exact (((fr.rf.ui rfl).ui rfl).ui rfl).ui rfl
  have hFd : fr (fun k i => k == 10 && (i == 35 || i == 36 || i == 37 || i == 38)) ν2 ν3 := by rw [q1]; exact (((fr.rf.ui rfl).ui rfl).ui rfl).ui rfl
  have hRQ : RQ ν3 T S a W tx (a 2) B 0 (sI (ov a B T S) T) 0 (a 2) := ⟨(hR2.of hFc).apx, fun i hi => (hFd.1 193 0 i rfl).trans (g7 i hi), by rw [q1]; simp [ui1], by rw [q1]; simp [ui1], by rw [q1]; simp [ui1], by rw [q1]; simp [ui1], fun i hi => (hFd.1 200 0 i rfl).trans ((g6.1 200 0 i rfl).trans (g4 i hi).1), fun i hi => (hFd.1 201 0 i rfl).trans ((g6.1 201 0 i rfl).trans (g4 i hi).2)⟩
  have hG3 : fr p_RR ν ν3 := ((R_RR (k20_R g3)).tr (R_RR (fw_R g6))).tr (R_RR hFc)
  obtain ⟨μ4, ν4, p, B', md, ls, lr, pl, w1, w2, w3, w4, w5, w6, w7, w8⟩ := go_lp N hN hL L N N 1 μ3 ν3 (a 2) B 0 _ 0 (a 2) (by omega) (by omega) (by omega) (fun i => (hb i).2.2.1) (fun i => (hb i).2.2.1) e9 hRQ (hFa2.tr (kl_C e8)) hG3
  have w1' : f_X2_findPoints_22_lp N N (nI L) 1 μ3 = some ((), μ4) := w1
  have w2' : f_X10_goRounds_80_lp N N (nI L) 1 1 ν3 = f_X10_goRounds_224 N ν4 := w2
  rw [w1', w2']
  unfold f_X10_goRounds_224
  obtain ⟨r1, r2, r3, r4, r5, r6, r7, r8⟩ := w6
  obtain ⟨ν5, v1, v2, v3, v4⟩ := bk_lp N (a := a) (p := p) hbd w3 (μ0 := ν4) T N 0 ν4 (by omega) (by omega) r1 fr.rf r8 (fun i hi => by omega)
  exact ⟨μ4, ν5, p, B', md, ls, lr, pl, rfl, v1, w7, w8.tr (k99_RR v2), w5, v3, (v2.1 10 0 35 rfl).trans r3, (v2.1 10 0 36 rfl).trans r4, (v2.1 10 0 37 rfl).trans r5, (v2.1 10 0 38 rfl).trans r6, v4, fun i hi => (v2.1 200 0 i rfl).trans (r7 i hi), w4⟩
/-- a query whose reference puts its points back -/
def Q3 (T S : Nat) (a : Nat → Nat → Nat) (W : Nat) (tx : Nat → tx_T) (f g : am_M → Option (Int32 × am_M)) : Prop := ∀ μ μ2, Cv μ T S a W tx → Rv μ2 T S a W tx → ∃ r μ1 μ3, f μ = some (r, μ1) ∧ fr p_C μ μ1 ∧ g μ2 = some (r, μ3) ∧ fr p_RR μ2 μ3 ∧ Rv μ3 T S a W tx
theorem Q2.q3 {T S : Nat} {a : Nat → Nat → Nat} {W : Nat} {tx : Nat → tx_T} {f g : am_M → Option (Int32 × am_M)} (h : Q2 T S a W tx f g) : Q3 T S a W tx f g := by
  intro μ μ2 hC hR
  obtain ⟨r, μ1, μ3, h1, h2, h3, h4⟩ := h μ μ2 hC hR
  exact ⟨r, μ1, μ3, h1, h2, h3, R_RR h4, hR.of h4⟩
theorem areRounds_r (N : Nat) (x : Int32) (μ : am_M) : f_X10_areRounds N x μ = some (if 1 ≤ x ∧ x ≤ 60 then nI 1 else nI 0, μ) := by
  unfold f_X10_areRounds f_X10_areRounds_0
  rw [w_ref N x 1 60 _ _ (by decide) (by decide), bd_some, z_ite]
theorem rd_ex {x : Int32} {M : Int32} {K : Nat} (hM : M.toInt = K) (h : 1 ≤ x ∧ x ≤ M) : ∃ L, 1 ≤ L ∧ L ≤ K ∧ x = nI L := by
  obtain ⟨j, hj, e⟩ := nI_of2 hM (fun q => absurd (Int32.lt_of_lt_of_le q (show (0 : Int32) ≤ 1 by decide)) (Int32.not_lt.mpr h.1)) h.2
  refine ⟨j, ?_, hj, e⟩
  by_cases c : j = 0
  · subst c; rw [e] at h; exact absurd h.1 (by decide)
  · omega
theorem found_q (N : Nat) (hN : 5000 ≤ N) {T S : Nat} {a : Nat → Nat → Nat} {W : Nat} {tx : Nat → tx_T} (x y : Int32) : Q3 T S a W tx (f_X9_found N x y) (f_X10_found N x y) := by
  intro μ ν hC hR
  have hT6 := hC.1.1
  unfold f_X9_found f_X9_found_0 f_X10_found f_X10_found_0
  simp only [w_cls, areRounds_r, bd_some, gI]
  by_cases c : 1 ≤ x ∧ x ≤ 60
  · rw [if_pos c, if_pos c]
    simp only [hC.2.1, hR.2.1, w_ref N y (-4) (nI T - 1) (-4) _ (by decide) rfl, bd_some, gI]
    by_cases d : -4 ≤ y ∧ y ≤ nI T - 1
    · rw [if_pos d, if_pos d]
      obtain ⟨L, hL1, hL, rfl⟩ := rd_ex (K := 60) (by decide) c
      obtain ⟨μ', ν', p, B, md, ls, lr, pl, w1, w2, w3, w4, ⟨u1, u2, u3, u4, u5, u6, u7⟩, w6, w7, w8, w9, w10, w11, w12, w13⟩ := rounds_2 N hN hL1 hL hC hR
      rw [w1, w2, bd_some, bd_some, both_c N (by omega) u1 u3, u4, u5, u6, w7, w8, w9, w10]
      by_cases y4 : y = -4
      · rw [if_pos y4, if_pos y4]; exact ⟨_, _, _, rfl, w3, rfl, w4, w6⟩
      · rw [if_neg y4, if_neg y4]
        by_cases y3 : y = -3
        · rw [if_pos y3, if_pos y3]; exact ⟨_, _, _, rfl, w3, rfl, w4, w6⟩
        · rw [if_neg y3, if_neg y3]
          by_cases y2 : y = -2
          · rw [if_pos y2, if_pos y2, bd_some]; exact ⟨_, _, _, rfl, w3, rfl, w4, w6⟩
          · rw [if_neg y2, if_neg y2]
            by_cases y1 : y = -1
            · rw [if_pos y1, if_pos y1]; exact ⟨_, _, _, rfl, w3, rfl, w4, w6⟩
            · rw [if_neg y1, if_neg y1]
              have hI : IT T y := by
                refine ⟨?_, d.2⟩
                have h1 := Int32.le_iff_toInt_le.mp d.1
                have e4 : (-4 : Int32).toInt = -4 := by decide
                have n4 : y.toInt ≠ -4 := fun q => y4 (Int32.toInt_inj.mp (q.trans e4.symm))
                have n3 : y.toInt ≠ -3 := fun q => y3 (Int32.toInt_inj.mp (q.trans (by decide)))
                have n2 : y.toInt ≠ -2 := fun q => y2 (Int32.toInt_inj.mp (q.trans (by decide)))
                have n1 : y.toInt ≠ -1 := fun q => y1 (Int32.toInt_inj.mp (q.trans (by decide)))
                rw [Int32.le_iff_toInt_le]
                have e0 : (0 : Int32).toInt = 0 := by decide
                omega
              obtain ⟨t, ht, rfl⟩ := IT_ex (by omega) hI
              rw [pointsOf_c N (by omega), bd_some, gd_nI (by omega) (by omega), w11 t ht, (u2 t ht).2]
              exact ⟨_, _, _, rfl, w3, rfl, w4, w6⟩
    · rw [if_neg d, if_neg d]; exact ⟨_, _, _, rfl, fr.rf, rfl, fr.rf, hR⟩
  · rw [if_neg c, if_neg c]; exact ⟨_, _, _, rfl, fr.rf, rfl, fr.rf, hR⟩
