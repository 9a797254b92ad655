/-! the rounds, both sides in step -/
def p_kl (k i : Nat) : Bool := (k == 6 && (i == 6 || i == 7)) || k == 100
theorem kl_C {μ μ' : am_M} (h : fr p_kl μ μ') : fr p_C μ μ' := h.mono' (fun k i q => by simp only [p_kl, p_C, Bool.or_eq_true, Bool.and_eq_true, beq_iff_eq, bne_iff_ne] at q ⊢; omega)
theorem kl_lp (N : Nat) {T S : Nat} {a : Nat → Nat → Nat} {W : Nat} {tx : Nat → tx_T} {p : Nat → Nat} {μ0 : am_M} :
    ∀ (n m t : Nat) (μ : am_M), t + n = T → n + 1 ≤ m → Cv μ T S a W tx → TC μ T (a 1) p → fr p_kl μ0 μ → μ.1 6 0 6 = μ0.1 6 0 6 → μ.1 6 0 7 = μ0.1 6 0 7 → (∀ i, i < t → μ.1 100 0 i = nI (p i)) →
      ∃ μ', f_X2_keepLeast_18_lp N m (nI t) μ = some ((), μ') ∧ fr p_kl μ0 μ' ∧ μ'.1 6 0 6 = μ0.1 6 0 6 ∧ μ'.1 6 0 7 = μ0.1 6 0 7 ∧ (∀ i, i < T → μ'.1 100 0 i = nI (p i))
  | n, 0, t, μ, h1, h2, hC, hT, h4, h5, h6, h7 => by omega
  | 0, m + 1, t, μ, h1, h2, hC, hT, h4, h5, h6, h7 => by
    have hT6 := hC.1.1
    unfold f_X2_keepLeast_18_lp f_X2_keepLeast_18
    rw [hC.2.1, if_pos ((nI_leI (by omega) (by omega)).mpr (by omega))]
    exact ⟨μ, rfl, h4, h5, h6, fun i hi => h7 i (by omega)⟩
  | n + 1, m + 1, t, μ, h1, h2, hC, hT, h4, h5, h6, h7 => by
    have hT6 := hC.1.1
    unfold f_X2_keepLeast_18_lp f_X2_keepLeast_18
    rw [hC.2.1, if_neg (fun z => by have := (nI_leI (by omega) (by omega)).mp z; omega), pointsOf_c N (by omega), bd_some, gd_nI (by omega) (by omega), (hT t (by omega)).2, nI_1]
    simp only [am_nme]
    have hF : fr p_kl μ (am_ui μ 100 0 t (nI (p t))) := fr.rf.ui rfl
    refine kl_lp N n m (t + 1) _ (by omega) (by omega) (hC.of (kl_C hF)) (hT.of hF (fun _ => rfl) (fun _ => rfl)) (h4.tr hF) ?_ ?_ (fun i hi => ?_)
    · rw [ui1, if_neg (by omega)]; exact h5
    · rw [ui1, if_neg (by omega)]; exact h6
    · rw [ui1]
      by_cases c : i = t
      · subst c; rw [if_pos ⟨rfl, rfl, rfl⟩]
      · rw [if_neg (by omega)]; exact h7 i (by omega)
def CR (μ : am_M) (T S : Nat) (a : Nat → Nat → Nat) (W : Nat) (tx : Nat → tx_T) (p B : Nat → Nat) (md ls lr : Int32) (pl : Nat → Nat) : Prop := Cv μ T S a W tx ∧ TC μ T (a 1) p ∧ (∀ i, i < T → μ.1 98 0 i = nI (wn a B T S i)) ∧ μ.1 6 0 5 = md ∧ μ.1 6 0 6 = ls ∧ μ.1 6 0 7 = lr ∧ ∀ i, i < T → μ.1 100 0 i = nI (pl i)
def RQ (μ : am_M) (T S : Nat) (a : Nat → Nat → Nat) (W : Nat) (tx : Nat → tx_T) (p B : Nat → Nat) (md ls lr : Int32) (pl : Nat → Nat) : Prop := Rv μ T S (ap a p) W tx ∧ (∀ i, i < T → μ.1 193 0 i = nI (wn a B T S i)) ∧ μ.1 10 0 35 = md ∧ μ.1 10 0 36 = sI (ov a B T S) T ∧ μ.1 10 0 37 = ls ∧ μ.1 10 0 38 = lr ∧ (∀ i, i < T → μ.1 200 0 i = nI (pl i)) ∧ ∀ i, i < T → μ.1 201 0 i = nI (a 2 i)
theorem keepLeast_c (N : Nat) (hN : 130 ≤ N) {μ : am_M} {T S : Nat} {a : Nat → Nat → Nat} {W : Nat} {tx : Nat → tx_T} {p B : Nat → Nat} {md : Int32} (hC : Cv μ T S a W tx) (hT : TC μ T (a 1) p) (h98 : ∀ i, i < T → μ.1 98 0 i = nI (wn a B T S i)) (h5 : μ.1 6 0 5 = md) :
    ∃ μ', f_X2_keepLeast N μ = some ((), μ') ∧ fr p_kl μ μ' ∧ CR μ' T S a W tx p B md (sI (ov a B T S) T) md p := by
  have hT6 := hC.1.1
  unfold f_X2_keepLeast f_X2_keepLeast_0
  rw [both_c N hN hC h98, bd_some]
  simp only [am_nme]
  obtain ⟨μ1, e1⟩ : ∃ μ1, μ1 = am_ui (am_ui μ 6 0 6 (sI (ov a B T S) T)) 6 0 7 ((am_ui μ 6 0 6 (sI (ov a B T S) T)).1 6 0 5) := ⟨_, rfl⟩
  rw [← e1]
  have hF : fr p_kl μ μ1 := by rw [e1]; exact (fr.rf.ui rfl).ui rfl
  obtain ⟨μ', g1, g2, g3, g4, g5⟩ := kl_lp N (p := p) (μ0 := μ1) T N 0 μ1 (by omega) (by omega) (hC.of (kl_C hF)) (hT.of hF (fun _ => rfl) (fun _ => rfl)) fr.rf rfl rfl (fun i hi => by omega)
  have hFF := hF.tr g2
  refine ⟨μ', g1, hFF, hC.of (kl_C hFF), hT.of hFF (fun _ => rfl) (fun _ => rfl), fun i hi => (hFF.1 98 0 i rfl).trans (h98 i hi), (hFF.1 6 0 5 rfl).trans h5, ?_, ?_, g5⟩
  · rw [g3, e1]; simp [ui1]
  · rw [g4, e1]; simp [ui1, h5]
def p_kr (k i : Nat) : Bool := (k == 10 && (i == 37 || i == 38)) || k == 200
theorem kr_R {μ μ' : am_M} (h : fr p_kr μ μ') : fr p_R μ μ' := h.mono' (fun k i q => by simp only [p_kr, p_R, Bool.or_eq_true, Bool.and_eq_true, beq_iff_eq] at q ⊢; omega)
theorem kr_lp (N : Nat) {T S : Nat} {a : Nat → Nat → Nat} {W : Nat} {tx : Nat → tx_T} {p : Nat → Nat} {μ0 : am_M} :
    ∀ (n m t : Nat) (μ : am_M), t + n = T → n + 1 ≤ m → Rv μ T S (ap a p) W tx → fr p_kr μ0 μ → μ.1 10 0 37 = μ0.1 10 0 37 → μ.1 10 0 38 = μ0.1 10 0 38 → (∀ i, i < t → μ.1 200 0 i = nI (p i)) →
      ∃ μ', f_X10_keepsLeast_27_lp N m (nI t) μ = some ((), μ') ∧ fr p_kr μ0 μ' ∧ μ'.1 10 0 37 = μ0.1 10 0 37 ∧ μ'.1 10 0 38 = μ0.1 10 0 38 ∧ (∀ i, i < T → μ'.1 200 0 i = nI (p i))
  | n, 0, t, μ, h1, h2, hC, h4, h5, h6, h7 => by omega
  | 0, m + 1, t, μ, h1, h2, hC, h4, h5, h6, h7 => by
    have hT6 := hC.1.1
    unfold f_X10_keepsLeast_27_lp f_X10_keepsLeast_27
    rw [hC.2.1, if_pos ((nI_leI (by omega) (by omega)).mpr (by omega))]
    exact ⟨μ, rfl, h4, h5, h6, fun i hi => h7 i (by omega)⟩
  | n + 1, m + 1, t, μ, h1, h2, hC, h4, h5, h6, h7 => by
    have hT6 := hC.1.1
    unfold f_X10_keepsLeast_27_lp f_X10_keepsLeast_27
    have e : μ.1 160 0 (12 + t) = nI (p t) := (hC.2.2.2.2.1 t (by omega)).2.2.1
    rw [hC.2.1, if_neg (fun z => by have := (nI_leI (by omega) (by omega)).mp z; omega), gdp_12 (by omega) (by omega), gd_nI (by omega) (by omega), e, nI_1]
    simp only [am_nme]
    have hF : fr p_kr μ (am_ui μ 200 0 t (nI (p t))) := fr.rf.ui rfl
    refine kr_lp N n m (t + 1) _ (by omega) (by omega) (hC.of (kr_R hF)) (h4.tr hF) ?_ ?_ (fun i hi => ?_)
    · rw [ui1, if_neg (by omega)]; exact h5
    · rw [ui1, if_neg (by omega)]; exact h6
    · rw [ui1]
      by_cases c : i = t
      · subst c; rw [if_pos ⟨rfl, rfl, rfl⟩]
      · rw [if_neg (by omega)]; exact h7 i (by omega)
theorem keepsLeast_r (N : Nat) (hN : 130 ≤ N) {μ : am_M} {T S : Nat} {a : Nat → Nat → Nat} {W : Nat} {tx : Nat → tx_T} {p B : Nat → Nat} {md ls lr : Int32} {pl : Nat → Nat} (h : RQ μ T S a W tx p B md ls lr pl) :
    ∃ μ', f_X10_keepsLeast N md μ = some ((), μ') ∧ fr p_kr μ μ' ∧ (if sI (ov a B T S) T < ls then RQ μ' T S a W tx p B md (sI (ov a B T S) T) md p else RQ μ' T S a W tx p B md ls lr pl) := by
  obtain ⟨hC, h2, h3, h4, h5, h6, h7, h8⟩ := h
  have hT6 := hC.1.1
  unfold f_X10_keepsLeast f_X10_keepsLeast_0
  rw [h4, h5]
  by_cases c : sI (ov a B T S) T < ls
  · rw [if_pos c]
    simp only [if_pos c, am_nme]
    obtain ⟨μ1, e1⟩ : ∃ μ1, μ1 = am_ui (am_ui μ 10 0 37 (sI (ov a B T S) T)) 10 0 38 md := ⟨_, rfl⟩
    rw [← e1]
    have hF : fr p_kr μ μ1 := by rw [e1]; exact (fr.rf.ui rfl).ui rfl
    obtain ⟨μ', g1, g2, g3, g4, g5⟩ := kr_lp N (p := p) (μ0 := μ1) T N 0 μ1 (by omega) (by omega) (hC.of (kr_R hF)) fr.rf rfl rfl (fun i hi => by omega)
    have hFF := hF.tr g2
    refine ⟨μ', g1, hFF, hC.of (kr_R hFF), fun i hi => (hFF.1 193 0 i rfl).trans (h2 i hi), (hFF.1 10 0 35 rfl).trans h3, (hFF.1 10 0 36 rfl).trans h4, ?_, ?_, g5, fun i hi => (hFF.1 201 0 i rfl).trans (h8 i hi)⟩
    · rw [g3, e1]; simp [ui1]
    · rw [g4, e1]; simp [ui1]
  · rw [if_neg c]
    simp only [if_neg c]
    exact ⟨μ, rfl, fr.rf, hC, h2, h3, h4, h5, h6, h7, h8⟩
def p_RR (k i : Nat) : Bool := p_R k i || p_16 k i || (k == 10 && i == 29)
theorem R_RR {μ μ' : am_M} (h : fr p_R μ μ') : fr p_RR μ μ' := h.mono' (fun k i q => by simp only [p_RR, Bool.or_eq_true] at q ⊢; exact Or.inl (Or.inl q))
theorem k16_RR {μ μ' : am_M} (h : fr p_16 μ μ') : fr p_RR μ μ' := h.mono' (fun k i q => by simp only [p_RR, Bool.or_eq_true] at q ⊢; exact Or.inl (Or.inr q))
def p_65 (k i : Nat) : Bool := k == 6 && i == 5
theorem k65_C {μ μ' : am_M} (h : fr p_65 μ μ') : fr p_C μ μ' := h.mono' (fun k i q => by simp only [p_65, p_C, Bool.or_eq_true, Bool.and_eq_true, beq_iff_eq, bne_iff_ne] at q ⊢; omega)
def p_35 (k i : Nat) : Bool := k == 10 && (i == 35 || i == 36)
theorem k35_R {μ μ' : am_M} (h : fr p_35 μ μ') : fr p_R μ μ' := h.mono' (fun k i q => by simp only [p_35, p_R, Bool.or_eq_true, Bool.and_eq_true, beq_iff_eq] at q ⊢; omega)
theorem go_lp (N : Nat) (hN : 5000 ≤ N) {T S : Nat} {a : Nat → Nat → Nat} {W : Nat} {tx : Nat → tx_T} {L : Nat} (hL : L ≤ 60) {μ0 ν0 : am_M} :
    ∀ (n m m2 x : Nat) (μ ν : am_M) (p B : Nat → Nat) (md ls lr : Int32) (pl : Nat → Nat), x + n = L + 1 → n + 1 ≤ m → n + 2 ≤ m2 → (∀ i, p i ≤ 99) → (∀ i, pl i ≤ 99) → CR μ T S a W tx p B md ls lr pl → RQ ν T S a W tx p B md ls lr pl → fr p_C μ0 μ → fr p_RR ν0 ν →
      ∃ (μ' ν' : am_M) (p B : Nat → Nat) (md ls lr : Int32) (pl : Nat → Nat), f_X2_findPoints_22_lp N m (nI L) (nI x) μ = some ((), μ') ∧ f_X10_goRounds_80_lp N m2 (nI L) (nI 1) (nI x) ν = f_X10_goRounds_224 N ν' ∧ (∀ i, p i ≤ 99) ∧ (∀ i, pl i ≤ 99) ∧ CR μ' T S a W tx p B md ls lr pl ∧ RQ ν' T S a W tx p B md ls lr pl ∧ fr p_C μ0 μ' ∧ fr p_RR ν0 ν'
  | n, 0, m2, x, μ, ν, p, B, md, ls, lr, pl, h1, h2, h3, hp, hpl, hC, hR, hF, hG => by omega
  | n, m, 0, x, μ, ν, p, B, md, ls, lr, pl, h1, h2, h3, hp, hpl, hC, hR, hF, hG => by omega
  | 0, m + 1, m2 + 1, x, μ, ν, p, B, md, ls, lr, pl, h1, h2, h3, hp, hpl, hC, hR, hF, hG => by
    unfold f_X2_findPoints_22_lp f_X2_findPoints_22 f_X10_goRounds_80_lp f_X10_goRounds_80
    rw [if_pos ((nI_ltI (by omega) (by omega)).mpr (by omega)), if_pos ((nI_ltI (by omega) (by omega)).mpr (by omega))]
    exact ⟨μ, ν, p, B, md, ls, lr, pl, rfl, rfl, hp, hpl, hC, hR, hF, hG⟩
  | n + 1, m + 1, m2 + 1, x, μ, ν, p, B, md_, ls, lr, pl, h1, h2, h3, hp, hpl, hC, hR, hF, hG => by
    obtain ⟨c1, c2, c3, c4, c5, c6, c7⟩ := hC
    obtain ⟨r1, r2, r3, r4, r5, r6, r7, r8⟩ := hR
    have hT6 := c1.1.1
    have hb := c1.1.2.2.2.1
    unfold f_X2_findPoints_22_lp f_X2_findPoints_22 f_X2_findPoints_58 f_X10_goRounds_80_lp f_X10_goRounds_80
    rw [if_neg (fun z => by have := (nI_ltI (by omega) (by omega)).mp z; omega), if_neg (fun z => by have := (nI_ltI (by omega) (by omega)).mp z; omega), if_neg (show ¬ nI 1 = 0 by decide)]
    obtain ⟨μ1, e1, e2, e3⟩ := mp_lp N (B := B) hp (μ0 := μ) T N 0 μ (by omega) (by omega) c1 c3 fr.rf (fun i hi => ⟨(c2 i hi).1, by rw [(c2 i hi).2]; rfl⟩)
    have e1' : f_X2_movePoints N μ = some (b2 (fl (md a B T S p) T), μ1) := e1
    obtain ⟨ν1, k, g1, g2, g3⟩ := mr_lp N (B := B) (a := a) hp (r := f_X10_goRounds_80_lp N m2) (x1 := nI L) (x3 := nI x) (μ0 := ν) T N 0 ν (by omega) (by omega) r1 r2 fr.rf
    have g1' : f_X10_goRounds_94_lp N (f_X10_goRounds_80_lp N m2) N (nI L) 0 (nI x) 0 ν = f_X10_goRounds_94 N (f_X10_goRounds_80_lp N m2) k (nI L) (b2 (fl (md a B T S p) T)) (nI x) (nI T) ν1 := g1
    have hp' : ∀ i, mp a B T S p i ≤ 99 := fun i => mv_le (hp i)
    have hC1 := c1.of (rc_C e2)
    have hF1 := hF.tr (rc_C e2)
    have hG1 := hG.tr (k16_RR g2)
    rw [e1', bd_some, g1']
    unfold f_X10_goRounds_94 f_X10_goRounds_218
    rw [g3.2.1, if_pos ((nI_leI (by omega) (by omega)).mpr (Nat.le_refl _)), nI_1]
    cases hfl : fl (md a B T S p) T
    · rw [if_pos (show b2 false = 0 from rfl), if_pos (show b2 false = 0 from rfl)]
      cases m2 with
      | zero => omega
      | succ m2 =>
        refine ⟨μ1, ν1, mp a B T S p, B, md_, ls, lr, pl, rfl, ?_, hp', hpl, ⟨hC1, e3, fun i hi => (e2.1 98 0 i rfl).trans (c3 i hi), (e2.1 6 0 5 rfl).trans c4, (e2.1 6 0 6 rfl).trans c5, (e2.1 6 0 7 rfl).trans c6, fun i hi => (e2.1 100 0 i rfl).trans (c7 i hi)⟩, ⟨g3, fun i hi => (g2.1 193 0 i rfl).trans (r2 i hi), (g2.1 10 0 35 rfl).trans r3, (g2.1 10 0 36 rfl).trans r4, (g2.1 10 0 37 rfl).trans r5, (g2.1 10 0 38 rfl).trans r6, fun i hi => (g2.1 200 0 i rfl).trans (r7 i hi), fun i hi => (g2.1 201 0 i rfl).trans (r8 i hi)⟩, hF1, hG1⟩
        unfold f_X10_goRounds_80_lp f_X10_goRounds_80
        rw [if_pos (show b2 false = 0 from rfl)]
        by_cases q : nI L < nI (x + 1)
        · rw [if_pos q]
        · rw [if_neg q]
    · rw [if_neg (show ¬ b2 true = 0 by decide), if_neg (show ¬ b2 true = 0 by decide)]
      obtain ⟨B', hB'⟩ := CB_ex a tx T (a 1) (mp a B T S p)
      simp only [am_nme]
      have hFa : fr p_65 μ1 (am_ui μ1 6 0 5 (nI x)) := fr.rf.ui rfl
      obtain ⟨μ2, e4, e5, e6⟩ := wantAll_c N (by omega) (hC1.of (k65_C hFa)) (e3.of hFa (fun _ => rfl) (fun _ => rfl)) (fun t => (hb t).2.1) hp' hB'
      obtain ⟨ν2, g4, g5, g6, -⟩ := findWanted_r N hN g3 (B := B') hB'
      have hC2 := (hC1.of (k65_C hFa)).of (wt_C e5)
      have hR2 := g3.of (fw_R g5)
      have hF2 := (hF1.tr (k65_C hFa)).tr (wt_C e5)
      have hG2 := hG1.tr (R_RR (fw_R g5))
      have m5 : μ2.1 6 0 5 = nI x := (e5.1 6 0 5 rfl).trans (by simp [ui1])
      have m6 : μ2.1 6 0 6 = ls := (e5.1 6 0 6 rfl).trans ((hFa.1 6 0 6 rfl).trans ((e2.1 6 0 6 rfl).trans c5))
      rw [e4, bd_some, both_c N (by omega) hC2 e6, bd_some, m6, g4, bd_some]
      have hFb : fr p_35 ν2 (am_ui ν2 10 0 35 (nI x)) := fr.rf.ui rfl
      rw [both_r N (by omega) (a := ap a (mp a B T S p)) (hR2.of (k35_R hFb)) (B := B') (fun i hi => (hFb.1 193 0 i rfl).trans (g6 i hi)), bd_some]
      have hFc : fr p_35 ν2 (am_ui (am_ui ν2 10 0 35 (nI x)) 10 0 36 (sI (ov (ap a (mp a B T S p)) B' T S) T)) := hFb.ui rfl
      have hRQ : RQ (am_ui (am_ui ν2 10 0 35 (nI x)) 10 0 36 (sI (ov (ap a (mp a B T S p)) B' T S) T)) T S a W tx (mp a B T S p) B' (nI x) ls lr pl := by
        refine ⟨hR2.of (k35_R hFc), fun i hi => (hFc.1 193 0 i rfl).trans (g6 i hi), by simp [ui1], ?_, (hFc.1 10 0 37 rfl).trans ((g5.1 10 0 37 rfl).trans ((g2.1 10 0 37 rfl).trans r5)), (hFc.1 10 0 38 rfl).trans ((g5.1 10 0 38 rfl).trans ((g2.1 10 0 38 rfl).trans r6)), fun i hi => (hFc.1 200 0 i rfl).trans ((g5.1 200 0 i rfl).trans ((g2.1 200 0 i rfl).trans (r7 i hi))), fun i hi => (hFc.1 201 0 i rfl).trans ((g5.1 201 0 i rfl).trans ((g2.1 201 0 i rfl).trans (r8 i hi)))⟩
        simp [ui1]; rfl
      obtain ⟨ν3, q1, q2, q3⟩ := keepsLeast_r N (by omega) hRQ
      rw [q1, bd_some]
      have hG3 := (hG2.tr (R_RR (k35_R hFc))).tr (R_RR (kr_R q2))
      by_cases d : sI (ov a B' T S) T < ls
      · rw [if_neg (Int32.not_le.mpr d)]
        rw [if_pos d] at q3
        have hT2 : TC μ2 T (a 1) (mp a B T S p) := (e3.of hFa (fun _ => rfl) (fun _ => rfl)).of e5 (fun _ => rfl) (fun _ => rfl)
        obtain ⟨μ3, e7, e8, e9⟩ := keepLeast_c N (by omega) hC2 hT2 e6 m5
        rw [e7, bd_some]
        exact go_lp N hN hL n m m2 (x + 1) μ3 ν3 _ _ _ _ _ _ (by omega) (by omega) (by omega) hp' hp' e9 q3 (hF2.tr (kl_C e8)) hG3
      · rw [if_pos (Int32.not_lt.mp d)]
        rw [if_neg d] at q3
        have hT2 : TC μ2 T (a 1) (mp a B T S p) := (e3.of hFa (fun _ => rfl) (fun _ => rfl)).of e5 (fun _ => rfl) (fun _ => rfl)
        have hCR : CR μ2 T S a W tx (mp a B T S p) B' (nI x) ls lr pl := ⟨hC2, hT2, e6, m5, m6, (e5.1 6 0 7 rfl).trans ((hFa.1 6 0 7 rfl).trans ((e2.1 6 0 7 rfl).trans c6)), fun i hi => (e5.1 100 0 i rfl).trans ((hFa.1 100 0 i rfl).trans ((e2.1 100 0 i rfl).trans (c7 i hi)))⟩
        exact go_lp N hN hL n m m2 (x + 1) μ2 ν3 _ _ _ _ _ _ (by omega) (by omega) (by omega) hp' hpl hCR q3 hF2 hG3
