/-! thing, sort -/
theorem VE.up {T S T' S' c i v : Nat} (h : VE T S c i v) (hT : T ≤ T') (hS : S ≤ S') : VE T' S' c i v := by unfold VE at *; omega
theorem HV.up {T S T' S' d u : Nat} {E : hE} (h : HV T S d u E) (hT : T ≤ T') (hS : S ≤ S') : HV T' S' d u E := fun j hj => ⟨(h j hj).1.up hT hS, (h j hj).2.up hT hS⟩
theorem TL.up {c T : Nat} {μ : am_M} {D : Nat → Nat} (h : TL c μ T D) : TL c μ (T + 1) D := fun s hs => ⟨by have := (h s hs).1; rw [Nat.pow_succ]; omega, by rw [bdg_up _ _ (h s hs).1]; exact (h s hs).2⟩
def p_ac (k i : Nat) : Bool := k == 316 || (k == 1 && i == 1)
def p_ar (k i : Nat) : Bool := k == 160 || k == 167 || (k == 10 && i == 6)
theorem add_2 (N : Nat) {μ ν : am_M} (h : AL μ ν) : ∃ T, T ≤ 6 ∧ μ.1 1 0 1 = nI T ∧ ν.1 10 0 6 = nI T ∧ (T < 6 → ∀ v0 v1 v2 v3, v0 ≤ 999 → v1 ≤ 99 → v2 ≤ 99 → v3 ≤ 99 →
    ∃ μ' ν', f_X5_addThing N (nI v0) (nI v1) (nI v2) (nI v3) μ = some (nI T, μ') ∧ f_X10_adds N (nI v0) (nI v1) (nI v2) (nI v3) ν = some ((), ν') ∧ ν'.1 10 0 6 = nI (T + 1) ∧ AL μ' ν' ∧ fr p_ac μ μ' ∧ fr p_ar ν ν') := by
  obtain ⟨⟨T, S, a, W, tx, d, u, E, D, h1, h2, h3, h4, h5, h6, h7, h8⟩, hB, hD⟩ := h
  refine ⟨T, h1.1.1, h1.2.1, h2.2.1, fun hT v0 v1 v2 v3 k0 k1 k2 k3 => ?_⟩
  obtain ⟨μ', e1, e2, e3⟩ := addThing_c N h1 hT k0 k1 k2 k3
  obtain ⟨ν', g1, g2, g3⟩ := adds_r N h2 hT k0 k1 k2 k3
  have e2' : fr p_ac μ μ' := e2
  have g2' : fr p_ar ν ν' := g2
  refine ⟨μ', ν', e1, g1, g3.2.1, ⟨⟨T + 1, S, _, W, tx, d, u, E, D, e3, g3, h3.ag (e2'.nt ?_), h4.ag (g2'.nt ?_), h5.up (by omega) (by omega), TL.up (h6.ag (fun s => e2'.1 99 0 s rfl)), TL.up (h7.ag (fun s => g2'.1 172 0 s rfl)), h8⟩, hB.ag (e2'.1 3 0 1 rfl) (fun j => e2'.1 48 0 j rfl) (g2'.1 10 0 14 rfl) (fun j => g2'.1 173 0 j rfl), hD.ag (e2'.nt ?_) (fun r i => by rw [e2'.2]) (g2'.nt ?_) (fun i => by rw [g2'.2])⟩, e2', g2'⟩
  · intro k i q z
    simp only [p_ac, p_h, Bool.or_eq_true, Bool.and_eq_true, beq_iff_eq] at q z
    omega
  · intro k i q z
    simp only [p_ar, p_hr, Bool.or_eq_true, Bool.and_eq_true, beq_iff_eq] at q z
    omega
  · intro k i q z
    simp only [p_ac, qD, Bool.or_eq_true, Bool.and_eq_true, beq_iff_eq] at q z
    omega
  · intro k i q z
    simp only [p_ar, rD, Bool.or_eq_true, Bool.and_eq_true, beq_iff_eq] at q z
    omega
theorem ac_cO : ∀ k i, p_ac k i = true → isR k = false := fun k i q => by
  simp only [p_ac, Bool.or_eq_true, Bool.and_eq_true, beq_iff_eq] at q
  exact decide_eq_false (by omega)
theorem ar_rO : ∀ k i, p_ar k i = true → isR k = true := fun k i q => by
  simp only [p_ar, Bool.or_eq_true, Bool.and_eq_true, beq_iff_eq] at q
  exact decide_eq_true (by omega)
theorem add_full (N : Nat) {μ : am_M} (h : μ.1 1 0 1 = nI 6) (x y z v : Int32) : f_X5_addThing N x y z v μ = some (-3, μ) := by
  unfold f_X5_addThing f_X5_addThing_0
  rw [h, if_neg (by decide)]
theorem thing_ag (N : Nat) (x y z : Int32) : AG (f_X9_thing N x y z) (f_X10_thing N x y z) := by
  intro μ ν h
  have no : ∃ r μ' ν', some ((-1 : Int32), μ) = some (r, μ') ∧ some ((-1 : Int32), ν) = some (r, ν') ∧ AL μ' ν' ∧ cO μ μ' ∧ rO ν ν' := ⟨_, μ, ν, rfl, rfl, h, cO.rf, rO.rf⟩
  unfold f_X9_thing f_X9_thing_0 f_X10_thing f_X10_thing_0
  simp only [w_cls, w_ref N x 0 999 0 999 (by decide) (by decide), bd_some, gI]
  by_cases c1 : 0 ≤ x ∧ x ≤ 999
  · rw [if_pos c1, if_pos c1]
    simp only [w_cls, w_ref N y 0 9999 0 9999 (by decide) (by decide), bd_some, gI]
    by_cases c2 : 0 ≤ y ∧ y ≤ 9999
    · rw [if_pos c2, if_pos c2]
      simp only [two_ref, bd_some, gI]
      by_cases c3 : 0 ≤ z ∧ z ≤ 99
      · rw [if_pos c3, if_pos c3]
        obtain ⟨v0, k0, rfl⟩ := nI_of2 (M := 999) (n := 999) (by decide) (Int32.not_lt.mpr c1.1) c1.2
        obtain ⟨j, hj, rfl⟩ := nI_of2 (M := 9999) (n := 9999) (by decide) (Int32.not_lt.mpr c2.1) c2.2
        obtain ⟨v3, k3, rfl⟩ := nI_of2 (M := 99) (n := 99) (by decide) (Int32.not_lt.mpr c3.1) c3.2
        obtain ⟨T, hT, t1, t2, t3⟩ := add_2 N h
        rw [li_100, pk_div (by omega) (by omega) (by omega), rem_nI (by omega) (by omega) (by omega), t2]
        by_cases q : T = 6
        · subst q
          rw [add_full N t1, bd_some, if_pos (by decide)]
          exact ⟨_, μ, ν, rfl, rfl, h, cO.rf, rO.rf⟩
        · obtain ⟨μ', ν', e1, e2, e3, e4, e5, e6⟩ := t3 (by omega) v0 (j / 100) (j % 100) v3 k0 (by omega) (by omega) k3
          rw [if_neg (by rw [li_6]; exact fun z => q ((nI_eq (by omega) (by omega)).mp z)), e1, e2, bd_some, bd_some, e3, nI_pred]
          exact ⟨_, μ', ν', rfl, rfl, e4, e5.cO ac_cO, e6.rO ar_rO⟩
      · rw [if_neg c3, if_neg c3]; exact no
    · rw [if_neg c2, if_neg c2]; exact no
  · rw [if_neg c1, if_neg c1]; exact no
def ns (a : Nat → Nat → Nat) (S v4 v5 v6 v7 v8 : Nat) : Nat → Nat → Nat := fun c i => if i = S then (if c = 4 then v4 else if c = 5 then v5 else if c = 6 then v6 else if c = 7 then v7 else if c = 8 then v8 else a c i) else a c i
theorem BD_ns {T S : Nat} {a : Nat → Nat → Nat} {W : Nat} (h : BD T S a W) (hS : S < 5) {v4 v5 v6 v7 v8 : Nat} (h4 : v4 ≤ 99) (h41 : 1 ≤ v4) (h5 : v5 ≤ 99) (h6 : v6 ≤ 99) (h7 : v7 ≤ 3) (h8 : v8 < W) : BD T (S + 1) (ns a S v4 v5 v6 v7 v8) W := by
  obtain ⟨b1, b2, b3, b4, b5⟩ := h
  refine ⟨b1, by omega, b3, fun i => ?_, fun s hs => ?_⟩
  · have := b4 i
    unfold ns
    by_cases q : i = S
    · simp only [if_pos q]; simp; omega
    · simp only [if_neg q]; exact this
  · unfold ns
    by_cases q : s = S
    · simp only [if_pos q]; simp; omega
    · simp only [if_neg q]; exact b5 s (by omega)
def p_sc (k i : Nat) : Bool := k == 316 || (k == 1 && i == 2)
def p_sr (k i : Nat) : Bool := k == 160 || k == 169 || k == 170 || k == 171 || k == 172 || (k == 10 && i == 8)
set_option maxHeartbeats 1000000 in
theorem addSort_c (N : Nat) {μ : am_M} {T S : Nat} {a : Nat → Nat → Nat} {W : Nat} {tx : Nat → tx_T} (h : Cv μ T S a W tx) (hS : S < 5) {v4 pb bw : Nat} (h4 : v4 ≤ 99) (h41 : 1 ≤ v4) (hp : pb ≤ 9999) (hb : bw ≤ 39) (h8 : bw % 10 < W) :
    ∃ μ', f_X5_addSort N (nI v4) (nI pb) (nI bw) μ = some (nI S, μ') ∧ fr p_sc μ μ' ∧ Cv μ' T (S + 1) (ns a S v4 (pb / 100) (pb % 100) (bw / 10) (bw % 10)) W tx := by
  obtain ⟨b1, g2, g3, g4, g5, g6, g7, g8⟩ := h
  unfold f_X5_addSort f_X5_addSort_0
  rw [g3, if_pos (by rw [li_5]; exact (nI_ltI (by omega) (by omega)).mpr hS), li_100, li_10, pk_div (by omega) (by omega) (by omega), rem_nI (by omega) (by omega) (by omega), pk_div (by omega) (by omega) (by omega), rem_nI (by omega) (by omega) (by omega), li_4, write_v N (by omega) (by omega), bd_some]
  simp only [ui1, Nat.reduceEqDiff, false_and, if_false, g3]
  rw [li_5, write_v N (by omega) (by omega), bd_some]
  simp only [ui1, Nat.reduceEqDiff, false_and, if_false, g3]
  rw [li_6, write_v N (by omega) (by omega), bd_some]
  simp only [ui1, Nat.reduceEqDiff, false_and, if_false, g3]
  rw [li_7, write_v N (by omega) (by omega), bd_some]
  simp only [ui1, Nat.reduceEqDiff, false_and, if_false, g3]
  rw [li_8, write_v N (by omega) (by omega), bd_some]
  simp only [ui1, Nat.reduceEqDiff, false_and, if_false, g3, am_nme, nI_1]
  have hF : fr p_sc μ (am_ui (am_ui (am_ui (am_ui (am_ui (am_ui μ 316 4 S (nI v4)) 316 5 S (nI (pb / 100))) 316 6 S (nI (pb % 100))) 316 7 S (nI (bw / 10))) 316 8 S (nI (bw % 10))) 1 0 2 (nI (S + 1))) := (((((fr.rf.ui rfl).ui rfl).ui rfl).ui rfl).ui rfl).ui rfl
  refine ⟨_, rfl, hF, BD_ns b1 hS h4 h41 (by omega) (by omega) (by omega) h8, (hF.1 1 0 1 rfl).trans g2, by simp [ui1], (hF.1 4 0 2 rfl).trans g4, fun c i hc hi => ?_, fun c i hc hc2 hi => ?_, fun w hw => ⟨(g7 w hw).1, (hF.1 65 0 w rfl).trans (g7 w hw).2.1, fun j hj => (hF.1 364 w j rfl).trans ((g7 w hw).2.2 j hj)⟩, fun t ht => (hF.1 384 t 0 rfl).trans (g8 t ht)⟩
  · have := g5 c i hc hi
    have n4 : c ≠ 4 := by omega
    have n5 : c ≠ 5 := by omega
    have n6 : c ≠ 6 := by omega
    have n7 : c ≠ 7 := by omega
    have n8 : c ≠ 8 := by omega
    unfold ns
    simp only [ui1, Nat.reduceEqDiff, false_and, if_false, n4, n5, n6, n7, n8, and_false, ite_self]
    exact this
  · unfold ns
    by_cases q : i = S
    · subst q
      rcases (by omega : c = 4 ∨ c = 5 ∨ c = 6 ∨ c = 7 ∨ c = 8) with r | r | r | r | r <;> subst r <;> simp [ui1]
    · have := g6 c i hc hc2 (by omega)
      simp only [ui1, Nat.reduceEqDiff, false_and, if_false, q, and_false]
      exact this
def sr_m (μ : am_M) (S : Nat) (v4 v5 v6 v7 v8 : Int32) : am_M := am_ui (am_ui (am_ui (am_ui (am_ui (am_ui (am_ui μ 169 0 S v4) 160 0 (18 + S) v5) 160 0 (23 + S) v6) 170 0 S v7) 171 0 S v8) 172 0 S 0) 10 0 8 (nI (S + 1))
theorem sort_r (N : Nat) {μ : am_M} {T S : Nat} {a : Nat → Nat → Nat} {W : Nat} {tx : Nat → tx_T} (h : Rv μ T S a W tx) (hS : S < 5) {v4 v5 v6 v7 v8 : Nat} (h4 : v4 ≤ 99) (h41 : 1 ≤ v4) (h5 : v5 ≤ 99) (h6 : v6 ≤ 99) (h7 : v7 ≤ 3) (h8 : v8 < W) :
    fr p_sr μ (sr_m μ S (nI v4) (nI v5) (nI v6) (nI v7) (nI v8)) ∧ Rv (sr_m μ S (nI v4) (nI v5) (nI v6) (nI v7) (nI v8)) T (S + 1) (ns a S v4 v5 v6 v7 v8) W tx := by
  obtain ⟨b1, g2, g3, g4, g5, g6, g7, g8⟩ := h
  have hT6 := b1.1
  have hF : fr p_sr μ (sr_m μ S (nI v4) (nI v5) (nI v6) (nI v7) (nI v8)) := ((((((fr.rf.ui rfl).ui rfl).ui rfl).ui rfl).ui rfl).ui rfl).ui rfl
  have e : ∀ j, j ≠ 18 + S → j ≠ 23 + S → (sr_m μ S (nI v4) (nI v5) (nI v6) (nI v7) (nI v8)).1 160 0 j = μ.1 160 0 j := fun j n1 n2 => by
    unfold sr_m
    simp only [ui1, Nat.reduceEqDiff, false_and, if_false, n1, n2, and_false]
  refine ⟨hF, BD_ns b1 hS h4 h41 h5 h6 h7 h8, (hF.1 10 0 6 rfl).trans g2, by simp [sr_m, ui1], (hF.1 10 0 15 rfl).trans g4, fun i hi => ?_, fun s hs => ?_, fun w hw => ⟨(g7 w hw).1, (hF.1 177 0 w rfl).trans (g7 w hw).2.1, fun j hj => (hF.1 176 0 _ rfl).trans ((g7 w hw).2.2 j hj)⟩, (hF.1 10 0 29 rfl).trans g8⟩
  · obtain ⟨k1, k2, k3, k4⟩ := g5 i hi
    unfold ns
    refine ⟨?_, ?_, ?_, ?_⟩
    · rw [e _ (by omega) (by omega), k1]; simp
    · rw [e _ (by omega) (by omega), k2]; simp
    · rw [e _ (by omega) (by omega), k3]; simp
    · rw [hF.1 167 0 i rfl, k4]; simp
  · by_cases q : s = S
    · subst q
      unfold ns sr_m
      refine ⟨?_, ?_, ?_, ?_, ?_⟩
      · simp [ui1]
      · simp only [ui1, Nat.reduceEqDiff, false_and, if_false, show ¬ 18 + s = 23 + s by omega, and_false]
        simp
      · simp [ui1]
      · simp [ui1]
      · simp [ui1]
    · obtain ⟨k1, k2, k3, k4, k5⟩ := g6 s (by omega)
      unfold ns
      simp only [q, if_false]
      refine ⟨?_, (e _ (by omega) (by omega)).trans k2, (e _ (by omega) (by omega)).trans k3, ?_, ?_⟩
      · rw [← k1]; unfold sr_m; simp only [ui1, Nat.reduceEqDiff, false_and, if_false, q, and_false]
      · rw [← k4]; unfold sr_m; simp only [ui1, Nat.reduceEqDiff, false_and, if_false, q, and_false]
      · rw [← k5]; unfold sr_m; simp only [ui1, Nat.reduceEqDiff, false_and, if_false, q, and_false]
set_option maxHeartbeats 1000000 in
theorem sort_ag (N : Nat) (x y z : Int32) : AG (f_X9_sort N x y z) (f_X10_sort N x y z) := by
  intro μ ν h
  have no : ∃ r μ' ν', some ((-1 : Int32), μ) = some (r, μ') ∧ some ((-1 : Int32), ν) = some (r, ν') ∧ AL μ' ν' ∧ cO μ μ' ∧ rO ν ν' := ⟨_, μ, ν, rfl, rfl, h, cO.rf, rO.rf⟩
  have h0 := h
  obtain ⟨⟨T, S, a, W, tx, d, u, E, D, h1, h2, h3, h4, h5, h6, h7, h8⟩, hB, hD⟩ := h
  have hT6 := h1.1.1
  have hS5 := h1.1.2.1
  have hW4 := h1.1.2.2.1
  unfold f_X9_sort f_X9_sort_0 f_X10_sort f_X10_sort_0 f_X8_known f_X8_known_0
  simp only [w_cls, w_ref N x 1 99 1 99 (by decide) (by decide), bd_some, gI]
  by_cases c1 : 1 ≤ x ∧ x ≤ 99
  · rw [if_pos c1, if_pos c1]
    simp only [w_cls, w_ref N y 0 9999 0 9999 (by decide) (by decide), bd_some, gI]
    by_cases c2 : 0 ≤ y ∧ y ≤ 9999
    · rw [if_pos c2, if_pos c2]
      by_cases c3 : z < 0
      · rw [if_neg (fun q => absurd c3 (Int32.not_lt.mpr q.1)), if_pos c3]; exact no
      · rw [if_neg c3]
        obtain ⟨bw, hbw, rfl⟩ := nI_of c3
        obtain ⟨v4, k41, k4, rfl⟩ := rd_ex (M := 99) (K := 99) (by decide) c1
        obtain ⟨pb, hpb, rfl⟩ := nI_of2 (M := 9999) (n := 9999) (by decide) (Int32.not_lt.mpr c2.1) c2.2
        have e39 : (0 ≤ nI bw ∧ nI bw ≤ 39) ↔ bw ≤ 39 := by
          rw [li_39, nI_leI (by omega) (by omega)]
          exact ⟨fun q => q.2, fun q => ⟨nI_pos' (by omega), q⟩⟩
        rw [li_10, pk_div (by omega) (by omega) (by omega), rem_nI (by omega) (by omega) (by omega), h1.2.2.2.1, h2.2.2.2.1, h2.2.2.1]
        by_cases c4 : bw ≤ 39
        · rw [if_pos (e39.mpr c4), if_neg (show ¬ (3 : Int32) < nI (bw / 10) by rw [li_3, nI_ltI (by omega) (by omega)]; omega)]
          by_cases c5 : bw % 10 < W
          · rw [if_pos ((nI_ltI (by omega) (by omega)).mpr c5), if_pos ((nI_ltI (by omega) (by omega)).mpr c5)]
            by_cases c6 : S = 5
            · subst c6
              rw [if_pos (by decide)]
              unfold f_X5_addSort f_X5_addSort_0
              rw [h1.2.2.1, if_neg (by decide), bd_some]
              exact ⟨_, μ, ν, rfl, rfl, h0, cO.rf, rO.rf⟩
            · have hS : S < 5 := by omega
              obtain ⟨μ', e1, e2, e3⟩ := addSort_c N h1 hS k4 k41 hpb c4 c5
              obtain ⟨g2, g3⟩ := sort_r N h2 hS (v5 := pb / 100) (v6 := pb % 100) (v7 := bw / 10) k4 k41 (by omega) (by omega) (by omega) c5
              rw [if_neg (by rw [li_5]; exact fun z => c6 ((nI_eq (by omega) (by omega)).mp z)), e1, bd_some, gd_nI (by omega) (by omega), li_100, pk_div (by omega) (by omega) (by omega), rem_nI (by omega) (by omega) (by omega)]
              simp only [am_nme, ui1, Nat.reduceEqDiff, false_and, if_false, h2.2.2.1]
              rw [gdp_18 (by omega) (by omega), gdp_23 (by omega) (by omega), gd_nI (by omega) (by omega), gd_nI (by omega) (by omega), gd_nI (by omega) (by omega), nI_1]
              simp only [and_self, if_true, nI_pred]
              refine ⟨nI S, μ', sr_m ν S (nI v4) (nI (pb / 100)) (nI (pb % 100)) (nI (bw / 10)) (nI (bw % 10)), rfl, rfl, ⟨⟨T, S + 1, _, W, tx, d, u, E, D, e3, g3, h3.ag (e2.nt ?_), h4.ag (g2.nt ?_), h5.up (by omega) (by omega), h6.ag (fun s => e2.1 99 0 s rfl), fun s hs => ⟨(h7 s hs).1, ?_⟩, fun s hs => h8 s (by omega)⟩, hB.ag (e2.1 3 0 1 rfl) (fun j => e2.1 48 0 j rfl) (g2.1 10 0 14 rfl) (fun j => g2.1 173 0 j rfl), hD.ag (e2.nt ?_) (fun r i => by rw [e2.2]) (g2.nt ?_) (fun i => by rw [g2.2])⟩, e2.cO ?_, g2.rO ?_⟩
              · intro k i q z
                simp only [p_sc, p_h, Bool.or_eq_true, Bool.and_eq_true, beq_iff_eq] at q z
                omega
              · intro k i q z
                simp only [p_sr, p_hr, Bool.or_eq_true, Bool.and_eq_true, beq_iff_eq] at q z
                omega
              · by_cases q : s = S
                · subst q
                  rw [h8 s (by omega) hs, bdg_0]
                  simp [sr_m, ui1]; rfl
                · rw [← (h7 s hs).2]
                  unfold sr_m
                  simp only [ui1, Nat.reduceEqDiff, false_and, if_false, q, and_false]
              · intro k i q z
                simp only [p_sc, qD, Bool.or_eq_true, Bool.and_eq_true, beq_iff_eq] at q z
                omega
              · intro k i q z
                simp only [p_sr, rD, Bool.or_eq_true, Bool.and_eq_true, beq_iff_eq] at q z
                omega
              · intro k i q
                simp only [p_sc, Bool.or_eq_true, Bool.and_eq_true, beq_iff_eq] at q
                exact decide_eq_false (by omega)
              · intro k i q
                simp only [p_sr, Bool.or_eq_true, Bool.and_eq_true, beq_iff_eq] at q
                exact decide_eq_true (by omega)
          · rw [if_neg (fun q => c5 ((nI_ltI (by omega) (by omega)).mp q)), if_neg (fun q => c5 ((nI_ltI (by omega) (by omega)).mp q))]; exact no
        · rw [if_neg (fun q => c4 (e39.mp q)), if_pos (by rw [li_3, nI_ltI (by omega) (by omega)]; omega)]; exact no
    · rw [if_neg c2, if_neg c2]; exact no
  · rw [if_neg c1, if_neg c1]; exact no
