theorem baskets_r (N : Nat) {μ : am_M} {T : Nat} (hT : T ≤ 6) (h : μ.1 10 0 6 = nI T) : f_X10_baskets N μ = some (nI (4 ^ T), μ) := by
  have h4 : 4 ^ T ≤ 4 ^ 6 := Nat.pow_le_pow_right (by decide) hT
  have h46 : (4 : Nat) ^ 6 = 4096 := by decide
  unfold f_X10_baskets f_X10_baskets_0
  rw [h, li_2, pk_mul, li_1, pk_shlN _ (2 * T) (sh31 _ (by omega)) (by rw [pow42]; omega), pow42, Nat.one_mul]
def rST (μ : am_M) (T : Nat) (w : Nat → Nat → Nat) (c p : Nat → Nat) : Option Nat → Prop
  | none => True
  | some b => μ.1 10 0 30 = nI (bw w T b) ∧ μ.1 10 0 31 = nI (bc c T b) ∧ μ.1 10 0 32 = nI (bc p T b)
theorem rST.of {μ μ' : am_M} {T : Nat} {w : Nat → Nat → Nat} {c p : Nat → Nat} {cur : Option Nat} (h : rST μ T w c p cur) (hf : fr p_un μ μ') : rST μ' T w c p cur := by
  cases cur with
  | none => trivial
  | some b => exact ⟨(hf.1 10 0 30 rfl).trans h.1, (hf.1 10 0 31 rfl).trans h.2.1, (hf.1 10 0 32 rfl).trans h.2.2⟩
def cI : Option Nat → Int32
  | none => -1
  | some b => nI b
/-- what findBest leaves -/
def RS (μ : am_M) (T : Nat) (w : Nat → Nat → Nat) (c p : Nat → Nat) (b : Nat) : Prop := μ.1 10 0 30 = nI (bw w T b) ∧ μ.1 10 0 31 = nI (bc c T b) ∧ μ.1 10 0 32 = nI (bc p T b) ∧ ∀ i, i < T → μ.1 185 0 i = nI (dg T b i)
theorem fb_lp (N : Nat) (hN : 130 ≤ N) {T : Nat} (hT : T ≤ 6) {w : Nat → Nat → Nat} {c p : Nat → Nat} (hw : ∀ t m, m ≤ 3 → w t m ≤ 2997) (hc : ∀ t, c t ≤ 10000) (hp : ∀ t, p t ≤ 99) {pu bo : Nat} (hpu : pu < 2147483648) (hbo : bo < 2147483648) {μ0 : am_M} :
    ∀ (n m b : Nat) (cur : Option Nat) (μ : am_M), b + n = 4 ^ T → n + 1 ≤ m → RC μ T w c p → fr p_fb μ0 μ → rST μ T w c p cur → Bst w c p T (fun b => bc c T b ≤ pu ∧ bc p T b ≤ bo) (fun z => z < b) cur →
      ∃ μ' b1, f_X10_findBest_11_lp N m (nI pu) (nI bo) (cI cur) (nI b) μ = some (nI b1, μ') ∧ fr p_fb μ0 μ' ∧ RS μ' T w c p b1 ∧ NB w c p T pu bo b1 ∧ RC μ' T w c p
  | n, 0, b, cur, μ, h1, h2, h3, h4, h5, h6 => by omega
  | n, m + 1, b, cur, μ, h1, h2, h3, h4, h5, h6 => by
    have h4T : 4 ^ T ≤ 4 ^ 6 := Nat.pow_le_pow_right (by decide) hT
    have h46 : (4 : Nat) ^ 6 = 4096 := by decide
    unfold f_X10_findBest_11_lp f_X10_findBest_11 f_X10_findBest_145
    rw [baskets_r N hT h3.1, bd_some]
    cases n with
    | zero =>
      rw [if_pos ((nI_leI (by omega) (by omega)).mpr (by omega))]
      have h7 := Bst_congr h6 (py' := fun b => bc c T b ≤ pu ∧ bc p T b ≤ bo) (X' := fun _ => True) (fun _ _ => Iff.rfl) (fun z hz => ⟨fun _ => trivial, fun _ => by omega⟩)
      cases cur with
      | none =>
        exfalso
        have h0 : ∀ (i : Nat) (f : Nat → Nat), bc f i 0 = 0 := by
          intro i f
          induction i with
          | zero => rfl
          | succ i ih => show bc f i (0 / 4) + (0 % 4) * f i = 0; simp [ih]
        exact h7 0 trivial (Nat.pow_pos (by decide)) ⟨by rw [h0]; exact Nat.zero_le _, by rw [h0]; exact Nat.zero_le _⟩
      | some b1 =>
        obtain ⟨μ', e1, e2, e3, e4, e5, e6⟩ := unpack_r N hN hT h3 (b := b1) h7.2.1
        show ∃ μ' b1', am_bd (f_X10_unpack N (nI b1) μ) _ = _ ∧ _
        rw [e1, bd_some]
        have h5' := h5.of e2
        exact ⟨μ', b1, rfl, h4.tr (un_fb e2), ⟨h5'.1, h5'.2.1, h5'.2.2, e3⟩, h7, h3.of e2 rfl (fun _ => rfl) rfl (fun _ => rfl)⟩
    | succ n =>
      have hb : b < 4 ^ T := by omega
      rw [if_neg (fun z => by have := (nI_leI (by omega) (by omega)).mp z; omega)]
      obtain ⟨μ1, e1, e2, e3, e4, e5, e6⟩ := unpack_r N hN hT h3 hb
      rw [e1, bd_some, e4, e5, e6]
      have W1 : bw w T b ≤ 17982 := Nat.le_trans (bw_le w 2997 hw T b) (by omega)
      have C1 : bc c T b ≤ 180000 := Nat.le_trans (bc_le c 10000 hc T b) (by omega)
      have P1 : bc p T b ≤ 1782 := Nat.le_trans (bc_le p 99 hp T b) (by omega)
      have hR1 : RC μ1 T w c p := h3.of e2 rfl (fun _ => rfl) rfl (fun _ => rfl)
      have hF1 : fr p_fb μ0 μ1 := h4.tr (un_fb e2)
      have hS1 := h5.of e2
      have stay : (¬ (bc c T b ≤ pu ∧ bc p T b ≤ bo) ∨ ∃ b0, cur = some b0 ∧ ¬ beats w c p T b b0) → ∃ μ' b1, f_X10_findBest_11_lp N m (nI pu) (nI bo) (cI cur) (nI b + 1) μ1 = some (nI b1, μ') ∧ fr p_fb μ0 μ' ∧ RS μ' T w c p b1 ∧ NB w c p T pu bo b1 ∧ RC μ' T w c p := by
        intro hst
        rw [nI_1]
        refine fb_lp N hN hT hw hc hp hpu hbo n m (b + 1) cur μ1 (by omega) (by omega) hR1 hF1 hS1 (Bst_up hb h6 cur (fun _ => rfl) (fun hpy => ?_))
        rcases hst with hst | ⟨b0, hb0, hnb⟩
        · exact absurd hpy hst
        · refine ⟨fun b0' hb0' => ?_, fun q => by rw [q] at hb0; cases hb0⟩
          rw [hb0] at hb0'; cases hb0'
          exact Or.inr ⟨hnb, hb0⟩
      have take : (bc c T b ≤ pu ∧ bc p T b ≤ bo) → (∀ b0, cur = some b0 → beats w c p T b b0) → ∃ μ' b1, f_X10_findBest_110 N (f_X10_findBest_11_lp N m) (nI pu) (nI bo) (cI cur) (nI b) 1 μ1 = some (nI b1, μ') ∧ fr p_fb μ0 μ' ∧ RS μ' T w c p b1 ∧ NB w c p T pu bo b1 ∧ RC μ' T w c p := by
        intro hpy hbt
        unfold f_X10_findBest_110 f_X10_findBest_145
        rw [if_neg (by decide), nI_1]
        simp only [am_nme]
        have hF : fr p_fb μ1 (am_ui (am_ui (am_ui μ1 10 0 30 (μ1.1 10 0 26)) 10 0 31 ((am_ui μ1 10 0 30 (μ1.1 10 0 26)).1 10 0 27)) 10 0 32 ((am_ui (am_ui μ1 10 0 30 (μ1.1 10 0 26)) 10 0 31 ((am_ui μ1 10 0 30 (μ1.1 10 0 26)).1 10 0 27)).1 10 0 28)) := ((fr.rf.ui rfl).ui rfl).ui rfl
        have hR2 : RC (am_ui (am_ui (am_ui μ1 10 0 30 (μ1.1 10 0 26)) 10 0 31 ((am_ui μ1 10 0 30 (μ1.1 10 0 26)).1 10 0 27)) 10 0 32 ((am_ui (am_ui μ1 10 0 30 (μ1.1 10 0 26)) 10 0 31 ((am_ui μ1 10 0 30 (μ1.1 10 0 26)).1 10 0 27)).1 10 0 28)) T w c p := by
          have hF3 : fr (fun k i => k == 10 && (i == 30 || i == 31 || i == 32)) μ1 (am_ui (am_ui (am_ui μ1 10 0 30 (μ1.1 10 0 26)) 10 0 31 ((am_ui μ1 10 0 30 (μ1.1 10 0 26)).1 10 0 27)) 10 0 32 ((am_ui (am_ui μ1 10 0 30 (μ1.1 10 0 26)) 10 0 31 ((am_ui μ1 10 0 30 (μ1.1 10 0 26)).1 10 0 27)).1 10 0 28)) := ((fr.rf.ui rfl).ui rfl).ui rfl
          exact hR1.of hF3 rfl (fun _ => rfl) rfl (fun _ => rfl)
        refine fb_lp N hN hT hw hc hp hpu hbo n m (b + 1) (some b) _ (by omega) (by omega) hR2 (hF1.tr hF) ⟨by simp [ui1, e4], by simp [ui1, e5], by simp [ui1, e6]⟩ (Bst_up hb h6 (some b) (fun q => absurd hpy q) (fun _ => ⟨fun b0 hb0 => Or.inl ⟨hbt b0 hb0, rfl⟩, fun _ => rfl⟩))
      have no0 : ∀ b0, cur = some b0 → ¬ beats w c p T b b0 → ∃ μ' b1, f_X10_findBest_110 N (f_X10_findBest_11_lp N m) (nI pu) (nI bo) (cI cur) (nI b) 0 μ1 = some (nI b1, μ') ∧ fr p_fb μ0 μ' ∧ RS μ' T w c p b1 ∧ NB w c p T pu bo b1 ∧ RC μ' T w c p := by
        intro b0 hb0 hnb
        unfold f_X10_findBest_110 f_X10_findBest_145
        rw [if_pos rfl]
        exact stay (Or.inr ⟨b0, hb0, hnb⟩)
      unfold f_X10_findBest_105 f_X10_findBest_109
      by_cases d1 : pu < bc c T b
      · rw [if_pos ((nI_ltI hpu (by omega)).mpr d1)]
        exact stay (Or.inl (by omega))
      · rw [if_neg (fun z => d1 ((nI_ltI hpu (by omega)).mp z))]
        by_cases d2 : bc p T b ≤ bo
        · rw [if_pos ((nI_leI (by omega) hbo).mpr d2)]
          cases hcur : cur with
          | none =>
            have := take ⟨by omega, d2⟩ (fun b0 q => by rw [hcur] at q; cases q)
            rw [hcur] at this
            rw [if_pos (show cI none < 0 by decide)]
            exact this
          | some b0 =>
            rw [hcur] at hS1
            obtain ⟨s1, s2, s3⟩ := hS1
            have W2 : bw w T b0 ≤ 17982 := Nat.le_trans (bw_le w 2997 hw T b0) (by omega)
            have C2 : bc c T b0 ≤ 180000 := Nat.le_trans (bc_le c 10000 hc T b0) (by omega)
            have P2 : bc p T b0 ≤ 1782 := Nat.le_trans (bc_le p 99 hp T b0) (by omega)
            have hb0 : b0 < 4096 := by rw [hcur] at h6; have := h6.2.1; omega
            have tk : beats w c p T b b0 → _ := fun hbt => take ⟨by omega, d2⟩ (fun b0' q => by rw [hcur] at q; cases q; exact hbt)
            have nt := no0 b0 hcur
            rw [hcur] at tk nt
            have hneg : ¬ (cI (some b0) < 0) := nI_pos (by omega)
            rw [if_neg hneg, s1, s2, s3]
            simp (disch := omega) only [nI_ltI, nI_leI, nI_eq]
            by_cases g1 : bw w T b0 < bw w T b
            · rw [if_pos g1]; exact tk (by unfold beats; omega)
            · rw [if_neg g1]
              by_cases g2 : bw w T b = bw w T b0
              · rw [if_pos g2]
                by_cases g3 : bc c T b < bc c T b0
                · rw [if_pos g3]; exact tk (by unfold beats; omega)
                · rw [if_neg g3]
                  by_cases g4 : bc c T b = bc c T b0
                  · rw [if_pos g4]
                    by_cases g5 : bc p T b0 ≤ bc p T b
                    · rw [if_pos g5]; exact nt (by unfold beats; omega)
                    · rw [if_neg g5]; exact tk (by unfold beats; omega)
                  · rw [if_neg g4]; exact nt (by unfold beats; omega)
              · rw [if_neg g2]; exact nt (by unfold beats; omega)
        · rw [if_neg (fun z => d2 ((nI_leI (by omega) hbo).mp z))]
          exact stay (Or.inl (by omega))
/-- findBest, with the view's costs -/
theorem findBest_r (N : Nat) (hN : 5000 ≤ N) {μ : am_M} {T S : Nat} {a : Nat → Nat → Nat} {W : Nat} {tx : Nat → tx_T} (hC : Rv μ T S a W tx) {s : Nat} (hs : s < S) {pu bo : Nat} (hpu : pu < 2147483648) (hbo : bo < 2147483648) :
    ∃ μ' b, f_X10_findBest N (nI s) (nI pu) (nI bo) μ = some (nI b, μ') ∧ fr p_fb μ μ' ∧ RS μ' T (cwt (wf tx a T (a 1) (a 2) s)) (a 1) (a 2) b ∧ RW μ' T (cwt (wf tx a T (a 1) (a 2) s)) ∧ NB (cwt (wf tx a T (a 1) (a 2) s)) (a 1) (a 2) T pu bo b := by
  have hT6 := hC.1.1
  have hbd := hC.1.2.2.2.1
  have h4T : 4 ^ T ≤ 4 ^ 6 := Nat.pow_le_pow_right (by decide) hT6
  have h46 : (4 : Nat) ^ 6 = 4096 := by decide
  unfold f_X10_findBest f_X10_findBest_0
  obtain ⟨μ1, e1, e2, e3⟩ := lay_r N (by omega) hC hs
  have hC1 := hC.of (la_R e2)
  have hR : RC μ1 T (cwt (wf tx a T (a 1) (a 2) s)) (a 1) (a 2) := ⟨hC1.2.1, e3, a 1, 100, hC1.2.2.2.2.2.2.2, by decide, fun t ht => ⟨(hbd t).2.1, (hC1.2.2.2.2.1 t ht).2.1, by omega, (hC1.2.2.2.2.1 t ht).2.2.1⟩⟩
  have hwb : ∀ t m, m ≤ 3 → cwt (wf tx a T (a 1) (a 2) s) t m ≤ 2997 := fun t m hm => Nat.le_trans (cwt_le (wf_le tx a T (a 1) (a 2) s) t m) (by omega)
  rw [e1, bd_some, li_0]
  obtain ⟨μ2, b, g1, g2, g3, g4, g5⟩ := fb_lp N (by omega) hT6 hwb (fun t => by have := (hbd t).2.1; omega) (fun t => (hbd t).2.2.1) hpu hbo (4 ^ T) N 0 none μ1 (by omega) (by omega) hR fr.rf trivial (fun z hz => by omega)
  have g1' : f_X10_findBest_11_lp N N (nI pu) (nI bo) (-1) (nI 0) μ1 = some (nI b, μ2) := g1
  exact ⟨μ2, b, g1', (la_fb e2).tr g2, g3, g5.2.1, g4⟩
theorem purseOf_r (N : Nat) {μ : am_M} {T S : Nat} {a : Nat → Nat → Nat} {W : Nat} {tx : Nat → tx_T} (hC : Rv μ T S a W tx) {s : Nat} (hs : s < S) : f_X10_purseOf N (nI s) μ = some (nI (a 5 s), μ) := by
  have := hC.1.2.1
  unfold f_X10_purseOf f_X10_purseOf_0
  rw [gdp_18 (by omega) (by omega), (hC.2.2.2.2.2.1 s hs).2.1]
theorem pia_r (N : Nat) {μ : am_M} {T S : Nat} {a : Nat → Nat → Nat} {W : Nat} {tx : Nat → tx_T} (hC : Rv μ T S a W tx) {s : Nat} (hs : s < S) : f_X10_pointsInAll N (nI s) μ = some (nI (a 6 s + 10 * a 7 s), μ) := by
  have := hC.1.2.1
  obtain ⟨h1, h2, h3, h4, h5⟩ := hC.2.2.2.2.2.1 s hs
  unfold f_X10_pointsInAll f_X10_pointsInAll_0
  rw [gdp_23 (by omega) (by omega)]
  simp (disch := omega) only [gd_nI, h3, h4, li_10, pk_mul, nI_add]
