/-! changed, free -/
theorem plain_c (N : Nat) (hN : 130 ≤ N) {μ : am_M} {T S : Nat} {a : Nat → Nat → Nat} {W : Nat} {tx : Nat → tx_T} (hC : Cv μ T S a W tx) {s b : Nat} (hs : s < S) (hB : CB a tx T (a 1) (a 2) s b) :
    ∃ μ', f_X0_plainWorth N (nI s) μ = some (nI (bw (cwt (wf tx a T (a 1) (a 2) s)) T b), μ') ∧ fr p_ex μ μ' := by
  have hb := hC.1.2.2.2.1
  unfold f_X0_plainWorth f_X0_plainWorth_0
  obtain ⟨μ1, e1, e2, e3⟩ := recall_C N hN hC
  obtain ⟨μ3, μ4, e4, e5, e6, e7, -⟩ := wc_c N hN (hC.of (rc_C e2)) (fun t => (hb t).2.1) (fun t => (hb t).2.2.1) e3 hs hB
  rw [e1, bd_some, e4, bd_some, e5, bd_some, e7]
  exact ⟨μ4, rfl, (rc_ex e2).tr (wk_ex e6)⟩
theorem isRate_r (N : Nat) (x : Int32) (μ : am_M) : f_X10_isRate N x μ = some (if 1 ≤ x ∧ x ≤ 99 then nI 1 else nI 0, μ) := by
  unfold f_X10_isRate f_X10_isRate_0
  rw [w_ref N x 1 99 _ _ (by decide) (by decide), bd_some, z_ite]
theorem changed_q (N : Nat) (hN : 5000 ≤ N) {T S : Nat} {a : Nat → Nat → Nat} {W : Nat} {tx : Nat → tx_T} (x y z : Int32) : Q2 T S a W tx (f_X9_changed N x y z) (f_X10_changed N x y z) := by
  intro μ ν hC hR
  have hS5 := hC.1.2.1
  unfold f_X9_changed f_X9_changed_0 f_X10_changed f_X10_changed_0
  simp only [hasSort_c N hC.2.2.1, isSort_r N hR.2.2.1, bd_some, gI]
  by_cases c1 : IT S x
  · rw [if_pos c1, if_pos c1]
    simp only [w_cls, isRate_r, bd_some, gI]
    by_cases c2 : 1 ≤ y ∧ y ≤ 99
    · rw [if_pos c2, if_pos c2]
      simp only [w_ref N z 0 1 0 1 (by decide) (by decide), bd_some, gI]
      by_cases c3 : 0 ≤ z ∧ z ≤ 1
      · rw [if_pos c3, if_pos c3]
        obtain ⟨s, hs, rfl⟩ := IT_ex (by omega) c1
        obtain ⟨L, hL1, hL, rfl⟩ := rd_ex (K := 99) (by decide) c2
        obtain ⟨B, hB⟩ := CB_ex a tx T (a 1) (a 2)
        obtain ⟨X, hX⟩ := XB_ex a tx T
        obtain ⟨μ1, e1, e2, e3⟩ := exchange_c N (by omega) hC hs hL (hX s L)
        obtain ⟨μ2, e4, e5⟩ := plain_c N (by omega) (hC.of (ex_C e2)) hs (hB s)
        obtain ⟨ν1, g1, g2, g3⟩ := bestOf_r N hN hR hs (hB s)
        obtain ⟨ν2, g4, g5, g6, g7⟩ := findChanged_r N hN (hR.of (fb_R g2)) hs hL (hX s L)
        have g30 : ν2.1 10 0 30 = _ := (g5.1 10 0 30 rfl).trans g3.1
        rw [e1, bd_some, g1, bd_some, g4, bd_some, e3.1, g6, g30]
        simp only [am_nme]
        by_cases d : z = 0
        · rw [if_pos d, if_pos d]; exact ⟨_, _, _, rfl, ex_C e2, rfl, (fb_R g2).tr (fc_R g5)⟩
        · rw [if_neg d, if_neg d, e4, bd_some]; exact ⟨_, _, _, rfl, (ex_C e2).tr (ex_C e5), rfl, (fb_R g2).tr (fc_R g5)⟩
      · rw [if_neg c3, if_neg c3]; exact ⟨_, _, _, rfl, fr.rf, rfl, fr.rf⟩
    · rw [if_neg c2, if_neg c2]; exact ⟨_, _, _, rfl, fr.rf, rfl, fr.rf⟩
  · rw [if_neg c1, if_neg c1]; exact ⟨_, _, _, rfl, fr.rf, rfl, fr.rf⟩
def pI (a : Nat → Nat → Nat) (s : Nat) : Nat := a 6 s + 10 * a 7 s
def hI (a : Nat → Nat → Nat) (s : Nat) : Nat := a 4 s * pI a s
def hX (a : Nat → Nat → Nat) (X : Nat → Nat → Nat) (T x s : Nat) : Nat := a 4 s * bc (a 2) T (X s x)
theorem hI_le {T S : Nat} {a : Nat → Nat → Nat} {W : Nat} (h : BD T S a W) (s : Nat) : hI a s ≤ 12771 := by
  have h1 := (h.2.2.2.1 s)
  have : a 4 s * pI a s ≤ 99 * 129 := Nat.mul_le_mul (by omega) (by unfold pI; omega)
  exact this
theorem hX_le {T S : Nat} {a : Nat → Nat → Nat} {W : Nat} (h : BD T S a W) (X : Nat → Nat → Nat) (x s : Nat) : hX a X T x s ≤ 176418 := by
  have h1 := (h.2.2.2.1 s)
  have h2 := bc_le (a 2) 99 (fun t => (h.2.2.2.1 t).2.2.1) T (X s x)
  have h3 := h.1
  have : a 4 s * bc (a 2) T (X s x) ≤ 99 * 1782 := Nat.mul_le_mul (by omega) (by omega)
  exact this
theorem pth_lp (N : Nat) {T S : Nat} {a : Nat → Nat → Nat} {W : Nat} {tx : Nat → tx_T} {μ : am_M} (hC : Cv μ T S a W tx) : ∀ (n m s : Nat), s + n = S → n + 1 ≤ m → f_X0_pointsThere_4_lp N m (nI (sN (hI a) s)) (nI s) μ = some (nI (sN (hI a) S), μ)
  | n, 0, s, h1, h2 => by omega
  | 0, m + 1, s, h1, h2 => by
    have hS5 := hC.1.2.1
    unfold f_X0_pointsThere_4_lp f_X0_pointsThere_4
    rw [hC.2.2.1, if_pos ((nI_leI (by omega) (by omega)).mpr (by omega))]
    have : s = S := by omega
    subst this; rfl
  | n + 1, m + 1, s, h1, h2 => by
    have hS5 := hC.1.2.1
    have hs : s < S := by omega
    unfold f_X0_pointsThere_4_lp f_X0_pointsThere_4
    rw [hC.2.2.1, if_neg (fun z => by have := (nI_leI (by omega) (by omega)).mp z; omega), li_4, at_cls N (by omega) (by omega), bd_some, pia_cls N (by omega), bd_some, hC.2.2.2.2.2.1 4 s (by omega) (by omega) hs, hC.2.2.2.2.2.1 6 s (by omega) (by omega) hs, hC.2.2.2.2.2.1 7 s (by omega) (by omega) hs, pk_mul, nI_add, pk_mul, nI_add, nI_1]
    simp only [am_nme]
    exact pth_lp N hC n m (s + 1) (by omega) (by omega)
theorem ptk_lp (N : Nat) (hN : 130 ≤ N) {T S : Nat} {a : Nat → Nat → Nat} {W : Nat} {tx : Nat → tx_T} {X : Nat → Nat → Nat} (hX_ : ∀ s x, XB a tx T s x (X s x)) {x : Nat} (hx : x ≤ 99) {μ0 : am_M} : ∀ (n m s : Nat) (μ : am_M), s + n = S → n + 1 ≤ m → Cv μ T S a W tx → fr p_ex μ0 μ → ∃ μ', f_X0_pointsTaken_4_lp N m (nI x) (nI (sN (hX a X T x) s)) (nI s) μ = some (nI (sN (hX a X T x) S), μ') ∧ fr p_ex μ0 μ'
  | n, 0, s, μ, h1, h2, hC, hF => by omega
  | 0, m + 1, s, μ, h1, h2, hC, hF => by
    have hS5 := hC.1.2.1
    unfold f_X0_pointsTaken_4_lp f_X0_pointsTaken_4
    rw [hC.2.2.1, if_pos ((nI_leI (by omega) (by omega)).mpr (by omega))]
    have : s = S := by omega
    subst this; exact ⟨μ, rfl, hF⟩
  | n + 1, m + 1, s, μ, h1, h2, hC, hF => by
    have hS5 := hC.1.2.1
    have hs : s < S := by omega
    obtain ⟨μ1, e1, e2, e3⟩ := exchange_c N hN hC hs hx (hX_ s x)
    have hC1 := hC.of (ex_C e2)
    unfold f_X0_pointsTaken_4_lp f_X0_pointsTaken_4
    rw [hC.2.2.1, if_neg (fun z => by have := (nI_leI (by omega) (by omega)).mp z; omega), e1, bd_some, li_4, at_cls N (by omega) (by omega), bd_some, hC1.2.2.2.2.2.1 4 s (by omega) (by omega) hs, e3.2.2.1, pk_mul, nI_add, nI_1]
    simp only [am_nme]
    exact ptk_lp N hN hX_ hx n m (s + 1) μ1 (by omega) (by omega) hC1 (hF.tr e2)
theorem sub_step (Y X h P I : Nat) : (nI Y - nI X) + nI h * (nI P - nI I) = nI (Y + h * P) - nI (X + h * I) := by
  rw [← nI_add, ← nI_add, ← pk_mul, ← pk_mul]
  grind
theorem r12_lp (N : Nat) (hN : 5000 ≤ N) {T S : Nat} {a : Nat → Nat → Nat} {W : Nat} {tx : Nat → tx_T} {X : Nat → Nat → Nat} (hX_ : ∀ s x, XB a tx T s x (X s x)) {x : Nat} (hx : x ≤ 99) {r : Int32 → am_M → Option (Int32 × am_M)} {μ0 : am_M} : ∀ (n m s : Nat) (μ : am_M), s + n = S → n + 1 ≤ m → Rv μ T S a W tx → fr p_fc μ0 μ → ∃ μ', f_X10_free_12_lp N r m (nI x) (nI (sN (hX a X T x) s) - nI (sN (hI a) s)) (nI s) μ = (if sN (hI a) S < sN (hX a X T x) S then r (nI (x + 1)) μ' else some (nI x, μ')) ∧ fr p_fc μ0 μ'
  | n, 0, s, μ, h1, h2, hC, hF => by omega
  | 0, m + 1, s, μ, h1, h2, hC, hF => by
    have hS5 := hC.1.2.1
    unfold f_X10_free_12_lp f_X10_free_12
    rw [hC.2.2.1, if_pos ((nI_leI (by omega) (by omega)).mpr (by omega)), nI_1]
    have : s = S := by omega
    subst this
    have b1 := sN_le (f := hI a) s (fun i _ => hI_le hC.1 i)
    have b2 := sN_le (f := hX a X T x) s (fun i _ => hX_le hC.1 X x i)
    have e : (0 < nI (sN (hX a X T x) s) - nI (sN (hI a) s)) ↔ sN (hI a) s < sN (hX a X T x) s := by
      rw [Int32.lt_iff_toInt_lt, pk_sub_toInt (by omega) (by omega)]
      have e0 : (0 : Int32).toInt = 0 := by decide
      omega
    refine ⟨μ, ?_, hF⟩
    by_cases c : sN (hI a) s < sN (hX a X T x) s
    · rw [if_pos c, if_pos (e.mpr c)]
    · rw [if_neg c, if_neg (fun q => c (e.mp q))]
  | n + 1, m + 1, s, μ, h1, h2, hC, hF => by
    have hS5 := hC.1.2.1
    have hs : s < S := by omega
    obtain ⟨μ1, e1, e2, e3, e4⟩ := findChanged_r N hN hC hs hx (hX_ s x)
    have hC1 := hC.of (fc_R e2)
    unfold f_X10_free_12_lp f_X10_free_12
    rw [hC.2.2.1, if_neg (fun z => by have := (nI_leI (by omega) (by omega)).mp z; omega), e1, bd_some, gd_nI (by omega) (by omega), pia_r N hC1 hs, bd_some, (hC1.2.2.2.2.2.1 s hs).1, e4, sub_step, nI_1]
    simp only [am_nme]
    exact r12_lp N hN hX_ hx n m (s + 1) μ1 (by omega) (by omega) hC1 (hF.tr e2)
theorem free_lp (N : Nat) (hN : 5000 ≤ N) {T S : Nat} {a : Nat → Nat → Nat} {W : Nat} {tx : Nat → tx_T} {X : Nat → Nat → Nat} (hX_ : ∀ s x, XB a tx T s x (X s x)) {μ0 ν0 : am_M} : ∀ (n m x : Nat) (μ ν : am_M), x + n = 100 → n + 1 ≤ m → Cv μ T S a W tx → Rv ν T S a W tx → fr p_C μ0 μ → fr p_R ν0 ν → ∃ r μ' ν', f_X9_free_10_lp N m (nI (sN (hI a) S)) (nI x) μ = some (r, μ') ∧ f_X10_free_2_lp N m (nI x) ν = some (r, ν') ∧ fr p_C μ0 μ' ∧ fr p_R ν0 ν'
  | n, 0, x, μ, ν, h1, h2, hC, hR, hF, hG => by omega
  | 0, m + 1, x, μ, ν, h1, h2, hC, hR, hF, hG => by
    unfold f_X9_free_10_lp f_X9_free_10 f_X10_free_2_lp f_X10_free_2
    rw [li_99, if_pos ((nI_ltI (by omega) (by omega)).mpr (by omega)), if_pos ((nI_ltI (by omega) (by omega)).mpr (by omega))]
    exact ⟨_, _, _, rfl, rfl, hF, hG⟩
  | n + 1, m + 1, x, μ, ν, h1, h2, hC, hR, hF, hG => by
    have hS5 := hC.1.2.1
    have b1 := sN_le (f := hI a) S (fun i _ => hI_le hC.1 i)
    have b2 := sN_le (f := hX a X T x) S (fun i _ => hX_le hC.1 X x i)
    unfold f_X9_free_10_lp f_X9_free_10 f_X10_free_2_lp f_X10_free_2 f_X0_pointsTaken f_X0_pointsTaken_0
    obtain ⟨μ1, e1, e2⟩ := ptk_lp N (by omega) hX_ (x := x) (by omega) (μ0 := μ) S N 0 μ (by omega) (by omega) hC fr.rf
    obtain ⟨ν1, g1, g2⟩ := r12_lp N hN hX_ (x := x) (by omega) (r := f_X10_free_2_lp N m) (μ0 := ν) S N 0 ν (by omega) (by omega) hR fr.rf
    have e1' : f_X0_pointsTaken_4_lp N N (nI x) 0 0 μ = _ := e1
    rw [show nI (sN (hX a X T x) 0) - nI (sN (hI a) 0) = 0 from (by decide : nI 0 - nI 0 = 0)] at g1
    have g1' : f_X10_free_12_lp N (f_X10_free_2_lp N m) N (nI x) 0 0 ν = _ := g1
    have hF1 := hF.tr (ex_C e2)
    have hG1 := hG.tr (fc_R g2)
    rw [li_99, if_neg (fun z => by have := (nI_ltI (by omega) (by omega)).mp z; omega), if_neg (fun z => by have := (nI_ltI (by omega) (by omega)).mp z; omega), e1', bd_some, g1', nI_1]
    by_cases c : sN (hI a) S < sN (hX a X T x) S
    · rw [if_pos c, if_pos ((nI_ltI (by omega) (by omega)).mpr c)]
      exact free_lp N hN hX_ n m (x + 1) μ1 ν1 (by omega) (by omega) (hC.of (ex_C e2)) (hR.of (fc_R g2)) hF1 hG1
    · rw [if_neg c, if_neg (fun z => c ((nI_ltI (by omega) (by omega)).mp z))]
      exact ⟨_, _, _, rfl, rfl, hF1, hG1⟩
theorem free_q (N : Nat) (hN : 5000 ≤ N) {T S : Nat} {a : Nat → Nat → Nat} {W : Nat} {tx : Nat → tx_T} : Q2 T S a W tx (f_X9_free N) (f_X10_free N) := by
  intro μ ν hC hR
  have hS5 := hC.1.2.1
  obtain ⟨X, hX_⟩ := XB_ex a tx T
  unfold f_X9_free f_X9_free_0 f_X10_free f_X10_free_0 f_X0_pointsThere f_X0_pointsThere_0
  have e1' : f_X0_pointsThere_4_lp N N 0 0 μ = some (nI (sN (hI a) S), μ) := pth_lp N hC S N 0 (by omega) (by omega)
  rw [e1', bd_some, li_1]
  obtain ⟨r, μ', ν', g1, g2, g3, g4⟩ := free_lp N hN hX_ 99 N 1 μ ν (by omega) (by omega) hC hR fr.rf fr.rf
  exact ⟨r, μ', ν', g1, g3, g2, g4⟩
