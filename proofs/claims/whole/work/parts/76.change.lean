/-! exchange: points made of coin; changed, free -/
theorem Bst_ex (w : Nat → Nat → Nat) (c p : Nat → Nat) (T : Nat) (py : Nat → Prop) (h0 : py 0) : ∃ b, Bst w c p T py (fun _ => True) (some b) := by
  have h : ∀ b, b ≤ 4 ^ T → ∃ cur, Bst w c p T py (fun z => z < b) cur := by
    intro b
    induction b with
    | zero => exact fun _ => ⟨none, fun z hz => by omega⟩
    | succ b ih =>
      intro hb
      obtain ⟨cur, hc⟩ := ih (by omega)
      by_cases q : py b
      · cases cur with
        | none => exact ⟨some b, Bst_up (by omega) hc (some b) (fun z => absurd q z) (fun _ => ⟨fun b0 h0 => (by cases h0), fun _ => rfl⟩)⟩
        | some b0 =>
          by_cases r : beats w c p T b b0
          · exact ⟨some b, Bst_up (by omega) hc (some b) (fun z => absurd q z) (fun _ => ⟨fun b1 h1 => (by cases h1; exact Or.inl ⟨r, rfl⟩), fun z => (by cases z)⟩)⟩
          · exact ⟨some b0, Bst_up (by omega) hc (some b0) (fun _ => rfl) (fun _ => ⟨fun b1 h1 => (by cases h1; exact Or.inr ⟨r, rfl⟩), fun z => (by cases z)⟩)⟩
      · exact ⟨cur, Bst_up (by omega) hc cur (fun _ => rfl) (fun z => absurd z q)⟩
  obtain ⟨cur, hc⟩ := h (4 ^ T) (Nat.le_refl _)
  have h7 := Bst_congr hc (py' := py) (X' := fun _ => True) (fun _ _ => Iff.rfl) (fun z hz => ⟨fun _ => trivial, fun _ => hz⟩)
  cases cur with
  | none => exact absurd h0 (h7 0 trivial (Nat.pow_pos (by decide)))
  | some b => exact ⟨b, h7⟩
theorem bc_0 (f : Nat → Nat) : ∀ i, bc f i 0 = 0
  | 0 => rfl
  | i + 1 => by show bc f i (0 / 4) + (0 % 4) * f i = 0; simp [bc_0 f i]
def xc (a : Nat → Nat → Nat) (x t : Nat) : Nat := a 1 t + x * a 2 t
theorem bc_lin (a : Nat → Nat → Nat) (x : Nat) : ∀ i q, bc (xc a x) i q = bc (a 1) i q + x * bc (a 2) i q
  | 0, q => by show 0 = 0 + x * 0; omega
  | i + 1, q => by
    show bc (xc a x) i (q / 4) + q % 4 * xc a x i = (bc (a 1) i (q / 4) + q % 4 * a 1 i) + x * (bc (a 2) i (q / 4) + q % 4 * a 2 i)
    rw [bc_lin a x i]
    unfold xc
    rw [Nat.mul_add, Nat.mul_add, Nat.mul_left_comm]
    omega
def XB (a : Nat → Nat → Nat) (tx : Nat → tx_T) (T s x b : Nat) : Prop := Bst (cwt (wf tx a T (a 1) (a 2) s)) (xc a x) (a 2) T (fun b => bc (xc a x) T b ≤ a 5 s + x * (a 6 s + 10 * a 7 s)) (fun _ => True) (some b)
theorem XB_ex (a : Nat → Nat → Nat) (tx : Nat → tx_T) (T : Nat) : ∃ X : Nat → Nat → Nat, ∀ s x, XB a tx T s x (X s x) := by
  have h : ∀ s x, ∃ b, XB a tx T s x b := fun s x => Bst_ex _ _ _ _ _ (by show bc (xc a x) T 0 ≤ _; rw [bc_0]; omega)
  exact ⟨fun s x => (h s x).choose, fun s x => (h s x).choose_spec⟩
theorem XB_uniq {a : Nat → Nat → Nat} {tx : Nat → tx_T} {T s x b b' : Nat} (h1 : XB a tx T s x b) (h2 : XB a tx T s x b') : b = b' := by
  unfold XB at h1 h2
  exact Bst_uniq h1 h2
def p_ex (k i : Nat) : Bool := p_wk k i || p_rc k i
theorem wk_ex {μ μ' : am_M} (h : fr p_wk μ μ') : fr p_ex μ μ' := h.mono' (fun k i q => by simp only [p_ex, Bool.or_eq_true] at q ⊢; exact Or.inl q)
theorem rc_ex {μ μ' : am_M} (h : fr p_rc μ μ') : fr p_ex μ μ' := h.mono' (fun k i q => by simp only [p_ex, Bool.or_eq_true] at q ⊢; exact Or.inr q)
theorem ex_C {μ μ' : am_M} (h : fr p_ex μ μ') : fr p_C μ μ' := h.mono' (fun k i q => by simp only [p_ex, p_rc, p_wk, p_wg, p_C, Bool.or_eq_true, Bool.and_eq_true, beq_iff_eq, bne_iff_ne] at q ⊢; omega)
theorem xc_le {T S : Nat} {a : Nat → Nat → Nat} {W : Nat} (h : BD T S a W) {x : Nat} (hx : x ≤ 99) (t : Nat) : xc a x t ≤ 9900 := by
  have h1 := (h.2.2.2.1 t).2.1
  have h2 := (h.2.2.2.1 t).2.2.1
  have : x * a 2 t ≤ 99 * 99 := Nat.mul_le_mul hx h2
  unfold xc; omega
def xm (a : Nat → Nat → Nat) (x t i : Nat) : Nat := if i < t then xc a x i else a 1 i
theorem ex_lp (N : Nat) (hN : 130 ≤ N) {T S : Nat} {a : Nat → Nat → Nat} {W : Nat} {tx : Nat → tx_T} {s x b : Nat} (hs : s < S) (hx : x ≤ 99) (hB : XB a tx T s x b) {μ0 : am_M} :
    ∀ (n m t : Nat) (μ : am_M), t + n = T → n + 1 ≤ m → Cv μ T S a W tx → TC μ T (xm a x t) (a 2) → WM μ T (cwt (wf tx a T (a 1) (a 2) s)) → fr p_ex μ0 μ →
      ∃ μ', f_X0_exchange_17_lp N m (nI s) (nI x) (nI t) μ = some ((), μ') ∧ fr p_ex μ0 μ' ∧ SR μ' T (cwt (wf tx a T (a 1) (a 2) s)) (xc a x) (a 2) b
  | n, 0, t, μ, h1, h2, hC, hT, hw, hF => by omega
  | 0, m + 1, t, μ, h1, h2, hC, hT, hw, hF => by
    have hT6 := hC.1.1
    have hS5 := hC.1.2.1
    have hb := hC.1.2.2.2.1
    have hbs := hb s
    have e5 := hC.2.2.2.2.2.1 5 s (by omega) (by omega) hs
    have e6 := hC.2.2.2.2.2.1 6 s (by omega) (by omega) hs
    have e7 := hC.2.2.2.2.2.1 7 s (by omega) (by omega) hs
    unfold f_X0_exchange_17_lp f_X0_exchange_17
    rw [hC.2.1, if_pos ((nI_leI (by omega) (by omega)).mpr (by omega)), li_5, at_cls N (by omega) (by omega), bd_some, pia_cls N (by omega), bd_some, e5, e6, e7, pk_mul, nI_add, pk_mul, nI_add, li_0]
    have : t = T := by omega
    subst this
    have hwf := wf_le tx a t (a 1) (a 2) s
    have hm : x * (a 6 s + 10 * a 7 s) ≤ 99 * 129 := Nat.mul_le_mul hx (by omega)
    have hT' : TC μ t (xc a x) (a 2) := fun i hi => ⟨by rw [(hT i hi).1]; unfold xm; rw [if_pos hi], (hT i hi).2⟩
    obtain ⟨μ', b', g1, g2, g3, -, -, -, g7⟩ := search_c N hN (pu := a 5 s + x * (a 6 s + 10 * a 7 s)) (bo := 0) (pr := 0) (w := cwt (wf tx a t (a 1) (a 2) s)) (c := xc a x) (p := a 2) ⟨hT6, fun t m hm => Nat.le_trans (cwt_le hwf t m) (by omega), fun t m hm => cwt_mono _ t m hm, fun i => by have := xc_le hC.1 hx i; omega, fun t => (hb t).2.2.1, by omega, by omega, by omega⟩ hC.2.1 hT' hw
    have hXB : XB a tx t s x b' := Bst_congr g7 (fun z _ => by unfold pay; simp) (fun _ _ => Iff.rfl)
    have := XB_uniq hB hXB
    subst this
    rw [g1, bd_some]
    exact ⟨μ', rfl, hF.tr (wk_ex (k5_wk g2)), g3⟩
  | n + 1, m + 1, t, μ, h1, h2, hC, hT, hw, hF => by
    have hT6 := hC.1.1
    have e1 : μ.1 82 0 t = nI (a 1 t) := by rw [(hT t (by omega)).1]; unfold xm; rw [if_neg (by omega)]
    have e2 : μ.1 83 0 t = nI (a 2 t) := (hT t (by omega)).2
    unfold f_X0_exchange_17_lp f_X0_exchange_17
    rw [hC.2.1, if_neg (fun z => by have := (nI_leI (by omega) (by omega)).mp z; omega), pointsOf_c N (by omega), bd_some, coinOf_c N (by omega), bd_some, e1, e2, pk_mul, nI_add, think_c N (by omega), bd_some, nI_1]
    have hG : fr p_rc μ (am_ui (am_ui μ 82 0 t (nI (a 1 t + x * a 2 t))) 83 0 t (nI (a 2 t))) := (fr.rf.ui rfl).ui rfl
    refine ex_lp N hN hs hx hB n m (t + 1) _ (by omega) (by omega) (hC.of (rc_C hG)) (fun i hi => ⟨?_, ?_⟩) (hw.of hG (fun _ => rfl) (fun _ => rfl)) (hF.tr (rc_ex hG))
    · rw [ui1, if_neg (by omega), ui1]
      by_cases c : i = t
      · subst c; unfold xm; rw [if_pos ⟨rfl, rfl, rfl⟩, if_pos (by omega)]; rfl
      · rw [if_neg (by omega), (hT i hi).1]
        unfold xm
        by_cases d : i < t
        · rw [if_pos d, if_pos (by omega)]
        · rw [if_neg d, if_neg (by omega)]
    · rw [ui1]
      by_cases c : i = t
      · subst c; rw [if_pos ⟨rfl, rfl, rfl⟩]
      · rw [if_neg (by omega), ui1, if_neg (by omega)]; exact (hT i hi).2
theorem exchange_c (N : Nat) (hN : 130 ≤ N) {μ : am_M} {T S : Nat} {a : Nat → Nat → Nat} {W : Nat} {tx : Nat → tx_T} {s x b : Nat} (hC : Cv μ T S a W tx) (hs : s < S) (hx : x ≤ 99) (hB : XB a tx T s x b) :
    ∃ μ', f_X0_exchange N (nI s) (nI x) μ = some ((), μ') ∧ fr p_ex μ μ' ∧ SR μ' T (cwt (wf tx a T (a 1) (a 2) s)) (xc a x) (a 2) b := by
  have hT6 := hC.1.1
  unfold f_X0_exchange f_X0_exchange_0
  obtain ⟨μ1, e1, e2, e3⟩ := recall_C N hN hC
  obtain ⟨μ2, e4, e5, e6⟩ := weigh_c N hN (hC.of (rc_C e2)) e3 hs
  have hF := (rc_ex e2).tr (wk_ex (wg_wk e5))
  rw [e1, bd_some, e4, bd_some, li_0]
  exact ex_lp N hN hs hx hB T N 0 μ2 (by omega) (by omega) (hC.of (ex_C hF)) (fun i hi => ⟨by unfold xm; rw [if_neg (by omega)]; exact (e5.1 82 0 i rfl).trans (e3 i hi).1, (e5.1 83 0 i rfl).trans (e3 i hi).2⟩) e6 hF
/-! the reference -/
def p_fc (k i : Nat) : Bool := p_la k i || p_un k i || (k == 10 && (i == 42 || i == 43))
theorem la_fc {μ μ' : am_M} (h : fr p_la μ μ') : fr p_fc μ μ' := h.mono' (fun k i q => by simp only [p_fc, Bool.or_eq_true] at q ⊢; exact Or.inl (Or.inl q))
theorem un_fc {μ μ' : am_M} (h : fr p_un μ μ') : fr p_fc μ μ' := h.mono' (fun k i q => by simp only [p_fc, Bool.or_eq_true] at q ⊢; exact Or.inl (Or.inr q))
theorem fc_R {μ μ' : am_M} (h : fr p_fc μ μ') : fr p_R μ μ' := h.mono' (fun k i q => by simp only [p_fc, p_la, p_un, p_R, Bool.or_eq_true, Bool.and_eq_true, beq_iff_eq] at q ⊢; omega)
theorem nI_subLe {A B C : Nat} (hA : A < 1073741824) (hB : B < 1073741824) (hC : C < 1073741824) : (nI A - nI B ≤ nI C) ↔ A ≤ C + B := by
  rw [Int32.le_iff_toInt_le, pk_sub_toInt hA hB, nI_toInt (by omega)]
  omega
def fST (μ : am_M) (T : Nat) (w : Nat → Nat → Nat) (p : Nat → Nat) : Option Nat → Prop
  | none => True
  | some b => μ.1 10 0 42 = nI (bw w T b) ∧ μ.1 10 0 43 = nI (bc p T b)
def cK (c : Nat → Nat) (T : Nat) : Option Nat → Int32
  | none => nI 0
  | some b => nI (bc c T b)
theorem fST.of {μ μ' : am_M} {T : Nat} {w : Nat → Nat → Nat} {p : Nat → Nat} {cur : Option Nat} (h : fST μ T w p cur) (hf : fr p_un μ μ') : fST μ' T w p cur := by
  cases cur with
  | none => trivial
  | some b => exact ⟨(hf.1 10 0 42 rfl).trans h.1, (hf.1 10 0 43 rfl).trans h.2⟩
theorem fc_lp (N : Nat) (hN : 130 ≤ N) {T S : Nat} {a : Nat → Nat → Nat} {W : Nat} {tx : Nat → tx_T} {s x b1 : Nat} (hs : s < S) (hx : x ≤ 99) (hB : XB a tx T s x b1) {μ0 : am_M} :
    ∀ (n m b : Nat) (cur : Option Nat) (μ : am_M), b + n = 4 ^ T → n + 1 ≤ m → Rv μ T S a W tx → RC μ T (cwt (wf tx a T (a 1) (a 2) s)) (a 1) (a 2) → fr p_fc μ0 μ → fST μ T (cwt (wf tx a T (a 1) (a 2) s)) (a 2) cur → Bst (cwt (wf tx a T (a 1) (a 2) s)) (xc a x) (a 2) T (fun b => bc (xc a x) T b ≤ a 5 s + x * (a 6 s + 10 * a 7 s)) (fun z => z < b) cur →
      ∃ μ', f_X10_findChanged_13_lp N m (nI s) (nI x) (cI cur) (cK (xc a x) T cur) (nI b) μ = some ((), μ') ∧ fr p_fc μ0 μ' ∧ fST μ' T (cwt (wf tx a T (a 1) (a 2) s)) (a 2) (some b1)
  | n, 0, b, cur, μ, h1, h2, hR, hC, h4, h5, h6 => by omega
  | 0, m + 1, b, cur, μ, h1, h2, hR, hC, h4, h5, h6 => by
    have hT6 := hR.1.1
    have h4T : 4 ^ T ≤ 4 ^ 6 := Nat.pow_le_pow_right (by decide) hT6
    have h46 : (4 : Nat) ^ 6 = 4096 := by decide
    unfold f_X10_findChanged_13_lp f_X10_findChanged_13
    rw [baskets_r N hT6 hR.2.1, bd_some, if_pos ((nI_leI (by omega) (by omega)).mpr (by omega))]
    have h7 := Bst_congr h6 (py' := fun b => bc (xc a x) T b ≤ a 5 s + x * (a 6 s + 10 * a 7 s)) (X' := fun _ => True) (fun _ _ => Iff.rfl) (fun z hz => ⟨fun _ => trivial, fun _ => by omega⟩)
    cases cur with
    | none => exact absurd (show bc (xc a x) T 0 ≤ _ by rw [bc_0]; omega) (h7 0 trivial (Nat.pow_pos (by decide)))
    | some b2 =>
      have := XB_uniq hB h7
      subst this
      exact ⟨μ, rfl, h4, h5⟩
  | n + 1, m + 1, b, cur, μ, h1, h2, hR, hC, h4, h5, h6 => by
    have hT6 := hR.1.1
    have hS5 := hR.1.2.1
    have hb := hR.1.2.2.2.1
    have hbs := hb s
    have h4T : 4 ^ T ≤ 4 ^ 6 := Nat.pow_le_pow_right (by decide) hT6
    have h46 : (4 : Nat) ^ 6 = 4096 := by decide
    have hwf := wf_le tx a T (a 1) (a 2) s
    have hwb : ∀ t m, m ≤ 3 → cwt (wf tx a T (a 1) (a 2) s) t m ≤ 2997 := fun t m hm => Nat.le_trans (cwt_le hwf t m) (by omega)
    have WB : ∀ b, bw (cwt (wf tx a T (a 1) (a 2) s)) T b ≤ 17982 := fun b => Nat.le_trans (bw_le _ 2997 hwb T b) (by omega)
    have CB_ : ∀ b, bc (xc a x) T b ≤ 178200 := fun b => Nat.le_trans (bc_le _ 9900 (fun t => xc_le hR.1 hx t) T b) (by omega)
    have PB : ∀ b, bc (a 2) T b ≤ 1782 := fun b => Nat.le_trans (bc_le _ 99 (fun t => (hb t).2.2.1) T b) (by omega)
    have hm : x * (a 6 s + 10 * a 7 s) ≤ 99 * 129 := Nat.mul_le_mul hx (by omega)
    obtain ⟨μ1, e1, e2, e3, e4, e5, e6⟩ := unpack_r N hN hT6 hC (show b < 4 ^ T by omega)
    have hR1 := hR.of (un_R e2)
    have hC1 : RC μ1 T (cwt (wf tx a T (a 1) (a 2) s)) (a 1) (a 2) := hC.of e2 rfl (fun _ => rfl) rfl (fun _ => rfl)
    have hS1 := h5.of e2
    have hF1 := h4.tr (un_fc e2)
    have stay : (¬ (bc (xc a x) T b ≤ a 5 s + x * (a 6 s + 10 * a 7 s)) ∨ ∃ b0, cur = some b0 ∧ ¬ beats (cwt (wf tx a T (a 1) (a 2) s)) (xc a x) (a 2) T b b0) → ∃ μ', f_X10_findChanged_13_lp N m (nI s) (nI x) (cI cur) (cK (xc a x) T cur) (nI b + 1) μ1 = some ((), μ') ∧ fr p_fc μ0 μ' ∧ fST μ' T (cwt (wf tx a T (a 1) (a 2) s)) (a 2) (some b1) := by
      intro hst
      rw [nI_1]
      refine fc_lp N hN hs hx hB n m (b + 1) cur μ1 (by omega) (by omega) hR1 hC1 hF1 hS1 (Bst_up (by omega) h6 cur (fun _ => rfl) (fun hpy => ?_))
      rcases hst with hst | ⟨b0, hb0, hnb⟩
      · exact absurd hpy hst
      · refine ⟨fun b0' hb0' => ?_, fun q => by rw [q] at hb0; cases hb0⟩
        rw [hb0] at hb0'; cases hb0'
        exact Or.inr ⟨hnb, hb0⟩
    have take : (bc (xc a x) T b ≤ a 5 s + x * (a 6 s + 10 * a 7 s)) → (∀ b0, cur = some b0 → beats (cwt (wf tx a T (a 1) (a 2) s)) (xc a x) (a 2) T b b0) → ∃ μ', f_X10_findChanged_118 N (f_X10_findChanged_13_lp N m) (nI s) (nI x) (cI cur) (cK (xc a x) T cur) (nI b) (nI (bc (xc a x) T b)) 1 μ1 = some ((), μ') ∧ fr p_fc μ0 μ' ∧ fST μ' T (cwt (wf tx a T (a 1) (a 2) s)) (a 2) (some b1) := by
      intro hpy hbt
      unfold f_X10_findChanged_118 f_X10_findChanged_148
      rw [if_neg (by decide), nI_1]
      simp only [am_nme]
      obtain ⟨μ2, q2⟩ : ∃ μ2, μ2 = am_ui (am_ui μ1 10 0 42 (μ1.1 10 0 26)) 10 0 43 ((am_ui μ1 10 0 42 (μ1.1 10 0 26)).1 10 0 28) := ⟨_, rfl⟩
      rw [← q2]
      have hF3 : fr (fun k i => k == 10 && (i == 42 || i == 43)) μ1 μ2 := by rw [q2]; exact (fr.rf.ui rfl).ui rfl
      have hF4 : fr p_fc μ1 μ2 := by rw [q2]; exact (fr.rf.ui rfl).ui rfl
      exact fc_lp N hN hs hx hB n m (b + 1) (some b) μ2 (by omega) (by omega) (hR1.of (fc_R hF4)) (hC1.of hF3 rfl (fun _ => rfl) rfl (fun _ => rfl)) (hF1.tr hF4) ⟨by rw [q2]; simp [ui1, e4], by rw [q2]; simp [ui1, e6]⟩ (Bst_up (by omega) h6 (some b) (fun q => absurd hpy q) (fun _ => ⟨fun b0 hb0 => Or.inl ⟨hbt b0 hb0, rfl⟩, fun _ => rfl⟩))
    have no0 : ∀ b0, cur = some b0 → ¬ beats (cwt (wf tx a T (a 1) (a 2) s)) (xc a x) (a 2) T b b0 → ∃ μ', f_X10_findChanged_118 N (f_X10_findChanged_13_lp N m) (nI s) (nI x) (cI cur) (cK (xc a x) T cur) (nI b) (nI (bc (xc a x) T b)) 0 μ1 = some ((), μ') ∧ fr p_fc μ0 μ' ∧ fST μ' T (cwt (wf tx a T (a 1) (a 2) s)) (a 2) (some b1) := by
      intro b0 hb0 hnb
      unfold f_X10_findChanged_118 f_X10_findChanged_148
      rw [if_pos rfl]
      exact stay (Or.inr ⟨b0, hb0, hnb⟩)
    have ey : nI (bc (a 1) T b) + nI x * nI (bc (a 2) T b) = nI (bc (xc a x) T b) := by rw [pk_mul, nI_add, bc_lin]
    have hWb := WB b
    have hCb := CB_ b
    have hPb := PB b
    unfold f_X10_findChanged_13_lp f_X10_findChanged_13 f_X10_findChanged_113 f_X10_findChanged_117 f_X10_findChanged_148
    rw [baskets_r N hT6 hR.2.1, bd_some, if_neg (fun z => by have := (nI_leI (by omega) (by omega)).mp z; omega), e1, bd_some, e5, e6, ey]
    simp only [am_nme]
    rw [pia_r N hR1 hs, bd_some, purseOf_r N hR1 hs, bd_some, e4, e6, pk_mul]
    by_cases d1 : bc (xc a x) T b ≤ a 5 s + x * (a 6 s + 10 * a 7 s)
    · rw [if_pos ((nI_subLe (by omega) (by omega) (by omega)).mpr d1)]
      cases hcur : cur with
      | none =>
        have := take d1 (fun b0 q => by rw [hcur] at q; cases q)
        rw [hcur] at this
        rw [if_pos (show cI none < 0 by decide)]
        exact this
      | some b0 =>
        rw [hcur] at hS1
        obtain ⟨s1, s2⟩ := hS1
        have W2 := WB b0
        have C2 := CB_ b0
        have P2 := PB b0
        have hb0 : b0 < 4096 := by rw [hcur] at h6; have := h6.2.1; omega
        have tk : beats (cwt (wf tx a T (a 1) (a 2) s)) (xc a x) (a 2) T b b0 → _ := fun hbt => take d1 (fun b0' q => by rw [hcur] at q; cases q; exact hbt)
        have nt := no0 b0 hcur
        rw [hcur] at tk nt
        have hneg : ¬ (cI (some b0) < 0) := nI_pos (by omega)
        have ek : cK (xc a x) T (some b0) = nI (bc (xc a x) T b0) := rfl
        rw [if_neg hneg, s1, s2]
        rw [ek] at tk nt ⊢
        simp (disch := omega) only [nI_ltI, nI_leI, nI_eq]
        by_cases g1 : bw (cwt (wf tx a T (a 1) (a 2) s)) T b0 < bw (cwt (wf tx a T (a 1) (a 2) s)) T b
        · rw [if_pos g1]; exact tk (by unfold beats; omega)
        · rw [if_neg g1]
          by_cases g2 : bw (cwt (wf tx a T (a 1) (a 2) s)) T b = bw (cwt (wf tx a T (a 1) (a 2) s)) T b0
          · rw [if_pos g2]
            by_cases g3 : bc (xc a x) T b < bc (xc a x) T b0
            · rw [if_pos g3]; exact tk (by unfold beats; omega)
            · rw [if_neg g3]
              by_cases g4 : bc (xc a x) T b = bc (xc a x) T b0
              · rw [if_pos g4]
                by_cases g5 : bc (a 2) T b0 ≤ bc (a 2) T b
                · rw [if_pos g5]; exact nt (by unfold beats; omega)
                · rw [if_neg g5]; exact tk (by unfold beats; omega)
              · rw [if_neg g4]; exact nt (by unfold beats; omega)
          · rw [if_neg g2]; exact nt (by unfold beats; omega)
    · rw [if_neg (fun z => d1 ((nI_subLe (by omega) (by omega) (by omega)).mp z))]
      exact stay (Or.inl d1)
theorem findChanged_r (N : Nat) (hN : 5000 ≤ N) {μ : am_M} {T S : Nat} {a : Nat → Nat → Nat} {W : Nat} {tx : Nat → tx_T} {s x b : Nat} (hR : Rv μ T S a W tx) (hs : s < S) (hx : x ≤ 99) (hB : XB a tx T s x b) :
    ∃ μ', f_X10_findChanged N (nI s) (nI x) μ = some ((), μ') ∧ fr p_fc μ μ' ∧ μ'.1 10 0 42 = nI (bw (cwt (wf tx a T (a 1) (a 2) s)) T b) ∧ μ'.1 10 0 43 = nI (bc (a 2) T b) := by
  have hT6 := hR.1.1
  have hb := hR.1.2.2.2.1
  have h4T : 4 ^ T ≤ 4 ^ 6 := Nat.pow_le_pow_right (by decide) hT6
  have h46 : (4 : Nat) ^ 6 = 4096 := by decide
  unfold f_X10_findChanged f_X10_findChanged_0
  obtain ⟨μ1, e1, e2, e3⟩ := lay_r N (by omega) hR hs
  have hR1 := hR.of (la_R e2)
  have hC : RC μ1 T (cwt (wf tx a T (a 1) (a 2) s)) (a 1) (a 2) := ⟨hR1.2.1, e3, a 1, 100, hR1.2.2.2.2.2.2.2, by decide, fun t ht => ⟨(hb t).2.1, (hR1.2.2.2.2.1 t ht).2.1, by omega, (hR1.2.2.2.2.1 t ht).2.2.1⟩⟩
  rw [e1, bd_some, li_0]
  obtain ⟨μ', g1, g2, g3⟩ := fc_lp N (by omega) hs hx hB (4 ^ T) N 0 none μ1 (by omega) (by omega) hR1 hC (la_fc e2) trivial (fun z hz => by omega)
  exact ⟨μ', g1, g2, g3.1, g3.2⟩
