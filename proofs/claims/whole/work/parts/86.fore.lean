/-! foresight: what each number of points reaches -/
theorem MX_uniq {py : Nat → Prop} {v : Nat → Nat} {X : Nat → Prop} {M M' : Nat} (h : MX py v X M) (h' : MX py v X M') : M = M' := by
  obtain ⟨a1, a2⟩ := h
  obtain ⟨b1, b2⟩ := h'
  rcases a2 with a2 | ⟨z, z1, z2, z3⟩
  · rcases b2 with b2 | ⟨y, y1, y2, y3⟩
    · omega
    · have := a1 y y1 y2; omega
  · have h1 := b1 z z1 z2
    rcases b2 with b2 | ⟨y, y1, y2, y3⟩
    · omega
    · have := a1 y y1 y2; omega
theorem MX_congr {py py' : Nat → Prop} {v : Nat → Nat} {X X' : Nat → Prop} {M : Nat} (h : MX py v X M) (e : ∀ z, (X z ∧ py z) ↔ (X' z ∧ py' z)) : MX py' v X' M := by
  obtain ⟨a1, a2⟩ := h
  refine ⟨fun z hx hp => ?_, ?_⟩
  · have := (e z).mpr ⟨hx, hp⟩; exact a1 z this.1 this.2
  · rcases a2 with a2 | ⟨z, z1, z2, z3⟩
    · exact Or.inl a2
    · have := (e z).mp ⟨z1, z2⟩; exact Or.inr ⟨z, this.1, this.2, z3⟩
def RE (cell n : Nat) (μ : am_M) (w : Nat → Nat → Nat) (c p : Nat → Nat) (T pu X : Nat) : Prop := ∀ i, i < n → ∃ M, M ≤ 17982 ∧ μ.1 cell 0 i = nI M ∧ MX (fun b => bc c T b ≤ pu ∧ bc p T b = i) (bw w T) (fun z => z < X) M
theorem RE.of {P : Nat → Nat → Bool} {cell n : Nat} {μ μ' : am_M} {w : Nat → Nat → Nat} {c p : Nat → Nat} {T pu X : Nat} (h : RE cell n μ w c p T pu X) (hf : fr P μ μ') (h1 : ∀ i, P cell i = false) : RE cell n μ' w c p T pu X := by
  intro i hi
  obtain ⟨M, h0, h2, h3⟩ := h i hi
  exact ⟨M, h0, (hf.1 cell 0 i (h1 i)).trans h2, h3⟩
/-- nothing payable lies between -/
theorem RE.skip {cell n : Nat} {μ : am_M} {w : Nat → Nat → Nat} {c p : Nat → Nat} {T pu X Y : Nat} (h : RE cell n μ w c p T pu X) (hXY : X ≤ Y) (hn : ∀ b, X ≤ b → b < Y → ¬ (bc c T b ≤ pu ∧ bc p T b < n)) : RE cell n μ w c p T pu Y := by
  intro i hi
  obtain ⟨M, h0, h2, h3⟩ := h i hi
  refine ⟨M, h0, h2, MX_congr h3 (fun z => ⟨fun q => ⟨by have := q.1; omega, q.2⟩, fun q => ⟨?_, q.2⟩⟩)⟩
  have q1 := q.1
  have q2 := q.2
  by_cases e : z < X
  · exact e
  · exact absurd ⟨q2.1, by omega⟩ (hn z (by omega) q1)
/-- one basket more -/
theorem RE.put {cell n : Nat} {μ : am_M} {w : Nat → Nat → Nat} {c p : Nat → Nat} {T pu b M : Nat} (h : RE cell n μ w c p T pu b) (hw : bw w T b ≤ 17982) (hb : bc c T b ≤ pu) (hp : bc p T b < n) (hM : μ.1 cell 0 (bc p T b) = nI M) (hMl : M ≤ 17982) : RE cell n (am_ui μ cell 0 (bc p T b) (nI (max M (bw w T b)))) w c p T pu (b + 1) := by
  intro i hi
  obtain ⟨M1, h0, h2, h3⟩ := h i hi
  by_cases e : i = bc p T b
  · subst e
    have : M1 = M := (nI_eq (by omega) (by omega)).mp (h2.symm.trans hM)
    subst this
    refine ⟨max M1 (bw w T b), by omega, by rw [ui1, if_pos ⟨rfl, rfl, rfl⟩], MX_up h3 _ (fun q => absurd ⟨hb, rfl⟩ q) (fun _ => ⟨fun q => by omega, fun q => by omega⟩)⟩
  · refine ⟨M1, h0, by rw [ui1, if_neg (fun q => e q.2.2)]; exact h2, MX_up h3 _ (fun _ => rfl) (fun q => absurd q.2.symm e)⟩
def p_114 (k _ : Nat) : Bool := k == 114
theorem k114_C {μ μ' : am_M} (h : fr p_114 μ μ') : fr p_C μ μ' := h.mono' (fun k i q => by simp only [p_114, p_C, Bool.or_eq_true, Bool.and_eq_true, beq_iff_eq, bne_iff_ne] at q ⊢; omega)
theorem sp_c (N : Nat) (hN : 130 ≤ N) {T : Nat} (hT : T ≤ 6) {w : Nat → Nat → Nat} {c p : Nat → Nat} (hw : ∀ t m, m ≤ 3 → w t m ≤ 2997) (hc : ∀ t, c t ≤ 99) (hp : ∀ t, p t ≤ 99) {pu : Nat} (hpu : pu ≤ 99) :
    ∀ (k i q D : Nat) (μ : am_M), i + k = T → k + 1 ≤ D → q < 4 ^ i → μ.1 1 0 1 = nI T → TC μ T c p → (∀ t m, t < T → m ≤ 3 → μ.1 384 t m = nI (w t m)) → RE 114 259 μ w c p T pu (q * 4 ^ k) →
      ∃ μ', f_X0_spread_r N D (nI i) (nI (bw w i q)) (nI pu - nI (bc c i q)) (nI (bc p i q)) μ = some ((), μ') ∧ fr p_114 μ μ' ∧ RE 114 259 μ' w c p T pu ((q + 1) * 4 ^ k) := by
  intro k
  induction k with
  | zero =>
    intro i q D μ h1 h2 h3 m1 m2 m3 h
    cases D with
    | zero => omega
    | succ D =>
      have : i = T := by omega
      subst this
      have W1 : bw w i q ≤ 17982 := Nat.le_trans (bw_le w 2997 hw i q) (by omega)
      have C1 : bc c i q ≤ 1782 := Nat.le_trans (bc_le c 99 hc i q) (by omega)
      have P1 : bc p i q ≤ 1782 := Nat.le_trans (bc_le p 99 hp i q) (by omega)
      have hneg : (nI pu - nI (bc c i q) < 0) ↔ pu < bc c i q := by
        rw [Int32.lt_iff_toInt_lt, pk_sub_toInt (by omega) (by omega)]
        have e0 : (0 : Int32).toInt = 0 := by decide
        omega
      rw [Nat.pow_zero, Nat.mul_one] at h
      show ∃ μ', f_X0_spread_0 N (f_X0_spread_r N D) (nI i) (nI (bw w i q)) (nI pu - nI (bc c i q)) (nI (bc p i q)) μ = _ ∧ _
      unfold f_X0_spread_0 f_X0_spread_32
      rw [Nat.pow_zero, Nat.mul_one]
      by_cases c1 : pu < bc c i q
      · rw [if_pos (hneg.mpr c1)]
        exact ⟨μ, rfl, fr.rf, h.skip (by omega) (fun b hb1 hb2 => by have : b = q := by omega
                                                                     subst this; omega)⟩
      · rw [if_neg (fun z => c1 (hneg.mp z)), li_259]
        by_cases c2 : bc p i q < 259
        · rw [if_pos ((nI_ltI (by omega) (by omega)).mpr c2), m1, if_pos ((nI_leI (by omega) (by omega)).mpr (Nat.le_refl _)), gd_nI c2 (by omega)]
          obtain ⟨M, k1, k2, k3⟩ := h (bc p i q) c2
          rw [k2]
          have em : (if nI M < nI (bw w i q) then nI (bw w i q) else nI M) = nI (max M (bw w i q)) := by
            by_cases d : M < bw w i q
            · rw [if_pos ((nI_ltI (by omega) (by omega)).mpr d)]; congr 1; omega
            · rw [if_neg (fun z => d ((nI_ltI (by omega) (by omega)).mp z))]; congr 1; omega
          rw [em]
          simp only [am_nme]
          rw [gd_nI c2 (by omega)]
          exact ⟨_, rfl, fr.rf.ui rfl, h.put W1 (by omega) c2 k2 k1⟩
        · rw [if_neg (fun z => c2 ((nI_ltI (by omega) (by omega)).mp z))]
          exact ⟨μ, rfl, fr.rf, h.skip (by omega) (fun b hb1 hb2 => by have : b = q := by omega
                                                                       subst this; omega)⟩
  | succ k ih =>
    intro i q D μ h1 h2 h3 m1 m2 m3 h
    cases D with
    | zero => omega
    | succ D =>
      have W1 : bw w i q ≤ 17982 := Nat.le_trans (bw_le w 2997 hw i q) (by omega)
      have C1 : bc c i q ≤ 1782 := Nat.le_trans (bc_le c 99 hc i q) (by omega)
      have P1 : bc p i q ≤ 1782 := Nat.le_trans (bc_le p 99 hp i q) (by omega)
      have hneg : (nI pu - nI (bc c i q) < 0) ↔ pu < bc c i q := by
        rw [Int32.lt_iff_toInt_lt, pk_sub_toInt (by omega) (by omega)]
        have e0 : (0 : Int32).toInt = 0 := by decide
        omega
      have hpw : 0 < 4 ^ (k + 1) := Nat.pow_pos (by decide)
      have hunder : ∀ b, q * 4 ^ (k + 1) ≤ b → b < (q + 1) * 4 ^ (k + 1) → bc c i q ≤ bc c T b ∧ bc p i q ≤ bc p T b := by
        intro b hb1 hb2
        have e : b / 4 ^ (k + 1) = q := by
          rw [Nat.succ_mul] at hb2
          exact Nat.div_eq_of_lt_le hb1 (by rw [Nat.succ_mul]; exact hb2)
        have g1 := bc_up c i (k + 1) b
        have g2 := bc_up p i (k + 1) b
        rw [e, h1] at g1 g2
        exact ⟨g1, g2⟩
      show ∃ μ', f_X0_spread_0 N (f_X0_spread_r N D) (nI i) (nI (bw w i q)) (nI pu - nI (bc c i q)) (nI (bc p i q)) μ = _ ∧ _
      have hloop : ∀ (n m j : Nat) (μ1 : am_M), j + n = 4 → n + 1 ≤ m → fr p_114 μ μ1 → RE 114 259 μ1 w c p T pu ((q * 4 + j) * 4 ^ k) → ∃ μ', f_X0_spread_74_lp N (f_X0_spread_r N D) m (nI i) (nI (bw w i q)) (nI pu - nI (bc c i q)) (nI (bc p i q)) (nI (c i)) (nI (p i)) (nI j) μ1 = some ((), μ') ∧ fr p_114 μ μ' ∧ RE 114 259 μ' w c p T pu ((q + 1) * 4 ^ (k + 1)) := by
        intro n
        induction n with
        | zero =>
          intro m j μ1 g1 g2 g3 g4
          cases m with
          | zero => omega
          | succ m =>
            unfold f_X0_spread_74_lp f_X0_spread_74
            rw [if_pos (by rw [li_3]; exact (nI_ltI (by omega) (by omega)).mpr (by omega))]
            have e : (q * 4 + j) * 4 ^ k = (q + 1) * 4 ^ (k + 1) := by
              have : j = 4 := by omega
              subst this
              rw [Nat.pow_succ, Nat.mul_comm (4 ^ k) 4, ← Nat.mul_assoc]
              congr 1; omega
            rw [e] at g4
            exact ⟨μ1, rfl, g3, g4⟩
        | succ n ihn =>
          intro m j μ1 g1 g2 g3 g4
          cases m with
          | zero => omega
          | succ m =>
            have hj : j < 4 := by omega
            unfold f_X0_spread_74_lp f_X0_spread_74
            have n1 : μ1.1 1 0 1 = nI T := (g3.1 1 0 1 rfl).trans m1
            have n2 : TC μ1 T c p := m2.of g3 (fun _ => rfl) (fun _ => rfl)
            have n3 : ∀ t m, t < T → m ≤ 3 → μ1.1 384 t m = nI (w t m) := fun t m ht hm => (g3.1 384 t m rfl).trans (m3 t m ht hm)
            have ew : bw w i q + w i j = bw w (i + 1) (q * 4 + j) := by
              show _ = bw w i ((q * 4 + j) / 4) + w i ((q * 4 + j) % 4)
              rw [(q4 q j hj).1, (q4 q j hj).2]
            have ec : ∀ f : Nat → Nat, bc f i q + j * f i = bc f (i + 1) (q * 4 + j) := by
              intro f
              show _ = bc f i ((q * 4 + j) / 4) + ((q * 4 + j) % 4) * f i
              rw [(q4 q j hj).1, (q4 q j hj).2]
            have es : nI pu - nI (bc c i q) - nI (j * c i) = nI pu - nI (bc c (i + 1) (q * 4 + j)) := by
              rw [← ec c, ← nI_add]
              grind
            rw [if_neg (by rw [li_3, nI_ltI (by omega) (by omega)]; omega), first_c N (by omega) (by omega), bd_some, n3 i j (by omega) (by omega), nI_add, pk_mul, pk_mul, nI_add, es, ew, ec p, nI_1, nI_1]
            obtain ⟨μ2, r1, r2, r3⟩ := ih (i + 1) (q * 4 + j) D μ1 (by omega) (by omega) (by rw [Nat.pow_succ]; omega) n1 n2 n3 g4
            rw [r1, bd_some]
            have e2 : (q * 4 + j + 1) * 4 ^ k = (q * 4 + (j + 1)) * 4 ^ k := by rw [Nat.add_assoc]
            rw [e2] at r3
            exact ihn m (j + 1) μ2 (by omega) (by omega) (g3.tr r2) r3
      unfold f_X0_spread_0
      by_cases c1 : pu < bc c i q
      · rw [if_pos (hneg.mpr c1)]
        exact ⟨μ, rfl, fr.rf, h.skip (Nat.mul_le_mul_right _ (by omega)) (fun b hb1 hb2 => by have := hunder b hb1 hb2; omega)⟩
      · rw [if_neg (fun z => c1 (hneg.mp z)), li_259]
        by_cases c2 : bc p i q < 259
        · rw [if_pos ((nI_ltI (by omega) (by omega)).mpr c2), m1, if_neg (fun z => by have := (nI_leI (by omega) (by omega)).mp z; omega), if_pos (by rw [li_6]; exact (nI_ltI (by omega) (by omega)).mpr (by omega)), coinOf_c N (by omega), bd_some, pointsOf_c N (by omega), bd_some, (m2 i (by omega)).1, (m2 i (by omega)).2, li_0]
          refine hloop 4 N 0 μ (by omega) (by omega) fr.rf ?_
          have e : (q * 4 + 0) * 4 ^ k = q * 4 ^ (k + 1) := by
            rw [Nat.pow_succ, Nat.mul_comm (4 ^ k) 4, ← Nat.mul_assoc]; rfl
          rw [e]; exact h
        · rw [if_neg (fun z => c2 ((nI_ltI (by omega) (by omega)).mp z))]
          exact ⟨μ, rfl, fr.rf, h.skip (Nat.mul_le_mul_right _ (by omega)) (fun b hb1 hb2 => by have := hunder b hb1 hb2; omega)⟩
