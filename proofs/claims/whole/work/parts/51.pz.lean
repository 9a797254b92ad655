/-! the reading of a text, pure: ch p is the byte at p, 0 behind the end; steps as the class writes them -/
def pz_nm (c : Nat) : Bool := c == 116 || c == 107 || c == 99 || c == 112 || c == 115 || c == 98 || c == 110
def pz_lv (c : Nat) : Nat := if c = 124 then 0 else if c = 38 then 1 else if c = 60 then 2 else if c = 61 then 2 else if c = 62 then 2 else if c = 43 then 3 else if c = 45 then 3 else if c = 42 then 4 else if c = 47 then 4 else if c = 37 then 4 else 9
abbrev pz_R : Type := Bool × (Nat × List Int32)
def pz_lp (ch : Nat → Nat) (sub : Nat → pz_R) (lev : Nat) : Nat → pz_R → pz_R
  | 0, r => r
  | n + 1, r => if r.1 = true ∧ pz_lv (ch r.2.1) = lev then pz_lp ch sub lev n ((sub (r.2.1 + 1)).1, ((sub (r.2.1 + 1)).2.1, (r.2.2 ++ (sub (r.2.1 + 1)).2.2) ++ [-(nI (ch r.2.1))])) else r
def pz_dg (ch : Nat → Nat) : Nat → Nat → Nat → Nat × Nat
  | 0, v, p => (v, p)
  | n + 1, v, p => if 48 ≤ ch p ∧ ch p ≤ 57 then pz_dg ch n (v * 10 + (ch p - 48)) (p + 1) else (v, p)
def pz (ch : Nat → Nat) : Nat → Nat → Nat → Nat → pz_R
  | 0, _, _, p => (false, (p, []))
  | f + 1, lev, o, p =>
    if lev < 5 then pz_lp ch (fun q => pz ch f (lev + 1) o q) lev (if lev = 2 then 1 else 120) (pz ch f (lev + 1) o p)
    else if 48 ≤ ch p ∧ ch p ≤ 57 then (true, ((pz_dg ch 4 0 p).2, [nI (pz_dg ch 4 0 p).1]))
    else if pz_nm (ch p) = true then (true, (p + 1, [-(nI (ch p))]))
    else if (ch p = 33 ∨ ch p = 45 ∨ ch p = 40) ∧ o < 6 then
      (if ch p = 40 then
        (if (pz ch f 0 (o + 1) (p + 1)).1 = true ∧ ch (pz ch f 0 (o + 1) (p + 1)).2.1 = 41 then (true, ((pz ch f 0 (o + 1) (p + 1)).2.1 + 1, (pz ch f 0 (o + 1) (p + 1)).2.2)) else (false, (pz ch f 0 (o + 1) (p + 1)).2))
      else ((pz ch f 5 (o + 1) (p + 1)).1, ((pz ch f 5 (o + 1) (p + 1)).2.1, (pz ch f 5 (o + 1) (p + 1)).2.2 ++ [if ch p = 45 then -126 else -33])))
    else (false, (p, []))
theorem pz_dg_le (ch : Nat → Nat) (L : Nat) (hL : ∀ p, L ≤ p → ch p = 0) : ∀ (n v p : Nat), p ≤ L → p ≤ (pz_dg ch n v p).2 ∧ (pz_dg ch n v p).2 ≤ L
  | 0, v, p, h => ⟨Nat.le_refl _, h⟩
  | n + 1, v, p, h => by
    unfold pz_dg
    by_cases c : 48 ≤ ch p ∧ ch p ≤ 57
    · rw [if_pos c]
      have hp : p < L := by
        rcases Nat.lt_or_ge p L with q | q
        · exact q
        · have := hL p q; omega
      have := pz_dg_le ch L hL n (v * 10 + (ch p - 48)) (p + 1) hp
      exact ⟨by omega, this.2⟩
    · rw [if_neg c]; exact ⟨Nat.le_refl _, h⟩
theorem pz_dg_v (ch : Nat → Nat) : ∀ (n v p : Nat), (pz_dg ch n v p).1 + 1 ≤ (v + 1) * 10 ^ n
  | 0, v, p => by simp [pz_dg]
  | n + 1, v, p => by
    unfold pz_dg
    by_cases c : 48 ≤ ch p ∧ ch p ≤ 57
    · rw [if_pos c]
      have h1 := pz_dg_v ch n (v * 10 + (ch p - 48)) (p + 1)
      have h2 : (v * 10 + (ch p - 48) + 1) * 10 ^ n ≤ ((v + 1) * 10) * 10 ^ n := Nat.mul_le_mul_right _ (by omega)
      have e : (v + 1) * 10 ^ (n + 1) = ((v + 1) * 10) * 10 ^ n := by rw [Nat.pow_succ, Nat.mul_assoc, Nat.mul_comm 10]
      omega
    · rw [if_neg c]
      have : 1 ≤ 10 ^ (n + 1) := Nat.pow_le_pow_right (n := 10) (by decide) (Nat.zero_le (n + 1))
      have h3 := Nat.mul_le_mul_left (v + 1) this
      simp only [Nat.mul_one] at h3
      exact h3
def pz_ok (L p : Nat) (r : pz_R) : Prop := p ≤ r.2.1 ∧ r.2.1 ≤ L ∧ (r.1 = true → p < r.2.1 ∧ r.2.2.length ≤ r.2.1 - p ∧ ∀ s ∈ r.2.2, s ≠ -59 ∧ s ≠ -63)
theorem pz_lt {ch : Nat → Nat} {L p : Nat} (hL : ∀ p, L ≤ p → ch p = 0) (h : ch p ≠ 0) : p < L := by
  rcases Nat.lt_or_ge p L with q | q
  · exact q
  · exact absurd (hL p q) h
theorem pz_lv_ne {c lev : Nat} (h : pz_lv c = lev) (hl : lev < 5) : c ≠ 0 ∧ -(nI c) ≠ -59 ∧ -(nI c) ≠ -63 := by
  unfold pz_lv at h
  repeat' split at h
  all_goals first | (subst_vars; refine ⟨by decide, by decide, by decide⟩) | omega
theorem pz_lp_ok {ch : Nat → Nat} {L : Nat} (hL : ∀ p, L ≤ p → ch p = 0) {sub : Nat → pz_R} (hs : ∀ q, q ≤ L → pz_ok L q (sub q)) {lev : Nat} (hl : lev < 5) : ∀ (n : Nat) (p : Nat) (r : pz_R), pz_ok L p r → pz_ok L p (pz_lp ch sub lev n r)
  | 0, _, _, h => h
  | n + 1, p, r, h => by
    unfold pz_lp
    by_cases c : r.1 = true ∧ pz_lv (ch r.2.1) = lev
    · rw [if_pos c]
      obtain ⟨n1, n2, n3⟩ := pz_lv_ne c.2 hl
      have hlt := pz_lt hL n1
      obtain ⟨a1, a2, a3⟩ := h
      obtain ⟨b1, b2, b3⟩ := hs (r.2.1 + 1) hlt
      refine pz_lp_ok hL hs hl n p _ ⟨by simp only; omega, b2, fun ht => ?_⟩
      obtain ⟨g1, g2, g3⟩ := a3 c.1
      obtain ⟨e1, e2, e3⟩ := b3 ht
      refine ⟨by simp only; omega, by simp only [List.length_append, List.length_singleton]; omega, fun s hs => ?_⟩
      simp only [List.mem_append, List.mem_singleton] at hs
      rcases hs with (hs | hs) | hs
      · exact g3 s hs
      · exact e3 s hs
      · rw [hs]; exact ⟨n2, n3⟩
    · rw [if_neg c]; exact h
theorem pz_nm_ne {c : Nat} (h : pz_nm c = true) : c ≠ 0 ∧ -(nI c) ≠ -59 ∧ -(nI c) ≠ -63 := by
  simp only [pz_nm, Bool.or_eq_true, beq_iff_eq] at h
  rcases h with (((((h | h) | h) | h) | h) | h) | h <;> subst h <;> exact ⟨by decide, by decide, by decide⟩
theorem pz_all {ch : Nat → Nat} {L : Nat} (hL : ∀ p, L ≤ p → ch p = 0) : ∀ (f lev o p : Nat), p ≤ L → pz_ok L p (pz ch f lev o p)
  | 0, lev, o, p, h => ⟨Nat.le_refl _, h, fun q => by cases q⟩
  | f + 1, lev, o, p, h => by
    unfold pz
    by_cases c1 : lev < 5
    · rw [if_pos c1]
      exact pz_lp_ok hL (fun q hq => pz_all hL f (lev + 1) o q hq) c1 _ p _ (pz_all hL f (lev + 1) o p h)
    · rw [if_neg c1]
      by_cases c2 : 48 ≤ ch p ∧ ch p ≤ 57
      · rw [if_pos c2]
        have hlt := pz_lt (p := p) hL (by omega)
        have e : pz_dg ch 4 0 p = pz_dg ch 3 (0 * 10 + (ch p - 48)) (p + 1) := by
          show (if 48 ≤ ch p ∧ ch p ≤ 57 then _ else _) = _
          rw [if_pos c2]
        have h1 := pz_dg_le ch L hL 3 (0 * 10 + (ch p - 48)) (p + 1) hlt
        have h2 := pz_dg_v ch 4 0 p
        rw [← e] at h1
        refine ⟨by simp only; omega, h1.2, fun _ => ⟨by simp only; omega, by simp only [List.length_singleton]; omega, fun s hs => ?_⟩⟩
        rw [List.mem_singleton.mp hs]
        have h3 := nI_pos (n := (pz_dg ch 4 0 p).1) (by omega)
        exact ⟨fun q => h3 (by rw [q]; decide), fun q => h3 (by rw [q]; decide)⟩
      · rw [if_neg c2]
        by_cases c3 : pz_nm (ch p) = true
        · rw [if_pos c3]
          obtain ⟨n1, n2, n3⟩ := pz_nm_ne c3
          have hlt := pz_lt hL n1
          refine ⟨by simp only; omega, hlt, fun _ => ⟨by simp only; omega, by simp only [List.length_singleton]; omega, fun s hs => ?_⟩⟩
          rw [List.mem_singleton.mp hs]
          exact ⟨n2, n3⟩
        · rw [if_neg c3]
          by_cases c4 : (ch p = 33 ∨ ch p = 45 ∨ ch p = 40) ∧ o < 6
          · rw [if_pos c4]
            have hlt := pz_lt (p := p) hL (by omega)
            by_cases c5 : ch p = 40
            · rw [if_pos c5]
              have h1 := pz_all hL f 0 (o + 1) (p + 1) hlt
              obtain ⟨a1, a2, a3⟩ := h1
              by_cases c6 : (pz ch f 0 (o + 1) (p + 1)).1 = true ∧ ch (pz ch f 0 (o + 1) (p + 1)).2.1 = 41
              · rw [if_pos c6]
                have hlt2 := pz_lt (p := (pz ch f 0 (o + 1) (p + 1)).2.1) hL (by omega)
                obtain ⟨g1, g2, g3⟩ := a3 c6.1
                exact ⟨by simp only; omega, hlt2, fun _ => ⟨by simp only; omega, by simp only; omega, g3⟩⟩
              · rw [if_neg c6]
                exact ⟨by simp only; omega, a2, fun q => by cases q⟩
            · rw [if_neg c5]
              have h1 := pz_all hL f 5 (o + 1) (p + 1) hlt
              obtain ⟨a1, a2, a3⟩ := h1
              refine ⟨by simp only; omega, a2, fun ht => ?_⟩
              obtain ⟨g1, g2, g3⟩ := a3 ht
              refine ⟨by simp only; omega, by simp only [List.length_append, List.length_singleton]; omega, fun s hs => ?_⟩
              simp only [List.mem_append, List.mem_singleton] at hs
              rcases hs with hs | hs
              · exact g3 s hs
              · rw [hs]
                split
                · exact ⟨by decide, by decide⟩
                · exact ⟨by decide, by decide⟩
          · rw [if_neg c4]
            exact ⟨Nat.le_refl _, h, fun q => by cases q⟩
/-- one line: a text, or a condition and a text; closed by -59 -/
def pz_ln (ch : Nat → Nat) (p : Nat) : pz_R :=
  if (pz ch 48 0 0 p).1 = true ∧ ch (pz ch 48 0 0 p).2.1 = 63 then
    ((pz ch 48 0 0 ((pz ch 48 0 0 p).2.1 + 1)).1, ((pz ch 48 0 0 ((pz ch 48 0 0 p).2.1 + 1)).2.1, (((pz ch 48 0 0 p).2.2 ++ [-63]) ++ (pz ch 48 0 0 ((pz ch 48 0 0 p).2.1 + 1)).2.2) ++ [-59]))
  else ((pz ch 48 0 0 p).1, ((pz ch 48 0 0 p).2.1, (pz ch 48 0 0 p).2.2 ++ [-59]))
def pz_tx (ch : Nat → Nat) : Nat → pz_R → pz_R
  | 0, r => r
  | n + 1, r => if r.1 = true ∧ ch r.2.1 = 59 then pz_tx ch n ((pz_ln ch (r.2.1 + 1)).1, ((pz_ln ch (r.2.1 + 1)).2.1, r.2.2 ++ (pz_ln ch (r.2.1 + 1)).2.2)) else r
def pz_t (ch : Nat → Nat) : pz_R := pz_tx ch 120 (pz_ln ch 0)
theorem pz_ln_ok {ch : Nat → Nat} {L : Nat} (hL : ∀ p, L ≤ p → ch p = 0) {p : Nat} (h : p ≤ L) : p ≤ (pz_ln ch p).2.1 ∧ (pz_ln ch p).2.1 ≤ L ∧ ((pz_ln ch p).1 = true → p < (pz_ln ch p).2.1 ∧ (pz_ln ch p).2.2.length ≤ (pz_ln ch p).2.1 - p + 1) := by
  obtain ⟨a1, a2, a3⟩ := pz_all hL 48 0 0 p h
  unfold pz_ln
  by_cases c : (pz ch 48 0 0 p).1 = true ∧ ch (pz ch 48 0 0 p).2.1 = 63
  · rw [if_pos c]
    have hlt := pz_lt (p := (pz ch 48 0 0 p).2.1) hL (by omega)
    obtain ⟨b1, b2, b3⟩ := pz_all hL 48 0 0 ((pz ch 48 0 0 p).2.1 + 1) hlt
    refine ⟨by simp only; omega, b2, fun ht => ?_⟩
    obtain ⟨g1, g2, -⟩ := a3 c.1
    obtain ⟨e1, e2, -⟩ := b3 ht
    exact ⟨by simp only; omega, by simp only [List.length_append, List.length_singleton]; omega⟩
  · rw [if_neg c]
    refine ⟨a1, a2, fun ht => ?_⟩
    obtain ⟨g1, g2, -⟩ := a3 ht
    exact ⟨g1, by simp only [List.length_append, List.length_singleton]; omega⟩
theorem pz_tx_ok {ch : Nat → Nat} {L : Nat} (hL : ∀ p, L ≤ p → ch p = 0) : ∀ (n : Nat) (r : pz_R), r.2.1 ≤ L → (r.1 = true → r.2.2.length ≤ r.2.1 + 1) → (pz_tx ch n r).2.1 ≤ L ∧ ((pz_tx ch n r).1 = true → (pz_tx ch n r).2.2.length ≤ (pz_tx ch n r).2.1 + 1)
  | 0, r, h, h2 => ⟨h, h2⟩
  | n + 1, r, h, h2 => by
    unfold pz_tx
    by_cases c : r.1 = true ∧ ch r.2.1 = 59
    · rw [if_pos c]
      have hlt := pz_lt (p := r.2.1) hL (by omega)
      obtain ⟨a1, a2, a3⟩ := pz_ln_ok (p := r.2.1 + 1) hL hlt
      refine pz_tx_ok hL n _ a2 (fun ht => ?_)
      obtain ⟨g1, g2⟩ := a3 ht
      have := h2 c.1
      simp only [List.length_append]
      omega
    · rw [if_neg c]; exact ⟨h, h2⟩
theorem pz_t_ok {ch : Nat → Nat} {L : Nat} (hL : ∀ p, L ≤ p → ch p = 0) : (pz_t ch).2.1 ≤ L ∧ ((pz_t ch).1 = true → (pz_t ch).2.2.length ≤ L + 1) := by
  obtain ⟨a1, a2, a3⟩ := pz_ln_ok hL (Nat.zero_le L)
  have h := pz_tx_ok hL 120 (pz_ln ch 0) a2 (fun ht => by have := (a3 ht).2; omega)
  exact ⟨h.1, fun ht => by have := h.2 ht; have := h.1; unfold pz_t at *; omega⟩
