/-! put, element -/
theorem holdsPart_c (N : Nat) {μ : am_M} {s m : Nat} (hs : s < 6) (h : μ.1 145 0 s = nI m) (y z : Int32) : f_X4_holdsPart N (nI s) y z μ = some (if (0 ≤ z ∧ z ≤ nI m) ∧ (0 ≤ y ∧ y ≤ nI m - z) then nI 1 else nI 0, μ) := by
  unfold f_X4_holdsPart f_X4_holdsPart_0
  rw [isShelf_c, bd_some, gI, if_pos (IT_nI (by omega) hs), gd_nI (by omega) (by omega), h, w_cls, bd_some, gI]
  by_cases c : 0 ≤ z ∧ z ≤ nI m
  · rw [if_pos c, gd_nI (by omega) (by omega), h, w_cls, bd_some, gI]
    by_cases d : 0 ≤ y ∧ y ≤ nI m - z
    · rw [if_pos d, if_pos ⟨c, d⟩, li_1, z_1]
    · rw [if_neg d, if_neg (fun q => d q.2), li_0, z_0]
  · rw [if_neg c, if_neg (fun q => c q.1), li_0, z_0]
/-- a row on a shelf, both sides -/
def RD (μ ν : am_M) (s c m : Nat) : Prop := c ≤ 4 ∧ m ≤ 60 ∧ μ.1 144 0 s = nI c ∧ μ.1 145 0 s = nI m ∧ ν.1 211 0 s = nI (50 + c) ∧ ν.1 212 0 s = nI m ∧ ∀ i, i < 60 → μ.2 446 s i = ν.2 213 0 (60 * s + i) ∧ (c = 1 → (μ.2 446 s i).toInt32.toInt64 = μ.2 446 s i)
theorem rf_2 (N : Nat) {μ ν : am_M} {K : Nat} (hK : K ≤ 50) (hH : ∀ s, s < 6 → SH K μ ν s) (x y : Int32) :
    (∃ r, r ≠ 0 ∧ f_X4_refusalOf N x y μ = some (r, μ) ∧ f_X10_refusal N x y ν = some (r, ν)) ∨ ∃ s i c m, s < 6 ∧ x = nI s ∧ y = nI i ∧ i < m ∧ RD μ ν s c m ∧ f_X4_refusalOf N x y μ = some (0, μ) ∧ f_X10_refusal N x y ν = some (0, ν) := by
  unfold f_X4_refusalOf f_X4_refusalOf_0 f_X10_refusal f_X10_refusal_0
  rw [isShelf_c, isShelf_r, bd_some, bd_some, gI, gI]
  by_cases c1 : IT 6 x
  · obtain ⟨s, hs, rfl⟩ := IT_ex (by omega) c1
    rw [if_pos c1, if_pos c1, gd_nI (by omega) (by omega), gd_nI (by omega) (by omega), gd_nI (by omega) (by omega), gd_nI (by omega) (by omega), gd_nI (by omega) (by omega)]
    rcases hH s hs with ⟨h1, h2⟩ | ⟨b, hb, h1, h2, h3⟩ | ⟨c, m, k1, k2, k3, k4, k5, k6, k7⟩
    · rw [h1, h2, if_pos rfl, if_neg (by decide)]
      exact Or.inl ⟨_, by decide, rfl, rfl⟩
    · rw [h1, h3, if_neg (by decide), if_pos (by decide), if_pos (nI_pos' (by omega)), if_neg (by rw [li_50]; exact fun z => by have := (nI_leI (by omega) (by omega)).mp z; omega)]
      exact Or.inl ⟨_, by decide, rfl, rfl⟩
    · have e1 : ¬ nI c = -1 := by rcases (by omega : c = 0 ∨ c = 1 ∨ c = 2 ∨ c = 3 ∨ c = 4) with r | r | r | r | r <;> subst r <;> decide
      have e2 : ¬ nI c = 5 := by rcases (by omega : c = 0 ∨ c = 1 ∨ c = 2 ∨ c = 3 ∨ c = 4) with r | r | r | r | r <;> subst r <;> decide
      rw [holdsPart_c N hs k4, bd_some, gI, k3, k5, k6, if_neg e1, if_neg e2, if_pos (nI_pos' (by omega)), if_pos (show (50 : Int32) ≤ nI (50 + c) by rw [li_50]; exact (nI_leI (by omega) (by omega)).mpr (by omega))]
      by_cases c2 : y < 0
      · rw [if_neg (fun q => absurd c2 (Int32.not_lt.mpr q.2.1)), if_pos c2]
        exact Or.inl ⟨_, by decide, rfl, rfl⟩
      · rw [if_neg c2]
        obtain ⟨i, hi, rfl⟩ := nI_of c2
        by_cases c3 : m ≤ i
        · rw [if_pos (show nI m ≤ nI i from (nI_leI (by omega) (by omega)).mpr c3), if_neg (fun q => by
            have q1 := q.1.2
            rw [li_1, nI_leI (by omega) (by omega)] at q1
            have q2 := q.2.2
            rw [li_1, pk_sub q1, nI_leI (by omega) (by omega)] at q2
            omega)]
          exact Or.inl ⟨_, by decide, rfl, rfl⟩
        · rw [if_neg (show ¬ nI m ≤ nI i from fun z => c3 ((nI_leI (by omega) (by omega)).mp z)), if_pos (⟨⟨by decide, by rw [li_1]; exact (nI_leI (by omega) (by omega)).mpr (by omega)⟩, nI_pos' (by omega), by rw [li_1, pk_sub (by omega)]; exact (nI_leI (by omega) (by omega)).mpr (by omega)⟩)]
          exact Or.inr ⟨s, i, c, m, hs, rfl, rfl, by omega, ⟨k1, k2, k3, k4, k5, k6, k7⟩, rfl, rfl⟩
  · rw [if_neg c1, if_neg c1]
    exact Or.inl ⟨_, by decide, rfl, rfl⟩
theorem low_2 (N : Nat) {c : Nat} (hc : c ≤ 4) (v : Int64) (μ ν : am_M) : ∃ w, f_X4_lowest N (nI c) v μ = some (w, μ) ∧ f_X10_asSort N (nI c) v ν = some (w, ν) ∧ (c = 1 → w.toInt32.toInt64 = w) := by
  unfold f_X4_lowest f_X4_lowest_0 f_X10_asSort f_X10_asSort_0
  rcases (by omega : c = 0 ∨ c = 1 ∨ c = 2 ∨ c = 3 ∨ c = 4) with r | r | r | r | r <;> subst r
  · rw [if_pos (by decide), if_pos (by decide)]
    exact ⟨_, rfl, rfl, fun q => by omega⟩
  · rw [if_neg (by decide), if_pos (by decide), if_neg (by decide), if_pos (by decide)]
    exact ⟨_, rfl, rfl, fun _ => by simp⟩
  · rw [if_neg (by decide), if_neg (by decide), if_pos (by decide), if_neg (by decide), if_neg (by decide), if_pos (by decide)]
    exact ⟨_, rfl, rfl, fun q => by omega⟩
  · rw [if_neg (by decide), if_neg (by decide), if_neg (by decide), if_pos (by decide), if_neg (by decide), if_neg (by decide), if_neg (by decide), if_neg (by decide)]
    exact ⟨_, rfl, rfl, fun q => by omega⟩
  · by_cases q : lg_cmp v 0 = 0
    · rw [if_neg (by decide), if_neg (by decide), if_neg (by decide), if_neg (by decide), if_pos q, if_neg (by decide), if_neg (by decide), if_neg (by decide), if_pos (by decide), if_pos q]
      exact ⟨_, rfl, rfl, fun q => by omega⟩
    · rw [if_neg (by decide), if_neg (by decide), if_neg (by decide), if_neg (by decide), if_neg q, if_neg (by decide), if_neg (by decide), if_neg (by decide), if_pos (by decide), if_neg q]
      exact ⟨_, rfl, rfl, fun q => by omega⟩
theorem put_ag (N : Nat) (x y : Int32) (v : Int64) : AG (f_X9_put N x y v) (f_X10_put N x y v) := by
  intro μ ν h
  have h0 := h
  obtain ⟨hA, hB, ⟨K, kd, n, hK, hT, hH⟩⟩ := h
  unfold f_X9_put f_X9_put_0 f_X10_put f_X10_put_0 f_X10_put_37
  rcases rf_2 N hK.1 hH x y with ⟨r, hr, e1, e2⟩ | ⟨s, i, c, m, hs, rfl, rfl, him, hR, e1, e2⟩
  · rw [e1, e2, bd_some, bd_some, if_neg hr, if_neg hr, if_neg hr]
    exact ⟨_, μ, ν, rfl, rfl, h0, cO.rf, rO.rf⟩
  · obtain ⟨k1, k2, k3, k4, k5, k6, k7⟩ := hR
    rw [e1, e2, bd_some, bd_some, if_pos rfl, if_pos rfl]
    obtain ⟨w, l1, l2, l3⟩ := low_2 N k1 v μ ν
    unfold f_X4_write f_X4_write_0
    rw [isShelf_c, bd_some, gI, if_pos (IT_nI (by omega) hs), w_cls, bd_some, gI, if_pos (by rw [li_0, li_59]; exact ⟨nI_pos' (by omega), (nI_leI (by omega) (by omega)).mpr (by omega)⟩), gd_nI (by omega) (by omega), gd_nI (by omega) (by omega), k3, l1, bd_some, gd_nI (by omega) (by omega), am_nme, bd_some, gd_nI (by omega) (by omega), k5, li_50, pk_sub (by omega), show 50 + c - 50 = c by omega, l2, bd_some, li_60, pk_mul, nI_add, gd_nI (by omega) (by omega), am_nme, if_pos rfl]
    obtain ⟨g1, g2, g3⟩ := al_sh h0 hs (sC.rf.ul (j := i) (x := w)) (sR.rf.ul (j := 60 * s + i) (x := w) (by omega)) (fun K kd _ _ => Or.inr (Or.inr ⟨c, m, k1, k2, k3, k4, k5, k6, fun j hj => by
      rw [ul2, ul2]
      by_cases q : j = i
      · rw [if_pos ⟨rfl, rfl, q⟩, if_pos ⟨rfl, rfl, by omega⟩]
        exact ⟨rfl, l3⟩
      · rw [if_neg (fun z => q z.2.2), if_neg (fun z => q (by omega))]
        exact k7 j hj⟩))
    exact ⟨_, _, _, rfl, rfl, g1, g2, g3⟩
theorem read_c (N : Nat) {s i : Nat} (hs : s < 6) (hi : i < 60) (μ : am_M) : f_X4_read N (nI s) (nI i) μ = some (μ.2 446 s i, μ) := by
  unfold f_X4_read f_X4_read_0
  rw [isShelf_c, bd_some, gI, if_pos (IT_nI (by omega) hs), w_cls, bd_some, gI, if_pos (by rw [li_0, li_59]; exact ⟨nI_pos' (by omega), (nI_leI (by omega) (by omega)).mpr (by omega)⟩), gd_nI (by omega) (by omega), gd_nI (by omega) (by omega)]
theorem element_ag (N : Nat) (x y : Int32) : AG (f_X9_element N x y) (f_X10_element N x y) := by
  intro μ ν h
  have h0 := h
  obtain ⟨hA, hB, ⟨K, kd, n, hK, hT, hH⟩⟩ := h
  unfold f_X9_element f_X9_element_0 f_X10_element f_X10_element_0
  rcases rf_2 N hK.1 hH x y with ⟨r, hr, e1, e2⟩ | ⟨s, i, c, m, hs, rfl, rfl, him, hR, e1, e2⟩
  · rw [e1, e2, bd_some, bd_some, if_neg hr, if_neg hr]
    exact ⟨_, μ, ν, rfl, rfl, h0, cO.rf, rO.rf⟩
  · obtain ⟨k1, k2, k3, k4, k5, k6, k7⟩ := hR
    rw [e1, e2, bd_some, bd_some, if_pos rfl, if_pos rfl, read_c N hs (by omega), bd_some, li_60, pk_mul, nI_add, gd_nI (by omega) (by omega), (k7 i (by omega)).1]
    exact ⟨_, μ, ν, rfl, rfl, h0, cO.rf, rO.rf⟩
