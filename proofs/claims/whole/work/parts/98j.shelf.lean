/-! shelves: one row changes -/
def sC (s : Nat) (μ μ' : am_M) : Prop := (∀ k r i, ¬ ((k = 144 ∨ k = 145) ∧ i = s) → μ'.1 k r i = μ.1 k r i) ∧ ∀ k r i, ¬ (k = 446 ∧ r = s) → μ'.2 k r i = μ.2 k r i
def sR (s : Nat) (μ μ' : am_M) : Prop := (∀ k r i, ¬ ((k = 211 ∨ k = 212) ∧ i = s) → μ'.1 k r i = μ.1 k r i) ∧ ∀ k r i, ¬ ((k = 213 ∧ 60 * s ≤ i ∧ i < 60 * s + 60) ∨ k = 214) → μ'.2 k r i = μ.2 k r i
theorem sC.rf {s : Nat} {μ : am_M} : sC s μ μ := ⟨fun _ _ _ _ => rfl, fun _ _ _ _ => rfl⟩
theorem sR.rf {s : Nat} {μ : am_M} : sR s μ μ := ⟨fun _ _ _ _ => rfl, fun _ _ _ _ => rfl⟩
theorem sC.tr {s : Nat} {μ μ1 μ2 : am_M} (h : sC s μ μ1) (g : sC s μ1 μ2) : sC s μ μ2 := ⟨fun k r i q => (g.1 k r i q).trans (h.1 k r i q), fun k r i q => (g.2 k r i q).trans (h.2 k r i q)⟩
theorem sR.tr {s : Nat} {μ μ1 μ2 : am_M} (h : sR s μ μ1) (g : sR s μ1 μ2) : sR s μ μ2 := ⟨fun k r i q => (g.1 k r i q).trans (h.1 k r i q), fun k r i q => (g.2 k r i q).trans (h.2 k r i q)⟩
theorem sC.ui {s : Nat} {μ μ1 : am_M} (h : sC s μ μ1) {k : Nat} {x : Int32} (hk : k = 144 ∨ k = 145) : sC s μ (am_ui μ1 k 0 s x) := ⟨fun k' r i q => by
  rw [ui1, if_neg (fun z => q ⟨by rw [z.1]; exact hk, z.2.2⟩)]
  exact h.1 k' r i q, h.2⟩
theorem sC.ul {s : Nat} {μ μ1 : am_M} (h : sC s μ μ1) {j : Nat} {x : Int64} : sC s μ (am_ul μ1 446 s j x) := ⟨h.1, fun k' r i q => by
  rw [ul2, if_neg (fun z => q ⟨z.1, z.2.1⟩)]
  exact h.2 k' r i q⟩
theorem sR.ui {s : Nat} {μ μ1 : am_M} (h : sR s μ μ1) {k : Nat} {x : Int32} (hk : k = 211 ∨ k = 212) : sR s μ (am_ui μ1 k 0 s x) := ⟨fun k' r i q => by
  rw [ui1, if_neg (fun z => q ⟨by rw [z.1]; exact hk, z.2.2⟩)]
  exact h.1 k' r i q, h.2⟩
theorem sR.ul {s : Nat} {μ μ1 : am_M} (h : sR s μ μ1) {j : Nat} {x : Int64} (hj : 60 * s ≤ j ∧ j < 60 * s + 60) : sR s μ (am_ul μ1 213 0 j x) := ⟨h.1, fun k' r i q => by
  rw [ul2, if_neg (fun z => q (Or.inl ⟨z.1, by omega⟩))]
  exact h.2 k' r i q⟩
theorem sR.ul4 {s : Nat} {μ μ1 : am_M} (h : sR s μ μ1) {j : Nat} {x : Int64} : sR s μ (am_ul μ1 214 0 j x) := ⟨h.1, fun k' r i q => by
  rw [ul2, if_neg (fun z => q (Or.inr z.1))]
  exact h.2 k' r i q⟩
theorem al_sh {μ ν μ' ν' : am_M} {s : Nat} (h : AL μ ν) (hs : s < 6) (hc : sC s μ μ') (hr : sR s ν ν') (hS : ∀ K kd, XK μ ν K kd → SH K μ ν s → SH K μ' ν' s) : AL μ' ν' ∧ cO μ μ' ∧ rO ν ν' := by
  obtain ⟨hA, hB, ⟨K, kd, n, hK, hT, hH⟩⟩ := h
  refine ⟨⟨hA.ag (fun k r i q => hc.1 k r i (fun z => ?_)) (fun k r i q => hr.1 k r i (fun z => ?_)), hB.ag (hc.1 3 0 1 (by omega)) (fun j => hc.1 48 0 j (by omega)) (hr.1 10 0 14 (by omega)) (fun j => hr.1 173 0 j (by omega)), ⟨K, kd, n, ⟨hK.1, (hc.1 8 0 1 (by omega)).trans hK.2.1, (hr.1 10 0 45 (by omega)).trans hK.2.2.1, fun j hj => ⟨(hK.2.2.2 j hj).1, (hc.1 128 0 j (by omega)).trans (hK.2.2.2 j hj).2.1, (hr.1 206 0 j (by omega)).trans (hK.2.2.2 j hj).2.2⟩⟩, ⟨hT.1, (hc.1 8 0 3 (by omega)).trans hT.2.1, (hr.1 10 0 48 (by omega)).trans hT.2.2.1, fun j hj hj2 => (hc.1 130 0 j (by omega)).trans ((hT.2.2.2 j hj hj2).trans (hr.1 207 0 j (by omega)).symm)⟩, fun z hz => ?_⟩⟩, fun k hk r i => ⟨hc.1 k r i (fun z => ?_), hc.2 k r i (fun z => ?_)⟩, fun k hk r i => ⟨hr.1 k r i (fun z => ?_), hr.2 k r i (fun z => ?_)⟩⟩
  · simp only [qA, Bool.or_eq_true, Bool.and_eq_true, beq_iff_eq] at q
    omega
  · simp only [rA, Bool.or_eq_true, Bool.and_eq_true, beq_iff_eq] at q
    omega
  · by_cases q : z = s
    · subst q
      exact hS K kd hK (hH z hz)
    · exact (hH z hz).ag (hc.1 _ _ _ (by omega)) (hc.1 _ _ _ (by omega)) (fun i hi => hc.2 _ _ _ (by omega)) (hr.1 _ _ _ (by omega)) (hr.1 _ _ _ (by omega)) (fun i hi => hr.2 _ _ _ (by omega))
  · have := of_decide_eq_true hk
    omega
  · have := of_decide_eq_true hk
    omega
  · have := of_decide_eq_false hk
    omega
  · have := of_decide_eq_false hk
    omega
theorem isShelf_c (N : Nat) (x : Int32) (μ : am_M) : f_X4_isShelf N x μ = some (if IT 6 x then nI 1 else nI 0, μ) := by
  unfold f_X4_isShelf f_X4_isShelf_0
  rw [w_cls, bd_some, z_ite]
  rfl
theorem isShelf_r (N : Nat) (x : Int32) (μ : am_M) : f_X10_isShelf N x μ = some (if IT 6 x then nI 1 else nI 0, μ) := by
  unfold f_X10_isShelf f_X10_isShelf_0
  rw [w_ref N x 0 5 0 5 (by decide) (by decide), bd_some, z_ite]
  rfl
theorem hd_lp (N : Nat) {s : Nat} (hs : s < 6) {μ0 : am_M} : ∀ (n m j : Nat) (μ : am_M), j + n = 60 → n + 1 ≤ m → sC s μ0 μ → μ.1 = μ0.1 → (∀ i, i < j → μ.2 446 s i = 0) → ∃ μ', f_X4_hold_26_lp N m (nI s) (nI j) μ = some ((), μ') ∧ sC s μ0 μ' ∧ μ'.1 = μ0.1 ∧ ∀ i, i < 60 → μ'.2 446 s i = 0
  | n, 0, j, μ, h1, h2, hF, hI, h3 => by omega
  | 0, m + 1, j, μ, h1, h2, hF, hI, h3 => by
    unfold f_X4_hold_26_lp f_X4_hold_26
    rw [li_60, if_pos ((nI_leI (by omega) (by omega)).mpr (by omega))]
    exact ⟨μ, rfl, hF, hI, fun i hi => h3 i (by omega)⟩
  | n + 1, m + 1, j, μ, h1, h2, hF, hI, h3 => by
    unfold f_X4_hold_26_lp f_X4_hold_26
    rw [li_60, if_neg (fun z => by have := (nI_leI (by omega) (by omega)).mp z; omega), gd_nI (by omega) (by omega), gd_nI (by omega) (by omega), am_nme, nI_1]
    refine hd_lp N hs n m (j + 1) _ (by omega) (by omega) hF.ul hI (fun i hi => ?_)
    rw [ul2]
    by_cases q : i = j
    · rw [if_pos ⟨rfl, rfl, q⟩]
    · rw [if_neg (fun z => q z.2.2)]
      exact h3 i (by omega)
theorem hold_c (N : Nat) (hN : 130 ≤ N) {s : Nat} (hs : s < 6) (w z : Int32) (μ : am_M) : ∃ μ', f_X4_hold N (nI s) w z μ = some ((), μ') ∧ sC s μ μ' ∧ μ'.1 144 0 s = w ∧ μ'.1 145 0 s = z ∧ ∀ i, i < 60 → μ'.2 446 s i = 0 := by
  unfold f_X4_hold f_X4_hold_0
  rw [isShelf_c, bd_some, gI, if_pos (IT_nI (by omega) hs), gd_nI (by omega) (by omega), am_nme, gd_nI (by omega) (by omega), am_nme, li_0]
  obtain ⟨μ', e1, e2, e3, e4⟩ := hd_lp N hs (μ0 := am_ui (am_ui μ 144 0 s w) 145 0 s z) 60 N 0 _ (by omega) (by omega) sC.rf rfl (fun i hi => by omega)
  exact ⟨μ', e1, ((sC.rf.ui (Or.inl rfl)).ui (Or.inr rfl)).tr e2, by rw [e3]; simp [ui1], by rw [e3]; simp [ui1], e4⟩
theorem has_c (N : Nat) {μ : am_M} {K : Nat} (hK : K ≤ 50) (h : μ.1 8 0 1 = nI K) (x : Int32) : f_X3_has N x μ = some (if IT K x then nI 1 else nI 0, μ) := by
  unfold f_X3_has f_X3_has_0
  rw [h, w_cls, bd_some, gI]
  by_cases c : IT K x
  · rw [if_pos c, if_pos c]
    obtain ⟨t, ht, rfl⟩ := IT_ex (by omega) c
    rw [if_neg (by rw [li_50]; exact fun z => by have := (nI_leI (by omega) (by omega)).mp z; omega), li_1, z_1]
  · rw [if_neg c, if_neg c, li_0, z_0]
theorem isBody_r (N : Nat) {μ : am_M} {K : Nat} (h : μ.1 10 0 45 = nI K) (x : Int32) : f_X10_isBody N x μ = some (if IT K x then nI 1 else nI 0, μ) := by
  unfold f_X10_isBody f_X10_isBody_0
  rw [h, w_ref N x 0 (nI K - 1) _ _ (by decide) rfl, bd_some, z_ite]
theorem keep_ag (N : Nat) (hN : 130 ≤ N) (x y : Int32) : AG (f_X9_keep N x y) (f_X10_keep N x y) := by
  intro μ ν h
  have no : ∃ r μ' ν', some ((-1 : Int32), μ) = some (r, μ') ∧ some ((-1 : Int32), ν) = some (r, ν') ∧ AL μ' ν' ∧ cO μ μ' ∧ rO ν ν' := ⟨_, μ, ν, rfl, rfl, h, cO.rf, rO.rf⟩
  have h0 := h
  obtain ⟨hA, hB, ⟨K, kd, n, hK, hT, hH⟩⟩ := h
  unfold f_X9_keep f_X9_keep_0 f_X10_keep f_X10_keep_0
  rw [isShelf_c, isShelf_r, bd_some, bd_some, gI, gI]
  by_cases c1 : IT 6 x
  · rw [if_pos c1, if_pos c1, has_c N hK.1 hK.2.1, isBody_r N hK.2.2.1, bd_some, bd_some, gI, gI]
    obtain ⟨s, hs, rfl⟩ := IT_ex (by omega) c1
    unfold f_X9_keep_29 f_X9_keep_44 f_X10_keep_22
    rw [gd_nI (by omega) (by omega), am_nme, gd_nI (by omega) (by omega), am_nme]
    have hG : ∀ v, sR s ν (am_ui (am_ui ν 211 0 s v) 212 0 s 0) := fun v => (sR.rf.ui (Or.inl rfl)).ui (Or.inr rfl)
    by_cases c2 : y = -1
    · rw [if_pos c2, if_pos c2, if_pos c2]
      obtain ⟨μ', e1, e2, e3, e4, e5⟩ := hold_c N hN hs (-1) y μ
      rw [e1, bd_some]
      obtain ⟨g1, g2, g3⟩ := al_sh h0 hs e2 (hG y) (fun K kd _ _ => Or.inl ⟨e3, by rw [c2]; simp [ui1]⟩)
      exact ⟨_, μ', _, rfl, rfl, g1, g2, g3⟩
    · rw [if_neg c2, if_neg c2, if_neg c2]
      by_cases c3 : IT K y
      · rw [if_pos c3, if_pos c3]
        obtain ⟨μ', e1, e2, e3, e4, e5⟩ := hold_c N hN hs 5 y μ
        rw [e1, bd_some]
        obtain ⟨g1, g2, g3⟩ := al_sh h0 hs e2 (hG y) (fun K' kd' hK' _ => by
          have : K' = K := by
            have := hK'.2.1
            rw [hK.2.1] at this
            exact ((nI_eq (by have := hK.1; omega) (by have := hK'.1; omega)).mp this).symm
          subst this
          obtain ⟨b, hb, e⟩ := IT_ex (by have := hK.1; omega) c3
          exact Or.inr (Or.inl ⟨b, hb, e3, e4.trans e, by simp [ui1, e]⟩))
        exact ⟨_, μ', _, rfl, rfl, g1, g2, g3⟩
      · rw [if_neg c3, if_neg c3]; exact no
  · rw [if_neg c1, if_neg c1]; exact no
theorem rw_lp (N : Nat) {s : Nat} (hs : s < 6) {μ0 : am_M} : ∀ (n m j : Nat) (μ : am_M), j + n = 60 → n + 1 ≤ m → sR s μ0 μ → μ.1 = μ0.1 → (∀ i, i < j → μ.2 213 0 (60 * s + i) = 0) → ∃ μ', f_X10_row_57_lp N m (nI s) (nI (60 * s + j)) μ = some (1, μ') ∧ sR s μ0 μ' ∧ μ'.1 = μ0.1 ∧ ∀ i, i < 60 → μ'.2 213 0 (60 * s + i) = 0
  | n, 0, j, μ, h1, h2, hF, hI, h3 => by omega
  | 0, m + 1, j, μ, h1, h2, hF, hI, h3 => by
    unfold f_X10_row_57_lp f_X10_row_57
    rw [li_60, pk_mul, nI_add, if_pos ((nI_leI (by omega) (by omega)).mpr (by omega))]
    exact ⟨μ, rfl, hF, hI, fun i hi => h3 i (by omega)⟩
  | n + 1, m + 1, j, μ, h1, h2, hF, hI, h3 => by
    unfold f_X10_row_57_lp f_X10_row_57
    rw [li_60, pk_mul, nI_add, if_neg (fun z => by have := (nI_leI (by omega) (by omega)).mp z; omega), gd_nI (by omega) (by omega), am_nme, nI_1]
    refine rw_lp N hs n m (j + 1) _ (by omega) (by omega) (hF.ul (by omega)) hI (fun i hi => ?_)
    rw [ul2]
    by_cases q : i = j
    · rw [if_pos ⟨rfl, rfl, by omega⟩]
    · rw [if_neg (fun z => q (by omega))]
      exact h3 i (by omega)
theorem row_ag (N : Nat) (hN : 130 ≤ N) (x y z : Int32) : AG (f_X9_row N x y z) (f_X10_row N x y z) := by
  intro μ ν h
  have no : ∀ v : Int32, ∃ r μ' ν', some (v, μ) = some (r, μ') ∧ some (v, ν) = some (r, ν') ∧ AL μ' ν' ∧ cO μ μ' ∧ rO ν ν' := fun v => ⟨_, μ, ν, rfl, rfl, h, cO.rf, rO.rf⟩
  unfold f_X9_row f_X9_row_0 f_X10_row f_X10_row_0
  rw [isShelf_c, isShelf_r, bd_some, bd_some, gI, gI]
  by_cases c1 : IT 6 x
  · rw [if_pos c1, if_pos c1]
    obtain ⟨s, hs, rfl⟩ := IT_ex (by omega) c1
    simp only [w_cls, w_ref N y 0 4 0 4 (by decide) (by decide), bd_some, gI]
    by_cases c2 : 0 ≤ y ∧ y ≤ 4
    · rw [if_pos c2, if_pos c2]
      by_cases c3 : z ≤ 60
      · rw [if_pos c3, if_pos c3]
        by_cases c4 : 0 ≤ z
        · rw [if_pos c4, if_pos c4]
          obtain ⟨c, hc, rfl⟩ := nI_of2 (M := 4) (n := 4) (by decide) (Int32.not_lt.mpr c2.1) c2.2
          obtain ⟨l, hl, rfl⟩ := nI_of2 (M := 60) (n := 60) (by decide) (Int32.not_lt.mpr c4) c3
          obtain ⟨μ', e1, e2, e3, e4, e5⟩ := hold_c N hN hs (nI c) (nI l) μ
          rw [e1, bd_some, gd_nI (by omega) (by omega), am_nme, gd_nI (by omega) (by omega), am_nme, am_nme, li_60, pk_mul, li_50, nI_add]
          obtain ⟨ν', g1, g2, g3, g4⟩ := rw_lp N hs (μ0 := am_ui (am_ui ν 211 0 s (nI (50 + c))) 212 0 s (nI l)) 60 N 0 _ (by omega) (by omega) sR.rf rfl (fun i hi => by omega)
          have g1' : f_X10_row_57_lp N N (nI s) (nI (60 * s)) (am_ui (am_ui ν 211 0 s (nI (50 + c))) 212 0 s (nI l)) = some (1, ν') := g1
          rw [g1']
          obtain ⟨k1, k2, k3⟩ := al_sh h hs e2 (((sR.rf.ui (Or.inl rfl)).ui (Or.inr rfl)).tr g2) (fun K kd _ _ => Or.inr (Or.inr ⟨c, l, hc, hl, e3, e4, by rw [g3]; simp [ui1], by rw [g3]; simp [ui1], fun i hi => ⟨by rw [e5 i hi, g4 i hi], fun _ => by rw [e5 i hi]; rfl⟩⟩))
          exact ⟨_, μ', ν', rfl, rfl, k1, k2, k3⟩
        · rw [if_neg c4, if_neg c4]; exact no _
      · rw [if_neg c3, if_neg c3]; exact no _
    · rw [if_neg c2, if_neg c2]; exact no _
  · rw [if_neg c1, if_neg c1]; exact no _
