/-! acts: both sides run the same bodies -/
def bO (t k : Nat) : Int32 := (am_tab t).getD k 0
def aO (k : Nat) : Int32 := (am_tab 4).getD k 0
def up_ (k : Nat) : Nat := if k = 3 then 2 else if k = 4 then 2 else if k = 5 then 3 else if k = 7 then 4 else 0
theorem aO_up : ∀ k, k < 8 → k ≠ 0 → aO k = nI (up_ k) := by decide +kernel
theorem up_lt : ∀ k, k < 8 → k ≠ 0 → up_ k < k := by decide +kernel
theorem bO_0 : ∀ t, t < 4 → bO t 0 ≠ 0 := by decide +kernel
theorem bodyOf_c (N : Nat) {k t : Nat} (hk : k < 8) (ht : t < 4) (μ : am_M) : f_X3_bodyOf N (nI k) (nI t) μ = some (bO t k, μ) := by
  unfold f_X3_bodyOf f_X3_bodyOf_0
  rw [w_cls, bd_some, gI, if_pos (by rw [li_0, li_7]; exact ⟨nI_pos' (by omega), (nI_leI (by omega) (by omega)).mpr (by omega)⟩), gd_nI (by omega) (by omega), gd_nI (by omega) (by omega), gd_nI (by omega) (by omega), gd_nI (by omega) (by omega)]
  rcases (by omega : t = 0 ∨ t = 1 ∨ t = 2 ∨ t = 3) with r | r | r | r <;> subst r
  · rw [if_pos (by decide)]; rfl
  · rw [if_neg (by decide), if_pos (by decide)]; rfl
  · rw [if_neg (by decide), if_neg (by decide), if_pos (by decide)]; rfl
  · rw [if_neg (by decide), if_neg (by decide), if_neg (by decide)]; rfl
theorem aboveOf_c (N : Nat) {k : Nat} (hk : k < 8) (μ : am_M) : f_X3_aboveOf N (nI k) μ = some (aO k, μ) := by
  unfold f_X3_aboveOf f_X3_aboveOf_0
  rw [w_cls, bd_some, gI, if_pos (by rw [li_0, li_7]; exact ⟨nI_pos' (by omega), (nI_leI (by omega) (by omega)).mpr (by omega)⟩), gd_nI (by omega) (by omega)]
  rfl
/-- the kind whose body runs -/
def fk (t : Nat) : Nat → Nat → Nat
  | 0, k => k
  | n + 1, k => if bO t k = 0 then fk t n (up_ k) else k
theorem rn_lp (N : Nat) {t : Nat} (ht : t < 4) {g1 g2 : Int32 → Int32 → Int32 → Int32 → am_M → Option (Int32 × am_M)} {x z : Int32} {μ : am_M} : ∀ (n m j k : Nat), k < 8 → k ≤ n → j + k ≤ 7 → n + 1 ≤ m → f_X3_run_6_lp N g1 g2 m (nI t) x z (nI k) (nI j) μ = f_X3_run_35 N g1 g2 (nI t) x z (nI (fk t (n + 1) k)) μ
  | n, 0, j, k, h1, h2, h3, h4 => by omega
  | n, m + 1, j, k, h1, h2, h3, h4 => by
    unfold f_X3_run_6_lp f_X3_run_6 fk
    rw [if_neg (by rw [li_8]; exact fun z => by have := (nI_leI (by omega) (by omega)).mp z; omega), bodyOf_c N h1 ht, bd_some]
    by_cases q : bO t k = 0
    · have hk : k ≠ 0 := fun e => bO_0 t ht (by rw [← e]; exact q)
      have hu := up_lt k h1 hk
      rw [if_pos q, if_pos q, aboveOf_c N h1, bd_some, aO_up k h1 hk, nI_1]
      cases n with
      | zero => omega
      | succ n => exact rn_lp N ht n m (j + 1) (up_ k) (by omega) (by omega) (by omega) (by omega)
    · rw [if_neg q, if_neg q]
def p_ru (k i : Nat) : Bool := k == 130 || (k == 8 && i == 3)
def p_rv (k i : Nat) : Bool := k == 207 || (k == 10 && i == 48)
def RU (μ ν : am_M) (o : Int32) (q n : Nat) : Prop := μ.1 8 0 4 = o ∧ ν.1 10 0 50 = o ∧ μ.1 8 0 5 = nI q ∧ ν.1 10 0 49 = nI q ∧ μ.1 8 0 3 = nI n ∧ ν.1 10 0 48 = nI n ∧ ∀ j, j < n → j < 24 → μ.1 130 0 j = ν.1 207 0 j
/-- both sides of a stretch of an act, with at most c bodies more -/
def RG (o : Int32) (q c : Nat) (f g : am_M → Option (Int32 × am_M)) : Prop := ∀ (μ ν : am_M) (n : Nat), n + c ≤ 1000 → RU μ ν o q n → ∃ r μ' ν' n', f μ = some (r, μ') ∧ g ν = some (r, ν') ∧ RU μ' ν' o q n' ∧ n' ≤ n + c ∧ fr p_ru μ μ' ∧ fr p_rv ν ν'
theorem RU.tick {μ ν : am_M} {o : Int32} {q n : Nat} (h : RU μ ν o q n) (hn : n < 1000) : RU (am_ui μ 8 0 3 (nI (n + 1))) (am_ui ν 10 0 48 (nI (n + 1))) o q n → True := fun _ => trivial
theorem cs (N : Nat) (hN : 130 ≤ N) {o : Int32} {q k k' t : Nat} {b ab : Int32} (hk : k < 8) (ht : t < 4) (hf : fk t 8 k = k') (hk' : k' < 8) (hb : bO t k' = b) (hb0 : b ≠ 0) (ha : aO k' = ab) {dep : Nat} (hd : dep ≤ 30) (D : Nat) (x : Int32) {μ ν : am_M} {n : Nat} (h : RU μ ν o q n) (hn : n < 1000) :
    ∃ μ1 ν1, (f_X3_run_g N (D + 2)).1 (nI k) (nI t) x (nI dep) μ = f_X3_runBody_0 N (f_X3_run_g N D).1 (f_X3_run_g N D).2 b ab x (nI (dep + 1)) μ1 ∧ f_X10_begins N b ν = some ((), ν1) ∧ RU μ1 ν1 o q (n + 1) ∧ fr p_ru μ μ1 ∧ fr p_rv ν ν1 := by
  obtain ⟨u1, u2, u3, u4, u5, u6, u7⟩ := h
  have e0 : (f_X3_run_g N (D + 2)).1 (nI k) (nI t) x (nI dep) μ = f_X3_run_6_lp N (f_X3_run_g N (D + 1)).1 (f_X3_run_g N (D + 1)).2 N (nI t) x (nI dep) (nI k) (nI 0) μ := rfl
  have e1 := rn_lp N ht (g1 := (f_X3_run_g N (D + 1)).1) (g2 := (f_X3_run_g N (D + 1)).2) (x := x) (z := nI dep) (μ := μ) 7 N 0 k hk (by omega) (by omega) (by omega)
  rw [e0, e1, show fk t (7 + 1) k = k' from hf]
  have bid : ∀ w : Option (Int32 × am_M), am_bd w (fun y m => some (y, m)) = w := fun w => by cases w <;> rfl
  unfold f_X3_run_35 f_X10_begins f_X10_begins_0
  rw [bodyOf_c N hk' ht, bd_some, hb, if_neg hb0, if_pos (by rw [li_30]; exact (nI_leI (by omega) (by omega)).mpr hd), u5, u6]
  by_cases c : 24 ≤ n
  · rw [if_pos (by rw [li_24]; exact (nI_leI (by omega) (by omega)).mpr c), if_pos (by rw [li_24]; exact (nI_leI (by omega) (by omega)).mpr c)]
    unfold f_X3_run_77 f_X10_begins_19
    simp only [am_nme]
    rw [aboveOf_c N hk', bd_some, ha, bid, u5, u6, nI_1, nI_1]
    refine ⟨_, _, rfl, rfl, ⟨?_, ?_, ?_, ?_, ?_, ?_, ?_⟩, fr.rf.ui rfl, fr.rf.ui rfl⟩
    · simp [ui1, u1]
    · simp [ui1, u2]
    · simp [ui1, u3]
    · simp [ui1, u4]
    · simp [ui1]
    · simp [ui1]
    · intro j hj hj2
      simp only [ui1, Nat.reduceEqDiff, false_and, if_false]
      exact u7 j (by omega) hj2
  · rw [if_neg (by rw [li_24]; exact fun z => c ((nI_leI (by omega) (by omega)).mp z)), if_neg (by rw [li_24]; exact fun z => c ((nI_leI (by omega) (by omega)).mp z)), gd_nI (by omega) (by omega), gd_nI (by omega) (by omega)]
    unfold f_X3_run_77 f_X10_begins_19
    simp only [am_nme]
    rw [aboveOf_c N hk', bd_some, ha, bid]
    simp only [ui1, Nat.reduceEqDiff, false_and, if_false, u5, u6, nI_1]
    refine ⟨_, _, rfl, rfl, ⟨?_, ?_, ?_, ?_, ?_, ?_, ?_⟩, (fr.rf.ui rfl).ui rfl, (fr.rf.ui rfl).ui rfl⟩
    · simp [ui1, u1]
    · simp [ui1, u2]
    · simp [ui1, u3]
    · simp [ui1, u4]
    · simp [ui1]
    · simp [ui1]
    · intro j hj hj2
      by_cases r : j = n
      · subst r
        simp [ui1]
      · simp only [ui1, Nat.reduceEqDiff, false_and, if_false, r, and_false]
        exact u7 j (by omega) hj2
/-- buys: x and the number -/
theorem buy_0 (N : Nat) (hN : 130 ≤ N) {o : Int32} {q k k2 : Nat} (hk : k = 0 ∨ k = 2 ∨ k = 3 ∨ k = 4 ∨ k = 7) (hk2 : k2 = 0 ∨ k2 = 2 ∨ k2 = 3 ∨ k2 = 4 ∨ k2 = 7) {dep : Nat} (hd : dep ≤ 30) (D D2 : Nat) (x : Int32) : RG o q 1 ((f_X3_run_g N (D + 2)).1 (nI k) (nI 0) x (nI dep)) (f_X10_buysAs_r N (D2 + 1) (nI k2) x) := by
  intro μ ν n hn h
  obtain ⟨μ1, ν1, e1, e2, e3, e4, e5⟩ := cs N hN (k := k) (k' := 0) (t := 0) (b := 1) (ab := -1) (by omega) (by omega) (by rcases hk with r | r | r | r | r <;> subst r <;> decide) (by omega) (by decide) (by decide) (by decide) hd D x h (by omega)
  have n1 : ¬ nI k2 = 1 ∧ ¬ nI k2 = 5 ∧ ¬ nI k2 = 6 := by rcases hk2 with r | r | r | r | r <;> subst r <;> decide
  rw [e1]
  unfold f_X10_buysAs_r f_X10_buysAs_0 f_X3_runBody_0
  rw [if_pos rfl, if_neg n1.1, if_neg n1.2.1, if_neg n1.2.2, e2, bd_some, e3.1, e3.2.1]
  exact ⟨_, μ1, ν1, n + 1, rfl, rfl, e3, by omega, e4, e5⟩
theorem buy_all (N : Nat) (hN : 130 ≤ N) {o : Int32} {q k : Nat} (hk : k < 8) {dep : Nat} (hd : dep ≤ 29) (D D2 : Nat) (x : Int32) : RG o q 2 ((f_X3_run_g N (D + 4)).1 (nI k) (nI 0) x (nI dep)) (f_X10_buysAs_r N (D2 + 2) (nI k) x) := by
  intro μ ν n hn h
  rcases (by omega : (k = 0 ∨ k = 2 ∨ k = 3 ∨ k = 4 ∨ k = 7) ∨ k = 1 ∨ k = 5 ∨ k = 6) with r | r | r | r
  · obtain ⟨r', μ', ν', n', e⟩ := buy_0 N hN (o := o) (q := q) r r (dep := dep) (by omega) (D + 2) (D2 + 1) x μ ν n (by omega) h
    exact ⟨r', μ', ν', n', e.1, e.2.1, e.2.2.1, by omega, e.2.2.2.2⟩
  · subst r
    obtain ⟨μ1, ν1, e1, e2, e3, e4, e5⟩ := cs N hN (k := 1) (k' := 1) (t := 0) (b := 20) (ab := nI 0) (by omega) (by omega) (by decide) (by omega) (by decide) (by decide) (by decide) (dep := dep) (by omega) (D + 2) x h (by omega)
    obtain ⟨r', μ', ν', n', g1, g2, g3, g4, g5, g6⟩ := buy_0 N hN (o := o) (q := q) (Or.inl rfl) (Or.inl rfl) (dep := dep + 1) (by omega) D D2 x μ1 ν1 (n + 1) (by omega) e3
    have e1' : (f_X3_run_g N (D + 4)).1 (nI 1) (nI 0) x (nI dep) μ = _ := e1
    rw [e1']
    unfold f_X3_runBody_0 f_X10_buysAs_r f_X10_buysAs_0
    rw [if_neg (by decide), if_neg (by decide), if_neg (by decide), if_neg (by decide), if_pos rfl, if_pos (by decide), e2, bd_some, li_0, g1, bd_some, g2, bd_some]
    exact ⟨_, μ', ν', n', rfl, rfl, g3, by omega, e4.tr g5, e5.tr g6⟩
  · subst r
    obtain ⟨μ1, ν1, e1, e2, e3, e4, e5⟩ := cs N hN (k := 5) (k' := 5) (t := 0) (b := 60) (ab := nI 3) (by omega) (by omega) (by decide) (by omega) (by decide) (by decide) (by decide) (dep := dep) (by omega) (D + 2) x h (by omega)
    obtain ⟨r', μ', ν', n', g1, g2, g3, g4, g5, g6⟩ := buy_0 N hN (o := o) (q := q) (k := 3) (k2 := 0) (by omega) (by omega) (dep := dep + 1) (by omega) D D2 (x + 1) μ1 ν1 (n + 1) (by omega) e3
    have e1' : (f_X3_run_g N (D + 4)).1 (nI 5) (nI 0) x (nI dep) μ = _ := e1
    rw [e1']
    unfold f_X3_runBody_0 f_X10_buysAs_r f_X10_buysAs_0
    rw [if_neg (by decide), if_neg (by decide), if_neg (by decide), if_neg (by decide), if_neg (by decide), if_neg (by decide), if_neg (by decide), if_neg (by decide), if_pos rfl, if_neg (by decide), if_pos (by decide), e2, bd_some, li_0, g1, bd_some, g2, bd_some]
    exact ⟨_, μ', ν', n', rfl, rfl, g3, by omega, e4.tr g5, e5.tr g6⟩
  · subst r
    obtain ⟨μ1, ν1, e1, e2, e3, e4, e5⟩ := cs N hN (k := 6) (k' := 6) (t := 0) (b := 70) (ab := nI 0) (by omega) (by omega) (by decide) (by omega) (by decide) (by decide) (by decide) (dep := dep) (by omega) (D + 2) x h (by omega)
    obtain ⟨r', μ', ν', n', g1, g2, g3, g4, g5, g6⟩ := buy_0 N hN (o := o) (q := q) (Or.inl rfl) (Or.inl rfl) (dep := dep + 1) (by omega) D D2 x μ1 ν1 (n + 1) (by omega) e3
    have e1' : (f_X3_run_g N (D + 4)).1 (nI 6) (nI 0) x (nI dep) μ = _ := e1
    rw [e1']
    unfold f_X3_runBody_0 f_X10_buysAs_r f_X10_buysAs_0
    rw [if_neg (by decide), if_neg (by decide), if_neg (by decide), if_neg (by decide), if_neg (by decide), if_neg (by decide), if_neg (by decide), if_neg (by decide), if_neg (by decide), if_neg (by decide), if_pos rfl, if_neg (by decide), if_neg (by decide), if_pos (by decide), e2, bd_some, li_0, g1, bd_some, g2, bd_some]
    exact ⟨_, μ', ν', n', rfl, rfl, g3, by omega, e4.tr g5, e5.tr g6⟩
/-- lends -/
theorem lend_0 (N : Nat) (hN : 130 ≤ N) {o : Int32} {q k k2 : Nat} (hk : k = 0 ∨ k = 1 ∨ k = 2 ∨ k = 6) (hk2 : k2 = 0 ∨ k2 = 1 ∨ k2 = 2 ∨ k2 = 6) {dep : Nat} (hd : dep ≤ 30) (D D2 : Nat) (x : Int32) : RG o q 1 ((f_X3_run_g N (D + 2)).1 (nI k) (nI 2) x (nI dep)) (f_X10_lendsAs_r N (D2 + 1) (nI k2) x) := by
  intro μ ν n hn h
  obtain ⟨μ1, ν1, e1, e2, e3, e4, e5⟩ := cs N hN (k := k) (k' := 0) (t := 2) (b := 11) (ab := -1) (by omega) (by omega) (by rcases hk with r | r | r | r <;> subst r <;> decide) (by omega) (by decide) (by decide) (by decide) hd D x h (by omega)
  have n1 : ¬ nI k2 = 3 ∧ ¬ nI k2 = 5 ∧ ¬ nI k2 = 4 ∧ ¬ nI k2 = 7 := by rcases hk2 with r | r | r | r <;> subst r <;> decide
  rw [e1]
  unfold f_X10_lendsAs_r f_X10_lendsAs_0 f_X3_runBody_0
  rw [if_neg (by decide), if_neg (by decide), if_neg (by decide), if_pos rfl, if_neg n1.1, if_neg n1.2.1, if_neg n1.2.2.1, if_neg n1.2.2.2, e2, bd_some, e3.1, e3.2.1]
  exact ⟨_, μ1, ν1, n + 1, rfl, rfl, e3, by omega, e4, e5⟩
theorem lend_all (N : Nat) (hN : 130 ≤ N) {o : Int32} {q k : Nat} (hq : q < 8) (hk : k < 8) {dep : Nat} (hd : dep ≤ 28) (D D2 : Nat) (x : Int32) : RG o q 4 ((f_X3_run_g N (D + 6)).1 (nI k) (nI 2) x (nI dep)) (f_X10_lendsAs_r N (D2 + 2) (nI k) x) := by
  intro μ ν n hn h
  rcases (by omega : (k = 0 ∨ k = 1 ∨ k = 2 ∨ k = 6) ∨ (k = 3 ∨ k = 5) ∨ (k = 4 ∨ k = 7)) with r | r | r
  · obtain ⟨r', μ', ν', n', e⟩ := lend_0 N hN (o := o) (q := q) r r (dep := dep) (by omega) (D + 4) (D2 + 1) x μ ν n (by omega) h
    exact ⟨r', μ', ν', n', e.1, e.2.1, e.2.2.1, by omega, e.2.2.2.2⟩
  · obtain ⟨μ1, ν1, e1, e2, e3, e4, e5⟩ := cs N hN (k := k) (k' := 3) (t := 2) (b := 40) (ab := nI 2) (by omega) (by omega) (by rcases r with r | r <;> subst r <;> decide) (by omega) (by decide) (by decide) (by decide) (dep := dep) (by omega) (D + 4) x h (by omega)
    obtain ⟨r', μ', ν', n', g1, g2, g3, g4, g5, g6⟩ := lend_0 N hN (o := o) (q := q) (k := 2) (k2 := 0) (by omega) (by omega) (dep := dep + 1) (by omega) (D + 2) D2 x μ1 ν1 (n + 1) (by omega) e3
    have e1' : (f_X3_run_g N (D + 6)).1 (nI k) (nI 2) x (nI dep) μ = _ := e1
    have g1' : (f_X3_run_g N (D + 4)).1 (nI 2) (nI 2) x (nI (dep + 1)) μ1 = _ := g1
    rw [e1']
    have eR : f_X10_lendsAs_r N (D2 + 2) (nI k) x ν = f_X10_lendsAs_10 N (f_X10_lendsAs_r N (D2 + 1)) x ν := by
      show f_X10_lendsAs_0 N (f_X10_lendsAs_r N (D2 + 1)) (nI k) x ν = _
      unfold f_X10_lendsAs_0
      rcases r with r | r <;> subst r
      · rw [if_pos (by decide)]
      · rw [if_neg (by decide), if_pos (by decide)]
    rw [eR]
    unfold f_X3_runBody_0 f_X10_lendsAs_10
    rw [if_neg (by decide), if_neg (by decide), if_neg (by decide), if_neg (by decide), if_neg (by decide), if_neg (by decide), if_pos rfl, e2, bd_some, li_2, li_0, g1', bd_some, g2, bd_some]
    exact ⟨_, μ', ν', n', rfl, rfl, g3, by omega, e4.tr g5, e5.tr g6⟩
  · obtain ⟨μ1, ν1, e1, e2, e3, e4, e5⟩ := cs N hN (k := k) (k' := 4) (t := 2) (b := 50) (ab := nI 2) (by omega) (by omega) (by rcases r with r | r <;> subst r <;> decide) (by omega) (by decide) (by decide) (by decide) (dep := dep) (by omega) (D + 4) x h (by omega)
    obtain ⟨r', μ', ν', n', g1, g2, g3, g4, g5, g6⟩ := lend_0 N hN (o := o) (q := q) (k := 2) (k2 := 0) (by omega) (by omega) (dep := dep + 1) (by omega) (D + 2) D2 x μ1 ν1 (n + 1) (by omega) e3
    obtain ⟨r2, μ2, ν2, n2, i1, i2, i3, i4, i5, i6⟩ := buy_all N hN (o := o) (q := q) hq (dep := dep + 1) (by omega) D 98 2 μ' ν' n' (by omega) g3
    have e1' : (f_X3_run_g N (D + 6)).1 (nI k) (nI 2) x (nI dep) μ = _ := e1
    have g1' : (f_X3_run_g N (D + 4)).1 (nI 2) (nI 2) x (nI (dep + 1)) μ1 = _ := g1
    rw [e1']
    have eR : f_X10_lendsAs_r N (D2 + 2) (nI k) x ν = f_X10_lendsAs_36 N (f_X10_lendsAs_r N (D2 + 1)) x ν := by
      show f_X10_lendsAs_0 N (f_X10_lendsAs_r N (D2 + 1)) (nI k) x ν = _
      unfold f_X10_lendsAs_0
      rcases r with r | r <;> subst r
      · rw [if_neg (by decide), if_neg (by decide), if_pos (by decide)]
      · rw [if_neg (by decide), if_neg (by decide), if_neg (by decide), if_pos (by decide)]
    rw [eR]
    unfold f_X3_runBody_0 f_X10_lendsAs_36 f_X10_buysAs
    rw [if_neg (by decide), if_neg (by decide), if_neg (by decide), if_neg (by decide), if_neg (by decide), if_neg (by decide), if_neg (by decide), if_pos rfl, e2, bd_some, show (2 : Int32) = nI 2 from rfl, show (0 : Int32) = nI 0 from rfl, g1', bd_some, g2, bd_some, g3.2.2.1, g3.2.2.2.1]
    have i1' : (f_X3_run_g N (D + 4)).1 (nI q) (nI 0) (nI 2) (nI (dep + 1)) μ' = _ := i1
    have i2' : f_X10_buysAs_r N 100 (nI q) (nI 2) ν' = _ := i2
    rw [i1', bd_some, i2', bd_some]
    exact ⟨_, μ2, ν2, n2, rfl, rfl, i3, by omega, (e4.tr g5).tr i5, (e5.tr g6).tr i6⟩
/-- keeps -/
theorem keep_0 (N : Nat) (hN : 130 ≤ N) {o : Int32} {q k k2 : Nat} (hq : q < 8) (hk : k = 0 ∨ k = 1 ∨ k = 6) (hk2 : k2 = 0 ∨ k2 = 1 ∨ k2 = 6) {dep : Nat} (hd : dep ≤ 28) (D D2 : Nat) (x : Int32) : RG o q 3 ((f_X3_run_g N (D + 6)).1 (nI k) (nI 1) x (nI dep)) (f_X10_keepsAs_r N (D2 + 1) (nI k2) x) := by
  intro μ ν n hn h
  obtain ⟨μ1, ν1, e1, e2, e3, e4, e5⟩ := cs N hN (k := k) (k' := 0) (t := 1) (b := 10) (ab := -1) (by omega) (by omega) (by rcases hk with r | r | r <;> subst r <;> decide) (by omega) (by decide) (by decide) (by decide) (dep := dep) (by omega) (D + 4) x h (by omega)
  obtain ⟨r2, μ2, ν2, n2, i1, i2, i3, i4, i5, i6⟩ := buy_all N hN (o := o) (q := q) hq (dep := dep + 1) (by omega) D 98 x μ1 ν1 (n + 1) (by omega) e3
  have n1 : ¬ nI k2 = 7 ∧ ¬ nI k2 = 2 ∧ ¬ nI k2 = 3 ∧ ¬ nI k2 = 4 ∧ ¬ nI k2 = 5 := by rcases hk2 with r | r | r <;> subst r <;> decide
  have e1' : (f_X3_run_g N (D + 6)).1 (nI k) (nI 1) x (nI dep) μ = _ := e1
  have i2' : f_X10_buysAs_r N 100 (nI q) x ν1 = _ := i2
  rw [e1']
  unfold f_X10_keepsAs_r f_X10_keepsAs_0 f_X3_runBody_0 f_X10_buysAs
  rw [if_neg (by decide), if_neg (by decide), if_pos rfl, if_neg n1.1, if_neg n1.2.1, if_neg n1.2.2.1, if_neg n1.2.2.2.1, if_neg n1.2.2.2.2, e2, bd_some, e3.2.2.1, e3.2.2.2.1, li_0, i1, bd_some, i2', bd_some]
  exact ⟨_, μ2, ν2, n2, rfl, rfl, i3, by omega, e4.tr i5, e5.tr i6⟩
theorem keep_2 (N : Nat) (hN : 130 ≤ N) {o : Int32} {q k : Nat} (hq : q < 8) (hk : k = 2 ∨ k = 3 ∨ k = 4 ∨ k = 5) {dep : Nat} (hd : dep ≤ 27) (D D2 : Nat) (x : Int32) : RG o q 4 ((f_X3_run_g N (D + 8)).1 (nI k) (nI 1) x (nI dep)) (f_X10_keepsAs_r N (D2 + 2) (nI k) x) := by
  intro μ ν n hn h
  obtain ⟨μ1, ν1, e1, e2, e3, e4, e5⟩ := cs N hN (k := k) (k' := 2) (t := 1) (b := 30) (ab := nI 0) (by omega) (by omega) (by rcases hk with r | r | r | r <;> subst r <;> decide) (by omega) (by decide) (by decide) (by decide) (dep := dep) (by omega) (D + 6) x h (by omega)
  obtain ⟨r2, μ2, ν2, n2, i1, i2, i3, i4, i5, i6⟩ := keep_0 N hN (o := o) (q := q) hq (Or.inl rfl) (Or.inl rfl) (dep := dep + 1) (by omega) D D2 x μ1 ν1 (n + 1) (by omega) e3
  have e1' : (f_X3_run_g N (D + 8)).1 (nI k) (nI 1) x (nI dep) μ = _ := e1
  rw [e1']
  have eR : f_X10_keepsAs_r N (D2 + 2) (nI k) x ν = f_X10_keepsAs_51 N (f_X10_keepsAs_r N (D2 + 1)) x ν := by
    show f_X10_keepsAs_0 N (f_X10_keepsAs_r N (D2 + 1)) (nI k) x ν = _
    unfold f_X10_keepsAs_0
    rcases hk with r | r | r | r <;> subst r
    · rw [if_neg (by decide), if_pos (by decide)]
    · rw [if_neg (by decide), if_neg (by decide), if_pos (by decide)]
    · rw [if_neg (by decide), if_neg (by decide), if_neg (by decide), if_pos (by decide)]
    · rw [if_neg (by decide), if_neg (by decide), if_neg (by decide), if_neg (by decide), if_pos (by decide)]
  rw [eR]
  unfold f_X3_runBody_0 f_X10_keepsAs_51
  rw [if_neg (by decide), if_neg (by decide), if_neg (by decide), if_neg (by decide), if_neg (by decide), if_pos rfl, e2, bd_some, li_1, li_0, i1, bd_some, i2, bd_some]
  exact ⟨_, μ2, ν2, n2, rfl, rfl, i3, by omega, e4.tr i5, e5.tr i6⟩
theorem keep_all (N : Nat) (hN : 130 ≤ N) {o : Int32} {q k : Nat} (hq : q < 8) (hk : k < 8) {dep : Nat} (hd : dep ≤ 26) (D D2 : Nat) (x : Int32) : RG o q 9 ((f_X3_run_g N (D + 10)).1 (nI k) (nI 1) x (nI dep)) (f_X10_keepsAs_r N (D2 + 3) (nI k) x) := by
  intro μ ν n hn h
  rcases (by omega : (k = 0 ∨ k = 1 ∨ k = 6) ∨ (k = 2 ∨ k = 3 ∨ k = 4 ∨ k = 5) ∨ k = 7) with r | r | r
  · obtain ⟨r', μ', ν', n', e⟩ := keep_0 N hN (o := o) (q := q) hq r r (dep := dep) (by omega) (D + 4) (D2 + 2) x μ ν n (by omega) h
    exact ⟨r', μ', ν', n', e.1, e.2.1, e.2.2.1, by omega, e.2.2.2.2⟩
  · obtain ⟨r', μ', ν', n', e⟩ := keep_2 N hN (o := o) (q := q) hq r (dep := dep) (by omega) (D + 2) (D2 + 1) x μ ν n (by omega) h
    exact ⟨r', μ', ν', n', e.1, e.2.1, e.2.2.1, by omega, e.2.2.2.2⟩
  · subst r
    obtain ⟨μ1, ν1, e1, e2, e3, e4, e5⟩ := cs N hN (k := 7) (k' := 7) (t := 1) (b := 80) (ab := nI 4) (by omega) (by omega) (by decide) (by omega) (by decide) (by decide) (by decide) (dep := dep) (by omega) (D + 8) x h (by omega)
    obtain ⟨r', μ', ν', n', g1, g2, g3, g4, g5, g6⟩ := keep_2 N hN (o := o) (q := q) hq (k := 4) (by omega) (dep := dep + 1) (by omega) D D2 x μ1 ν1 (n + 1) (by omega) e3
    obtain ⟨r2, μ2, ν2, n2, i1, i2, i3, i4, i5, i6⟩ := lend_all N hN (o := o) (q := q) hq hq (dep := dep + 1) (by omega) (D + 2) 98 2 μ' ν' n' (by omega) g3
    have e1' : (f_X3_run_g N (D + 10)).1 (nI 7) (nI 1) x (nI dep) μ = _ := e1
    rw [e1']
    have eR : f_X10_keepsAs_r N (D2 + 3) (nI 7) x ν = f_X10_keepsAs_0 N (f_X10_keepsAs_r N (D2 + 2)) (nI 7) x ν := rfl
    rw [eR]
    unfold f_X3_runBody_0 f_X10_keepsAs_0 f_X10_lendsAs
    rw [if_neg (by decide), if_neg (by decide), if_neg (by decide), if_neg (by decide), if_neg (by decide), if_neg (by decide), if_neg (by decide), if_neg (by decide), if_neg (by decide), if_neg (by decide), if_neg (by decide), if_pos rfl, if_pos (by decide), e2, bd_some, show (1 : Int32) = nI 1 from rfl, show (2 : Int32) = nI 2 from rfl, show (4 : Int32) = nI 4 from rfl, g1, bd_some, g2, bd_some, g3.2.2.1, g3.2.2.2.1]
    have i1' : (f_X3_run_g N (D + 8)).1 (nI q) (nI 2) (nI 2) (nI (dep + 1)) μ' = _ := i1
    have i2' : f_X10_lendsAs_r N 100 (nI q) (nI 2) ν' = _ := i2
    rw [i1', bd_some, i2', bd_some]
    exact ⟨_, μ2, ν2, n2, rfl, rfl, i3, by omega, (e4.tr g5).tr i5, (e5.tr g6).tr i6⟩
/-- tells -/
theorem tell_0 (N : Nat) (hN : 130 ≤ N) {o : Int32} {q k : Nat} (hq : q < 8) (hk : k < 8) (hk5 : k ≠ 5) (hk7 : k ≠ 7) {dep : Nat} (hd : dep ≤ 25) (D D2 : Nat) (x : Int32) : RG o q 14 ((f_X3_run_g N (D + 12)).1 (nI k) (nI 3) x (nI dep)) (f_X10_tellsAs_r N (D2 + 1) (nI k) x) := by
  intro μ ν n hn h
  obtain ⟨μ1, ν1, e1, e2, e3, e4, e5⟩ := cs N hN (k := k) (k' := 0) (t := 3) (b := 2) (ab := -1) (by omega) (by omega) (by rcases (by omega : k = 0 ∨ k = 1 ∨ k = 2 ∨ k = 3 ∨ k = 4 ∨ k = 6) with r | r | r | r | r | r <;> subst r <;> decide) (by omega) (by decide) (by decide) (by decide) (dep := dep) (by omega) (D + 10) x h (by omega)
  obtain ⟨r', μ', ν', n', g1, g2, g3, g4, g5, g6⟩ := keep_all N hN (o := o) (q := q) hq hq (dep := dep + 1) (by omega) D 97 x μ1 ν1 (n + 1) (by omega) e3
  obtain ⟨r2, μ2, ν2, n2, i1, i2, i3, i4, i5, i6⟩ := lend_all N hN (o := o) (q := q) hq hq (dep := dep + 1) (by omega) (D + 4) 98 1 μ' ν' n' (by omega) g3
  have e1' : (f_X3_run_g N (D + 12)).1 (nI k) (nI 3) x (nI dep) μ = _ := e1
  have g2' : f_X10_keepsAs_r N 100 (nI q) x ν1 = _ := g2
  have i1' : (f_X3_run_g N (D + 10)).1 (nI q) (nI 2) 1 (nI (dep + 1)) μ' = _ := i1
  have i2' : f_X10_lendsAs_r N 100 (nI q) 1 ν' = _ := i2
  rw [e1']
  unfold f_X3_runBody_0 f_X10_tellsAs_r f_X10_tellsAs_0 f_X10_lendsAs f_X10_keepsAs
  rw [if_neg (by decide), if_pos rfl, if_neg (by rw [li_5]; exact fun z => hk5 ((nI_eq (by omega) (by omega)).mp z)), if_neg (by rw [li_7]; exact fun z => hk7 ((nI_eq (by omega) (by omega)).mp z)), e2, bd_some, e3.2.2.1, e3.2.2.2.1, g2', bd_some]
  have g1' : (f_X3_run_g N (D + 10)).1 (nI q) 1 x (nI (dep + 1)) μ1 = _ := g1
  rw [g1', bd_some, g3.2.2.1, g3.2.2.2.1, i2', bd_some]
  have i1'' : (f_X3_run_g N (D + 10)).1 (nI q) 2 1 (nI (dep + 1)) μ' = _ := i1'
  rw [i1'', bd_some]
  exact ⟨_, μ2, ν2, n2, rfl, rfl, i3, by omega, (e4.tr g5).tr i5, (e5.tr g6).tr i6⟩
theorem tell_all (N : Nat) (hN : 130 ≤ N) {o : Int32} {q k : Nat} (hq : q < 8) (hk : k < 8) {dep : Nat} (hd : dep ≤ 24) (D D2 : Nat) (x : Int32) : RG o q 15 ((f_X3_run_g N (D + 14)).1 (nI k) (nI 3) x (nI dep)) (f_X10_tellsAs_r N (D2 + 2) (nI k) x) := by
  intro μ ν n hn h
  rcases (by omega : (k ≠ 5 ∧ k ≠ 7) ∨ k = 5 ∨ k = 7) with r | r | r
  · obtain ⟨r', μ', ν', n', e⟩ := tell_0 N hN (o := o) (q := q) hq hk r.1 r.2 (dep := dep) (by omega) (D + 2) (D2 + 1) x μ ν n (by omega) h
    exact ⟨r', μ', ν', n', e.1, e.2.1, e.2.2.1, by omega, e.2.2.2.2⟩
  · subst r
    obtain ⟨μ1, ν1, e1, e2, e3, e4, e5⟩ := cs N hN (k := 5) (k' := 5) (t := 3) (b := 61) (ab := nI 3) (by omega) (by omega) (by decide) (by omega) (by decide) (by decide) (by decide) (dep := dep) (by omega) (D + 12) x h (by omega)
    obtain ⟨r', μ', ν', n', g1, g2, g3, g4, g5, g6⟩ := tell_0 N hN (o := o) (q := q) hq (k := 3) (by omega) (by omega) (by omega) (dep := dep + 1) (by omega) D D2 x μ1 ν1 (n + 1) (by omega) e3
    have e1' : (f_X3_run_g N (D + 14)).1 (nI 5) (nI 3) x (nI dep) μ = _ := e1
    rw [e1']
    have eR : f_X10_tellsAs_r N (D2 + 2) (nI 5) x ν = f_X10_tellsAs_0 N (f_X10_tellsAs_r N (D2 + 1)) (nI 5) x ν := rfl
    rw [eR]
    unfold f_X3_runBody_0 f_X10_tellsAs_0
    rw [if_neg (by decide), if_neg (by decide), if_neg (by decide), if_neg (by decide), if_neg (by decide), if_neg (by decide), if_neg (by decide), if_neg (by decide), if_neg (by decide), if_pos rfl, if_pos (by decide), e2, bd_some, li_3, g1, bd_some, g2, bd_some]
    exact ⟨_, μ', ν', n', rfl, rfl, g3, by omega, e4.tr g5, e5.tr g6⟩
  · subst r
    obtain ⟨μ1, ν1, e1, e2, e3, e4, e5⟩ := cs N hN (k := 7) (k' := 7) (t := 3) (b := 81) (ab := nI 4) (by omega) (by omega) (by decide) (by omega) (by decide) (by decide) (by decide) (dep := dep) (by omega) (D + 12) x h (by omega)
    obtain ⟨r', μ', ν', n', g1, g2, g3, g4, g5, g6⟩ := tell_0 N hN (o := o) (q := q) hq (k := 4) (by omega) (by omega) (by omega) (dep := dep + 1) (by omega) D D2 x μ1 ν1 (n + 1) (by omega) e3
    have e1' : (f_X3_run_g N (D + 14)).1 (nI 7) (nI 3) x (nI dep) μ = _ := e1
    rw [e1']
    have eR : f_X10_tellsAs_r N (D2 + 2) (nI 7) x ν = f_X10_tellsAs_0 N (f_X10_tellsAs_r N (D2 + 1)) (nI 7) x ν := rfl
    rw [eR]
    unfold f_X3_runBody_0 f_X10_tellsAs_0
    rw [if_neg (by decide), if_neg (by decide), if_neg (by decide), if_neg (by decide), if_neg (by decide), if_neg (by decide), if_neg (by decide), if_neg (by decide), if_neg (by decide), if_neg (by decide), if_neg (by decide), if_neg (by decide), if_pos rfl, if_neg (by decide), if_pos (by decide), e2, bd_some, li_4, li_3, g1, bd_some, g2, bd_some]
    exact ⟨_, μ', ν', n', rfl, rfl, g3, by omega, e4.tr g5, e5.tr g6⟩
