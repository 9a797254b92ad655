/-! the rounds of points -/
def mv (o : Int32) (p : Nat) : Nat := if o < 0 then (if p < 99 then p + 1 else p) else if 0 < o then (if 0 < p then p - 1 else p) else p
theorem mv_le {o : Int32} {p : Nat} (h : p ≤ 99) : mv o p ≤ 99 := by
  unfold mv
  by_cases c1 : o < 0
  · rw [if_pos c1]
    by_cases c2 : p < 99
    · rw [if_pos c2]; omega
    · rw [if_neg c2]; omega
  · rw [if_neg c1]
    by_cases c3 : 0 < o
    · rw [if_pos c3]
      by_cases c4 : 0 < p
      · rw [if_pos c4]; omega
      · rw [if_neg c4]; omega
    · rw [if_neg c3]; omega
def mp (a : Nat → Nat → Nat) (B : Nat → Nat) (T S : Nat) (p : Nat → Nat) (i : Nat) : Nat := mv (ov a B T S i) (p i)
def fl (f : Nat → Bool) : Nat → Bool
  | 0 => false
  | n + 1 => fl f n || f n
def md (a : Nat → Nat → Nat) (B : Nat → Nat) (T S : Nat) (p : Nat → Nat) (i : Nat) : Bool := mp a B T S p i != p i
def pm (a : Nat → Nat → Nat) (B : Nat → Nat) (T S : Nat) (p : Nat → Nat) (t i : Nat) : Nat := if i < t then mp a B T S p i else p i
def ap (a : Nat → Nat → Nat) (p : Nat → Nat) : Nat → Nat → Nat := fun c i => if c = 2 then p i else a c i
theorem BD.ap {T S : Nat} {a : Nat → Nat → Nat} {W : Nat} (h : BD T S a W) {p : Nat → Nat} (hp : ∀ i, p i ≤ 99) : BD T S (ap a p) W :=
  ⟨h.1, h.2.1, h.2.2.1, fun i => ⟨(h.2.2.2.1 i).1, (h.2.2.2.1 i).2.1, hp i, (h.2.2.2.1 i).2.2.2⟩, h.2.2.2.2⟩
theorem nI_neg1 {p : Nat} (hp : p ≤ 99) : nI p - -1 = nI (p + 1) := by rw [← nI_1]; simp [Int32.sub_eq_add_neg]
theorem cmp_J (N : Nat) (y : Int32) (μ : am_M) : f_J_compare N y 0 μ = some (if 0 ≤ y then (if y = 0 then 0 else 1) else -1, μ) := by
  unfold f_J_compare f_J_compare_0
  by_cases c : 0 ≤ y
  · rw [if_pos c, if_pos c]
    by_cases d : y = 0
    · rw [if_pos d, if_pos d]
    · rw [if_neg d, if_neg d]
  · rw [if_neg c, if_neg c]
theorem mp_lp (N : Nat) {T S : Nat} {a : Nat → Nat → Nat} {W : Nat} {tx : Nat → tx_T} {B : Nat → Nat} {p : Nat → Nat} (hp : ∀ i, p i ≤ 99) {μ0 : am_M} :
    ∀ (n m t : Nat) (μ : am_M), t + n = T → n + 1 ≤ m → Cv μ T S a W tx → (∀ i, i < T → μ.1 98 0 i = nI (wn a B T S i)) → fr p_rc μ0 μ → TC μ T (a 1) (pm a B T S p t) →
      ∃ μ', f_X2_movePoints_4_lp N m (b2 (fl (md a B T S p) t)) (nI t) μ = some (b2 (fl (md a B T S p) T), μ') ∧ fr p_rc μ0 μ' ∧ TC μ' T (a 1) (mp a B T S p)
  | n, 0, t, μ, h1, h2, hC, h3, h4, h5 => by omega
  | 0, m + 1, t, μ, h1, h2, hC, h3, h4, h5 => by
    have hT6 := hC.1.1
    unfold f_X2_movePoints_4_lp f_X2_movePoints_4
    rw [hC.2.1, if_pos ((nI_leI (by omega) (by omega)).mpr (by omega)), b2_z]
    have : t = T := by omega
    subst this
    exact ⟨μ, rfl, h4, fun i hi => ⟨(h5 i hi).1, by rw [(h5 i hi).2]; unfold pm; rw [if_pos hi]⟩⟩
  | n + 1, m + 1, t, μ, h1, h2, hC, h3, h4, h5 => by
    have hT6 := hC.1.1
    have hpt := hp t
    unfold f_X2_movePoints_4_lp f_X2_movePoints_4 f_X2_movePoints_74
    have e1 : μ.1 83 0 t = nI (p t) := by rw [(h5 t (by omega)).2]; unfold pm; rw [if_neg (by omega)]
    have e2 : μ.1 82 0 t = nI (a 1 t) := (h5 t (by omega)).1
    rw [hC.2.1, if_neg (fun z => by have := (nI_leI (by omega) (by omega)).mp z; omega), pointsOf_c N (by omega), bd_some, overOf_c N hC h3 (by omega), bd_some, cmp_J, bd_some, e1, nI_1]
    simp only [am_nme]
    have stay : mp a B T S p t = p t → ∃ μ', f_X2_movePoints_4_lp N m (b2 (fl (md a B T S p) t)) (nI (t + 1)) μ = some (b2 (fl (md a B T S p) T), μ') ∧ fr p_rc μ0 μ' ∧ TC μ' T (a 1) (mp a B T S p) := by
      intro q
      have e : fl (md a B T S p) t = fl (md a B T S p) (t + 1) := by
        show _ = (fl (md a B T S p) t || (mp a B T S p t != p t))
        rw [q]; simp
      rw [e]
      refine mp_lp N hp n m (t + 1) μ (by omega) (by omega) hC h3 h4 (fun i hi => ⟨(h5 i hi).1, ?_⟩)
      rw [(h5 i hi).2]
      unfold pm
      by_cases c1 : i < t
      · rw [if_pos c1, if_pos (by omega)]
      · rw [if_neg c1]
        by_cases c2 : i < t + 1
        · rw [if_pos c2]
          have : i = t := by omega
          subst this; rw [q]
        · rw [if_neg c2]
    have move : ∀ v, mp a B T S p t = v → v ≠ p t → v ≤ 99 → ∃ μ', f_X2_movePoints_4_lp N m 1 (nI (t + 1)) (am_ui (am_ui μ 82 0 t (μ.1 82 0 t)) 83 0 t (nI v)) = some (b2 (fl (md a B T S p) T), μ') ∧ fr p_rc μ0 μ' ∧ TC μ' T (a 1) (mp a B T S p) := by
      intro v q1 q2 q3
      have e : (1 : Int32) = b2 (fl (md a B T S p) (t + 1)) := by
        have : fl (md a B T S p) (t + 1) = true := by
          show (fl (md a B T S p) t || (mp a B T S p t != p t)) = true
          rw [q1]; simp [q2]
        rw [this]; rfl
      rw [e]
      have hF : fr p_rc μ (am_ui (am_ui μ 82 0 t (μ.1 82 0 t)) 83 0 t (nI v)) := (fr.rf.ui rfl).ui rfl
      refine mp_lp N hp n m (t + 1) _ (by omega) (by omega) (hC.of (rc_C hF)) (fun i hi => (hF.1 98 0 i rfl).trans (h3 i hi)) (h4.tr hF) (fun i hi => ⟨?_, ?_⟩)
      · rw [ui1, if_neg (by omega), ui1]
        by_cases c : i = t
        · subst c; rw [if_pos ⟨rfl, rfl, rfl⟩, e2]
        · rw [if_neg (by omega)]; exact (h5 i hi).1
      · rw [ui1]
        unfold pm
        by_cases c : i = t
        · subst c; rw [if_pos ⟨rfl, rfl, rfl⟩, if_pos (by omega), q1]
        · rw [if_neg (by omega), ui1, if_neg (by omega), (h5 i hi).2]
          unfold pm
          by_cases c1 : i < t
          · rw [if_pos c1, if_pos (by omega)]
          · rw [if_neg c1, if_neg (by omega)]
    by_cases c1 : 0 ≤ ov a B T S t
    · have n1 : ¬ ov a B T S t < 0 := Int32.not_lt.mpr c1
      rw [if_pos c1]
      by_cases c2 : ov a B T S t = 0
      · rw [if_pos c2, Int32.sub_zero, if_pos rfl]
        exact stay (by unfold mp mv; rw [c2]; rfl)
      · rw [if_neg c2]
        have c3 : 0 < ov a B T S t := Int32.lt_of_le_of_ne c1 (fun q => c2 q.symm)
        have em : mp a B T S p t = if 0 < p t then p t - 1 else p t := by unfold mp mv; rw [if_neg n1, if_pos c3]
        by_cases c4 : 0 < p t
        · rw [if_pos c4] at em
          rw [li_1, pk_sub (by omega), if_neg (fun q => by have := (nI_eq (by omega) (by omega)).mp q; omega), w_cls, bd_some, gI, if_pos (by rw [li_0, li_99]; exact ⟨nI_pos' (by omega), (nI_leI (by omega) (by omega)).mpr (by omega)⟩), coinOf_c N (by omega), bd_some, think_c N (by omega), bd_some, ← li_1]
          exact move _ em (by omega) (by omega)
        · rw [if_neg c4] at em
          have e0 : p t = 0 := by omega
          rw [e0, if_neg (by decide), w_cls, bd_some, gI, if_neg (by decide)]
          exact stay em
    · have n1 : ov a B T S t < 0 := Int32.not_le.mp c1
      rw [if_neg c1, nI_neg1 hpt, if_neg (fun q => by have := (nI_eq (by omega) (by omega)).mp q; omega), w_cls, bd_some, gI]
      have em : mp a B T S p t = if p t < 99 then p t + 1 else p t := by unfold mp mv; rw [if_pos n1]
      by_cases c4 : p t < 99
      · rw [if_pos c4] at em
        rw [if_pos (by rw [li_0, li_99]; exact ⟨nI_pos' (by omega), (nI_leI (by omega) (by omega)).mpr (by omega)⟩), coinOf_c N (by omega), bd_some, think_c N (by omega), bd_some]
        exact move _ em (by omega) (by omega)
      · rw [if_neg c4] at em
        rw [if_neg (by rw [li_99, nI_leI (by omega) (by omega)]; omega)]
        exact stay em
def p_16 (k i : Nat) : Bool := k == 160 && (i == 12 || i == 13 || i == 14 || i == 15 || i == 16 || i == 17)
theorem p16_t {t : Nat} (h : t < 6) : p_16 160 (12 + t) = true := by
  rcases (by omega : t = 0 ∨ t = 1 ∨ t = 2 ∨ t = 3 ∨ t = 4 ∨ t = 5) with q | q | q | q | q | q <;> subst q <;> rfl
theorem Rv.p {μ : am_M} {T S : Nat} {a : Nat → Nat → Nat} {W : Nat} {tx : Nat → tx_T} {p : Nat → Nat} (h : Rv μ T S (ap a p) W tx) {t v : Nat} (ht : t < T) {q : Nat → Nat} (hq : ∀ i, q i ≤ 99) (h1 : q t = v) (h2 : ∀ i, i < T → i ≠ t → q i = p i) : Rv (am_ui μ 160 0 (12 + t) (nI v)) T S (ap a q) W tx := by
  obtain ⟨g1, g2, g3, g4, g5, g6, g7, g8⟩ := h
  have g16 := g1.1
  have g15 := g1.2.1
  refine ⟨⟨g1.1, g1.2.1, g1.2.2.1, fun i => ⟨(g1.2.2.2.1 i).1, (g1.2.2.2.1 i).2.1, hq i, (g1.2.2.2.1 i).2.2.2⟩, g1.2.2.2.2⟩, ?_, ?_, ?_, fun i hi => ⟨?_, ?_, ?_, ?_⟩, fun s hs => ⟨?_, ?_, ?_, ?_, ?_⟩, fun w hw => ⟨(g7 w hw).1, ?_, fun j hj => ?_⟩, ?_⟩
  · rw [ui1, if_neg (by omega)]; exact g2
  · rw [ui1, if_neg (by omega)]; exact g3
  · rw [ui1, if_neg (by omega)]; exact g4
  · rw [ui1, if_neg (by omega)]; exact (g5 i hi).1
  · rw [ui1, if_neg (by omega)]; exact (g5 i hi).2.1
  · rw [ui1]
    by_cases e : i = t
    · subst e; rw [if_pos ⟨rfl, rfl, rfl⟩, ← h1]; rfl
    · rw [if_neg (by omega), (g5 i hi).2.2.1]
      show nI (p i) = nI (q i)
      rw [h2 i hi e]
  · rw [ui1, if_neg (by omega)]; exact (g5 i hi).2.2.2
  · rw [ui1, if_neg (by omega)]; exact (g6 s hs).1
  · rw [ui1, if_neg (by omega)]; exact (g6 s hs).2.1
  · rw [ui1, if_neg (by omega)]; exact (g6 s hs).2.2.1
  · rw [ui1, if_neg (by omega)]; exact (g6 s hs).2.2.2.1
  · rw [ui1, if_neg (by omega)]; exact (g6 s hs).2.2.2.2
  · rw [ui1, if_neg (by omega)]; exact (g7 w hw).2.1
  · rw [ui1, if_neg (by omega)]; exact (g7 w hw).2.2 j hj
  · rw [ui1, if_neg (by omega)]; exact g8
theorem mr_1 (N : Nat) {r : Int32 → Int32 → Int32 → am_M → Option (Unit × am_M)} {rr : Int32 → Int32 → Int32 → Int32 → am_M → Option (Unit × am_M)} {x1 y x3 : Int32} {t v : Nat} {o : Int32} {μ : am_M} (ht : t < 6) (h : ¬ μ.1 10 0 6 ≤ nI t) (e1 : μ.1 160 0 (12 + t) = nI v) (eo : f_X10_over N (nI t) μ = some (o, μ)) (K : Int32 → Option (Unit × am_M)) (hK : ∀ s0, K s0 = if y = 0 then (if s0 = 0 then rr x1 0 x3 (nI (t + 1)) (am_ui μ 160 0 (12 + t) (nI v + s0)) else rr x1 1 x3 (nI (t + 1)) (am_ui μ 160 0 (12 + t) (nI v + s0))) else rr x1 1 x3 (nI (t + 1)) (am_ui μ 160 0 (12 + t) (nI v + s0))) :
    f_X10_goRounds_94 N r rr x1 y x3 (nI t) μ = if 0 ≤ o then (if o ≤ 0 then K 0 else if nI v ≤ 0 then K 0 else K (-1)) else (if 99 ≤ nI v then (if o ≤ 0 then K 0 else if nI v ≤ 0 then K 0 else K (-1)) else K 1) := by
  have h54 : ∀ s0, f_X10_goRounds_154 N r rr x1 y x3 (nI t) (nI v) s0 μ = K s0 := by
    intro s0
    unfold f_X10_goRounds_154 f_X10_goRounds_180 f_X10_goRounds_185
    rw [gdp_12 (by omega) (by omega), hK, nI_1]
    rfl
  have h35 : f_X10_goRounds_135 N r rr x1 y x3 (nI t) (nI v) μ = if o ≤ 0 then K 0 else if nI v ≤ 0 then K 0 else K (-1) := by
    unfold f_X10_goRounds_135 f_X10_goRounds_153
    rw [eo, bd_some, h54, h54]
  unfold f_X10_goRounds_94
  rw [if_neg h, gdp_12 (by omega) (by omega), e1]
  simp only [am_nme]
  rw [eo, bd_some, h35, h54]
theorem mr_lp (N : Nat) {T S : Nat} {a : Nat → Nat → Nat} {W : Nat} {tx : Nat → tx_T} {B : Nat → Nat} {p : Nat → Nat} (hp : ∀ i, p i ≤ 99) {r : Int32 → Int32 → Int32 → am_M → Option (Unit × am_M)} {x1 x3 : Int32} {μ0 : am_M} :
    ∀ (n m t : Nat) (μ : am_M), t + n = T → n + 1 ≤ m → Rv μ T S (ap a (pm a B T S p t)) W tx → (∀ i, i < T → μ.1 193 0 i = nI (wn a B T S i)) → fr p_16 μ0 μ →
      ∃ μ' k, f_X10_goRounds_94_lp N r m x1 (b2 (fl (md a B T S p) t)) x3 (nI t) μ = f_X10_goRounds_94 N r k x1 (b2 (fl (md a B T S p) T)) x3 (nI T) μ' ∧ fr p_16 μ0 μ' ∧ Rv μ' T S (ap a (mp a B T S p)) W tx
  | n, 0, t, μ, h1, h2, hC, h3, h4 => by omega
  | 0, m + 1, t, μ, h1, h2, hC, h3, h4 => by
    have hT6 := hC.1.1
    unfold f_X10_goRounds_94_lp
    have : t = T := by omega
    subst this
    refine ⟨μ, _, rfl, h4, ?_⟩
    obtain ⟨g1, g2, g3, g4, g5, g6, g7, g8⟩ := hC
    refine ⟨⟨g1.1, g1.2.1, g1.2.2.1, fun i => ⟨(g1.2.2.2.1 i).1, (g1.2.2.2.1 i).2.1, mv_le (hp i), (g1.2.2.2.1 i).2.2.2⟩, g1.2.2.2.2⟩, g2, g3, g4, fun i hi => ⟨(g5 i hi).1, (g5 i hi).2.1, ?_, (g5 i hi).2.2.2⟩, g6, g7, g8⟩
    rw [(g5 i hi).2.2.1]
    show nI (pm a B t S p t i) = nI (mp a B t S p i)
    unfold pm
    rw [if_pos hi]
  | n + 1, m + 1, t, μ, h1, h2, hC, h3, h4 => by
    have hT6 := hC.1.1
    have hpt := hp t
    unfold f_X10_goRounds_94_lp
    have e1 : μ.1 160 0 (12 + t) = nI (p t) := by
      rw [(hC.2.2.2.2.1 t (by omega)).2.2.1]
      show nI (pm a B T S p t t) = _
      unfold pm; rw [if_neg (by omega)]
    have eo : f_X10_over N (nI t) μ = some (ov a B T S t, μ) := over_r N (a := ap a (pm a B T S p t)) hC h3 (by omega)
    rw [mr_1 N (show t < 6 by omega) (by rw [hC.2.1]; exact fun z => by have := (nI_leI (by omega) (by omega)).mp z; omega) e1 eo _ (fun _ => rfl)]
    have hgo : ∀ v : Nat, mp a B T S p t = v → ∃ μ' k, f_X10_goRounds_94_lp N r m x1 (b2 (fl (md a B T S p) (t + 1))) x3 (nI (t + 1)) (am_ui μ 160 0 (12 + t) (nI v)) = f_X10_goRounds_94 N r k x1 (b2 (fl (md a B T S p) T)) x3 (nI T) μ' ∧ fr p_16 μ0 μ' ∧ Rv μ' T S (ap a (mp a B T S p)) W tx := by
      intro v hv
      have hF : fr p_16 μ (am_ui μ 160 0 (12 + t) (nI v)) := fr.rf.ui (p16_t (by omega))
      refine mr_lp N hp n m (t + 1) _ (by omega) (by omega) (hC.p (by omega) (fun i => ?_) ?_ (fun i hi hne => ?_)) (fun i hi => (hF.1 193 0 i rfl).trans (h3 i hi)) (h4.tr hF)
      · unfold pm
        by_cases c : i < t + 1
        · rw [if_pos c]; exact mv_le (hp i)
        · rw [if_neg c]; exact hp i
      · unfold pm; rw [if_pos (by omega)]; exact hv
      · unfold pm
        by_cases c : i < t
        · rw [if_pos c, if_pos (by omega)]
        · rw [if_neg c, if_neg (by omega)]
    have fstay : mp a B T S p t = p t → fl (md a B T S p) (t + 1) = fl (md a B T S p) t := by
      intro q
      show (fl (md a B T S p) t || (mp a B T S p t != p t)) = _
      rw [q]; simp
    have fmove : mp a B T S p t ≠ p t → fl (md a B T S p) (t + 1) = true := by
      intro q
      show (fl (md a B T S p) t || (mp a B T S p t != p t)) = true
      simp [q]
    have stay : mp a B T S p t = p t → ∃ μ' k, (if b2 (fl (md a B T S p) t) = 0 then (if (0 : Int32) = 0 then f_X10_goRounds_94_lp N r m x1 0 x3 (nI (t + 1)) (am_ui μ 160 0 (12 + t) (nI (p t) + 0)) else f_X10_goRounds_94_lp N r m x1 1 x3 (nI (t + 1)) (am_ui μ 160 0 (12 + t) (nI (p t) + 0))) else f_X10_goRounds_94_lp N r m x1 1 x3 (nI (t + 1)) (am_ui μ 160 0 (12 + t) (nI (p t) + 0))) = f_X10_goRounds_94 N r k x1 (b2 (fl (md a B T S p) T)) x3 (nI T) μ' ∧ fr p_16 μ0 μ' ∧ Rv μ' T S (ap a (mp a B T S p)) W tx := by
      intro q
      have := hgo (p t) q
      rw [fstay q] at this
      rw [Int32.add_zero]
      cases hfl : fl (md a B T S p) t
      · rw [hfl] at this
        rw [if_pos (show b2 false = 0 from rfl), if_pos rfl]
        exact this
      · rw [hfl] at this
        rw [if_neg (show ¬ b2 true = 0 by decide)]
        exact this
    have move : ∀ (v : Nat) (s0 : Int32), mp a B T S p t = v → v ≠ p t → s0 ≠ 0 → nI (p t) + s0 = nI v → ∃ μ' k, (if b2 (fl (md a B T S p) t) = 0 then (if s0 = 0 then f_X10_goRounds_94_lp N r m x1 0 x3 (nI (t + 1)) (am_ui μ 160 0 (12 + t) (nI (p t) + s0)) else f_X10_goRounds_94_lp N r m x1 1 x3 (nI (t + 1)) (am_ui μ 160 0 (12 + t) (nI (p t) + s0))) else f_X10_goRounds_94_lp N r m x1 1 x3 (nI (t + 1)) (am_ui μ 160 0 (12 + t) (nI (p t) + s0))) = f_X10_goRounds_94 N r k x1 (b2 (fl (md a B T S p) T)) x3 (nI T) μ' ∧ fr p_16 μ0 μ' ∧ Rv μ' T S (ap a (mp a B T S p)) W tx := by
      intro v s0 q1 q2 q3 q4
      have := hgo v q1
      rw [fmove (by omega)] at this
      rw [q4, if_neg q3]
      have e : ∀ {α : Type} (c : Prop) [Decidable c] (A : α), (if c then A else A) = A := fun c _ A => by by_cases h : c; rw [if_pos h]; rw [if_neg h]
      rw [e]
      exact this
    by_cases c1 : 0 ≤ ov a B T S t
    · have n1 : ¬ ov a B T S t < 0 := Int32.not_lt.mpr c1
      rw [if_pos c1]
      by_cases c2 : ov a B T S t ≤ 0
      · rw [if_pos c2]
        exact stay (by unfold mp mv; rw [if_neg n1, if_neg (Int32.not_lt.mpr c2)])
      · rw [if_neg c2]
        have em : mp a B T S p t = if 0 < p t then p t - 1 else p t := by unfold mp mv; rw [if_neg n1, if_pos (Int32.not_le.mp c2)]
        by_cases c4 : 0 < p t
        · rw [if_pos c4] at em
          rw [if_neg (nI_nle c4 (by omega))]
          refine move _ (-1) em (by omega) (by decide) ?_
          have := pk_m1 (p t - 1)
          rw [show p t - 1 + 1 = p t by omega] at this
          exact this
        · rw [if_neg c4] at em
          rw [if_pos (by rw [show p t = 0 by omega]; decide)]
          exact stay em
    · have n1 : ov a B T S t < 0 := Int32.not_le.mp c1
      have em : mp a B T S p t = if p t < 99 then p t + 1 else p t := by unfold mp mv; rw [if_pos n1]
      rw [if_neg c1]
      by_cases c4 : p t < 99
      · rw [if_pos c4] at em
        rw [if_neg (by rw [li_99, nI_leI (by omega) (by omega)]; omega)]
        exact move _ 1 em (by omega) (by decide) (nI_1 _)
      · rw [if_neg c4] at em
        rw [if_pos (by rw [li_99, nI_leI (by omega) (by omega)]; omega), if_pos (Int32.le_of_lt n1)]
        exact stay em
