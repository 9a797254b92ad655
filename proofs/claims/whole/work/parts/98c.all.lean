/-! one relation of all that stands: the class's cells in μ, the reference's in ν -/
def XA (μ ν : am_M) : Prop := ∃ (T S : Nat) (a : Nat → Nat → Nat) (W : Nat) (tx : Nat → tx_T) (d u : Nat) (E : hE) (D : Nat → Nat), Cv μ T S a W tx ∧ Rv ν T S a W tx ∧ HC μ d u E ∧ HQ ν d u E ∧ HV T S d u E ∧ TL 99 μ T D ∧ TL 172 ν T D ∧ ∀ s, S ≤ s → s < 5 → D s = 0
def Xtp (μ ν : am_M) : Prop := ∃ (L : Nat) (b : Nat → Nat), L ≤ 120 ∧ μ.1 3 0 1 = nI L ∧ ν.1 10 0 14 = nI L ∧ ∀ j, j < L → b j < 256 ∧ μ.1 48 0 j = nI (b j) ∧ ν.1 173 0 j = nI (b j)
def SH (K : Nat) (μ ν : am_M) (s : Nat) : Prop := (μ.1 144 0 s = -1 ∧ ν.1 211 0 s = -1) ∨ (∃ b, b < K ∧ μ.1 144 0 s = nI 5 ∧ μ.1 145 0 s = nI b ∧ ν.1 211 0 s = nI b) ∨ (∃ c m, c ≤ 4 ∧ m ≤ 60 ∧ μ.1 144 0 s = nI c ∧ μ.1 145 0 s = nI m ∧ ν.1 211 0 s = nI (50 + c) ∧ ν.1 212 0 s = nI m ∧ ∀ i, i < 60 → μ.2 446 s i = ν.2 213 0 (60 * s + i) ∧ (c = 1 → (μ.2 446 s i).toInt32.toInt64 = μ.2 446 s i))
def XK (μ ν : am_M) (K : Nat) (kd : Nat → Nat) : Prop := K ≤ 50 ∧ μ.1 8 0 1 = nI K ∧ ν.1 10 0 45 = nI K ∧ ∀ j, j < K → kd j ≤ 7 ∧ μ.1 128 0 j = nI (kd j) ∧ ν.1 206 0 j = nI (kd j)
def XT (μ ν : am_M) (n : Nat) : Prop := n ≤ 1000 ∧ μ.1 8 0 3 = nI n ∧ ν.1 10 0 48 = nI n ∧ ∀ j, j < n → j < 24 → μ.1 130 0 j = ν.1 207 0 j
def XD (μ ν : am_M) : Prop := ∃ (K : Nat) (kd : Nat → Nat) (n : Nat), XK μ ν K kd ∧ XT μ ν n ∧ ∀ s, s < 6 → SH K μ ν s
def AL (μ ν : am_M) : Prop := XA μ ν ∧ Xtp μ ν ∧ XD μ ν
def qA (k i : Nat) : Bool := k == 1 || k == 2 || (k == 4 && i == 2) || k == 65 || k == 364 || (k == 384 && i == 0) || k == 316 || k == 99 || k == 33 || k == 34 || k == 35 || k == 36
def rA (k i : Nat) : Bool := (k == 10 && (i == 4 || i == 5 || i == 6 || i == 8 || i == 15 || i == 29)) || k == 160 || k == 161 || k == 162 || k == 163 || k == 167 || k == 169 || k == 170 || k == 171 || k == 172 || k == 176 || k == 177
def qD (k i : Nat) : Bool := (k == 8 && (i == 1 || i == 3)) || k == 128 || k == 130 || k == 144 || k == 145
def rD (k i : Nat) : Bool := (k == 10 && (i == 45 || i == 48)) || k == 206 || k == 207 || k == 211 || k == 212
theorem Cv.ag {μ μ' : am_M} {T S : Nat} {a : Nat → Nat → Nat} {W : Nat} {tx : Nat → tx_T} (h : Cv μ T S a W tx) (f : ∀ k r i, qA k i = true → μ'.1 k r i = μ.1 k r i) : Cv μ' T S a W tx := by
  obtain ⟨h1, h2, h3, h4, h5, h6, h7, h8⟩ := h
  exact ⟨h1, (f 1 0 1 rfl).trans h2, (f 1 0 2 rfl).trans h3, (f 4 0 2 rfl).trans h4, fun c i hc hi => (f 316 c i rfl).trans (h5 c i hc hi), fun c i hc hc2 hi => (f 316 c i rfl).trans (h6 c i hc hc2 hi), fun w hw => ⟨(h7 w hw).1, (f 65 0 w rfl).trans (h7 w hw).2.1, fun j hj => (f 364 w j rfl).trans ((h7 w hw).2.2 j hj)⟩, fun t ht => (f 384 t 0 rfl).trans (h8 t ht)⟩
theorem Rv.ag {μ μ' : am_M} {T S : Nat} {a : Nat → Nat → Nat} {W : Nat} {tx : Nat → tx_T} (h : Rv μ T S a W tx) (f : ∀ k r i, rA k i = true → μ'.1 k r i = μ.1 k r i) : Rv μ' T S a W tx := by
  obtain ⟨h1, h2, h3, h4, h5, h6, h7, h8⟩ := h
  exact ⟨h1, (f 10 0 6 rfl).trans h2, (f 10 0 8 rfl).trans h3, (f 10 0 15 rfl).trans h4, fun i hi => ⟨(f 160 0 i rfl).trans (h5 i hi).1, (f 160 0 _ rfl).trans (h5 i hi).2.1, (f 160 0 _ rfl).trans (h5 i hi).2.2.1, (f 167 0 i rfl).trans (h5 i hi).2.2.2⟩, fun s hs => ⟨(f 169 0 s rfl).trans (h6 s hs).1, (f 160 0 _ rfl).trans (h6 s hs).2.1, (f 160 0 _ rfl).trans (h6 s hs).2.2.1, (f 170 0 s rfl).trans (h6 s hs).2.2.2.1, (f 171 0 s rfl).trans (h6 s hs).2.2.2.2⟩, fun w hw => ⟨(h7 w hw).1, (f 177 0 w rfl).trans (h7 w hw).2.1, fun j hj => (f 176 0 _ rfl).trans ((h7 w hw).2.2 j hj)⟩, (f 10 0 29 rfl).trans h8⟩
theorem h_qA : ∀ k i, p_h k i = true → qA k i = true := fun k i q => by
  simp only [p_h, qA, Bool.or_eq_true, Bool.and_eq_true, beq_iff_eq] at q ⊢
  omega
theorem hr_rA : ∀ k i, p_hr k i = true → rA k i = true := fun k i q => by
  simp only [p_hr, rA, Bool.or_eq_true, Bool.and_eq_true, beq_iff_eq] at q ⊢
  omega
theorem HC.ag {μ μ' : am_M} {d u : Nat} {E : hE} (h : HC μ d u E) (f : ∀ k r i, p_h k i = true → μ'.1 k r i = μ.1 k r i) : HC μ' d u E :=
  ⟨(f 2 0 5 rfl).trans h.1, (f 2 0 6 rfl).trans h.2.1, h.2.2.1, fun j hj => ⟨(f 33 0 j rfl).trans (h.2.2.2 j hj).1, (f 34 0 j rfl).trans (h.2.2.2 j hj).2.1, (f 35 0 j rfl).trans (h.2.2.2 j hj).2.2.1, (f 36 0 j rfl).trans (h.2.2.2 j hj).2.2.2⟩⟩
theorem HQ.ag {μ μ' : am_M} {d u : Nat} {E : hE} (h : HQ μ d u E) (f : ∀ k r i, p_hr k i = true → μ'.1 k r i = μ.1 k r i) : HQ μ' d u E :=
  ⟨(f 10 0 5 rfl).trans h.1, (f 10 0 4 rfl).trans h.2.1, h.2.2.1, fun j hj => ⟨(f 161 0 j rfl).trans (h.2.2.2 j hj).1, (f 162 0 j rfl).trans (h.2.2.2 j hj).2.1, (f 163 0 j rfl).trans (h.2.2.2 j hj).2.2⟩⟩
theorem TL.ag {c : Nat} {μ μ' : am_M} {T : Nat} {D : Nat → Nat} (h : TL c μ T D) (f : ∀ s, μ'.1 c 0 s = μ.1 c 0 s) : TL c μ' T D := fun s hs => ⟨(h s hs).1, (f s).trans (h s hs).2⟩
theorem XA.ag {μ ν μ' ν' : am_M} (h : XA μ ν) (f : ∀ k r i, qA k i = true → μ'.1 k r i = μ.1 k r i) (g : ∀ k r i, rA k i = true → ν'.1 k r i = ν.1 k r i) : XA μ' ν' := by
  obtain ⟨T, S, a, W, tx, d, u, E, D, h1, h2, h3, h4, h5, h6, h7, h8⟩ := h
  exact ⟨T, S, a, W, tx, d, u, E, D, h1.ag f, h2.ag g, h3.ag (fun k r i q => f k r i (h_qA k i q)), h4.ag (fun k r i q => g k r i (hr_rA k i q)), h5, h6.ag (fun s => f 99 0 s rfl), h7.ag (fun s => g 172 0 s rfl), h8⟩
theorem Xtp.ag {μ ν μ' ν' : am_M} (h : Xtp μ ν) (f1 : μ'.1 3 0 1 = μ.1 3 0 1) (f2 : ∀ j, μ'.1 48 0 j = μ.1 48 0 j) (g1 : ν'.1 10 0 14 = ν.1 10 0 14) (g2 : ∀ j, ν'.1 173 0 j = ν.1 173 0 j) : Xtp μ' ν' := by
  obtain ⟨L, b, h1, h2, h3, h4⟩ := h
  exact ⟨L, b, h1, f1.trans h2, g1.trans h3, fun j hj => ⟨(h4 j hj).1, (f2 j).trans (h4 j hj).2.1, (g2 j).trans (h4 j hj).2.2⟩⟩
theorem SH.ag {K s : Nat} {μ ν μ' ν' : am_M} (h : SH K μ ν s) (f1 : μ'.1 144 0 s = μ.1 144 0 s) (f2 : μ'.1 145 0 s = μ.1 145 0 s) (f3 : ∀ i, i < 60 → μ'.2 446 s i = μ.2 446 s i) (g1 : ν'.1 211 0 s = ν.1 211 0 s) (g2 : ν'.1 212 0 s = ν.1 212 0 s) (g3 : ∀ i, i < 60 → ν'.2 213 0 (60 * s + i) = ν.2 213 0 (60 * s + i)) : SH K μ' ν' s := by
  rcases h with ⟨h1, h2⟩ | ⟨b, h0, h1, h2, h3⟩ | ⟨c, m, k1, k2, k3, k4, k5, k6, k7⟩
  · exact Or.inl ⟨f1.trans h1, g1.trans h2⟩
  · exact Or.inr (Or.inl ⟨b, h0, f1.trans h1, f2.trans h2, g1.trans h3⟩)
  · refine Or.inr (Or.inr ⟨c, m, k1, k2, f1.trans k3, f2.trans k4, g1.trans k5, g2.trans k6, fun i hi => ?_⟩)
    rw [f3 i hi, g3 i hi]
    exact k7 i hi
theorem XK.ag {K : Nat} {kd : Nat → Nat} {μ ν μ' ν' : am_M} (h : XK μ ν K kd) (f : ∀ k r i, qD k i = true → μ'.1 k r i = μ.1 k r i) (g : ∀ k r i, rD k i = true → ν'.1 k r i = ν.1 k r i) : XK μ' ν' K kd :=
  ⟨h.1, (f 8 0 1 rfl).trans h.2.1, (g 10 0 45 rfl).trans h.2.2.1, fun j hj => ⟨(h.2.2.2 j hj).1, (f 128 0 j rfl).trans (h.2.2.2 j hj).2.1, (g 206 0 j rfl).trans (h.2.2.2 j hj).2.2⟩⟩
theorem XT.ag {n : Nat} {μ ν μ' ν' : am_M} (h : XT μ ν n) (f : ∀ k r i, qD k i = true → μ'.1 k r i = μ.1 k r i) (g : ∀ k r i, rD k i = true → ν'.1 k r i = ν.1 k r i) : XT μ' ν' n :=
  ⟨h.1, (f 8 0 3 rfl).trans h.2.1, (g 10 0 48 rfl).trans h.2.2.1, fun j hj hj2 => (f 130 0 j rfl).trans ((h.2.2.2 j hj hj2).trans (g 207 0 j rfl).symm)⟩
theorem XD.ag {μ ν μ' ν' : am_M} (h : XD μ ν) (f : ∀ k r i, qD k i = true → μ'.1 k r i = μ.1 k r i) (f2 : ∀ r i, μ'.2 446 r i = μ.2 446 r i) (g : ∀ k r i, rD k i = true → ν'.1 k r i = ν.1 k r i) (g2 : ∀ i, ν'.2 213 0 i = ν.2 213 0 i) : XD μ' ν' := by
  obtain ⟨K, kd, n, h1, h2, h3⟩ := h
  exact ⟨K, kd, n, h1.ag f g, h2.ag f g, fun s hs => (h3 s hs).ag (f 144 0 s rfl) (f 145 0 s rfl) (fun i _ => f2 s i) (g 211 0 s rfl) (g 212 0 s rfl) (fun i _ => g2 _)⟩
/-- a cell of the reference -/
def isR (k : Nat) : Bool := decide (k = 10 ∨ (160 ≤ k ∧ k ≤ 214))
def cO (μ μ' : am_M) : Prop := ∀ k, isR k = true → ∀ r i, μ'.1 k r i = μ.1 k r i ∧ μ'.2 k r i = μ.2 k r i
def rO (μ μ' : am_M) : Prop := ∀ k, isR k = false → ∀ r i, μ'.1 k r i = μ.1 k r i ∧ μ'.2 k r i = μ.2 k r i
theorem cO.rf {μ : am_M} : cO μ μ := fun _ _ _ _ => ⟨rfl, rfl⟩
theorem rO.rf {μ : am_M} : rO μ μ := fun _ _ _ _ => ⟨rfl, rfl⟩
theorem cO.tr {μ μ1 μ2 : am_M} (h : cO μ μ1) (g : cO μ1 μ2) : cO μ μ2 := fun k hk r i => ⟨(g k hk r i).1.trans (h k hk r i).1, (g k hk r i).2.trans (h k hk r i).2⟩
theorem rO.tr {μ μ1 μ2 : am_M} (h : rO μ μ1) (g : rO μ1 μ2) : rO μ μ2 := fun k hk r i => ⟨(g k hk r i).1.trans (h k hk r i).1, (g k hk r i).2.trans (h k hk r i).2⟩
theorem fr.cO {P : Nat → Nat → Bool} {μ μ' : am_M} (h : fr P μ μ') (hp : ∀ k i, P k i = true → isR k = false) : cO μ μ' := fun k hk r i => ⟨h.1 k r i (by
  cases q : P k i with
  | false => rfl
  | true => rw [hp k i q] at hk; cases hk), by rw [h.2]⟩
theorem fr.rO {P : Nat → Nat → Bool} {μ μ' : am_M} (h : fr P μ μ') (hp : ∀ k i, P k i = true → isR k = true) : rO μ μ' := fun k hk r i => ⟨h.1 k r i (by
  cases q : P k i with
  | false => rfl
  | true => rw [hp k i q] at hk; cases hk), by rw [h.2]⟩
theorem C_cO : ∀ k i, p_C k i = true → isR k = false := fun k i q => by
  simp only [p_C, Bool.or_eq_true, Bool.and_eq_true, beq_iff_eq, bne_iff_ne] at q
  exact decide_eq_false (by omega)
theorem RR_rO : ∀ k i, p_RR k i = true → isR k = true := fun k i q => by
  simp only [p_RR, p_R, p_16, Bool.or_eq_true, Bool.and_eq_true, beq_iff_eq] at q
  exact decide_eq_true (by omega)
theorem hc_cO : ∀ k i, p_hc k i = true → isR k = false := fun k i q => by
  simp only [p_hc, p_h, Bool.or_eq_true, Bool.and_eq_true, beq_iff_eq] at q
  exact decide_eq_false (by omega)
theorem hq_rO : ∀ k i, p_hq k i = true → isR k = true := fun k i q => by
  simp only [p_hq, p_hr, Bool.or_eq_true, Bool.and_eq_true, beq_iff_eq] at q
  exact decide_eq_true (by omega)
theorem fr.nt {P Q : Nat → Nat → Bool} {μ μ' : am_M} (h : fr P μ μ') (hp : ∀ k i, P k i = true → Q k i = true → False) : ∀ k r i, Q k i = true → μ'.1 k r i = μ.1 k r i := fun k r i q => h.1 k r i (by
  cases z : P k i with
  | false => rfl
  | true => exact (hp k i z q).elim)
/-- both sides of a call -/
def AG {β : Type} (f g : am_M → Option (β × am_M)) : Prop := ∀ μ ν, AL μ ν → ∃ r μ' ν', f μ = some (r, μ') ∧ g ν = some (r, ν') ∧ AL μ' ν' ∧ cO μ μ' ∧ rO ν ν'
theorem rA_R : ∀ k i, rA k i = true → isR k = true := fun k i q => by
  simp only [rA, Bool.or_eq_true, Bool.and_eq_true, beq_iff_eq] at q
  exact decide_eq_true (by omega)
theorem rD_R : ∀ k i, rD k i = true → isR k = true := fun k i q => by
  simp only [rD, Bool.or_eq_true, Bool.and_eq_true, beq_iff_eq] at q
  exact decide_eq_true (by omega)
theorem qA_R : ∀ k i, qA k i = true → isR k = false := fun k i q => by
  simp only [qA, Bool.or_eq_true, Bool.and_eq_true, beq_iff_eq] at q
  exact decide_eq_false (by omega)
theorem qD_R : ∀ k i, qD k i = true → isR k = false := fun k i q => by
  simp only [qD, Bool.or_eq_true, Bool.and_eq_true, beq_iff_eq] at q
  exact decide_eq_false (by omega)
theorem AL.cO {μ ν ν' : am_M} (h : AL μ ν) (g : cO ν ν') : AL μ ν' :=
  ⟨h.1.ag (fun _ _ _ _ => rfl) (fun k r i q => (g k (rA_R k i q) r i).1), h.2.1.ag rfl (fun _ => rfl) (g 10 rfl 0 14).1 (fun j => (g 173 rfl 0 j).1), h.2.2.ag (fun _ _ _ _ => rfl) (fun _ _ => rfl) (fun k r i q => (g k (rD_R k i q) r i).1) (fun i => (g 213 rfl 0 i).2)⟩
theorem AL.rO {μ μ' ν : am_M} (h : AL μ ν) (g : rO μ μ') : AL μ' ν :=
  ⟨h.1.ag (fun k r i q => (g k (qA_R k i q) r i).1) (fun _ _ _ _ => rfl), h.2.1.ag (g 3 rfl 0 1).1 (fun j => (g 48 rfl 0 j).1) rfl (fun _ => rfl), h.2.2.ag (fun k r i q => (g k (qD_R k i q) r i).1) (fun r i => (g 446 rfl r i).2) (fun _ _ _ _ => rfl) (fun _ => rfl)⟩
theorem AG.law {β : Type} {f g : am_M → Option (β × am_M)} (h : AG f g) {μ : am_M} (hA : AL μ μ) : ∃ r μ' ν', f μ = some (r, μ') ∧ g μ' = some (r, ν') ∧ AL ν' ν' := by
  obtain ⟨r, μ', -, e1, -, -, e2, -⟩ := h μ μ hA
  obtain ⟨r2, μ2, ν2, g1, g2, g3, -, g4⟩ := h μ μ' (hA.cO e2)
  rw [e1] at g1
  cases g1
  exact ⟨r, μ', ν2, e1, g2, g3.rO g4⟩
theorem AG.q3 {f g : am_M → Option (Int32 × am_M)} (h : ∀ T S a W tx, Q3 T S a W tx f g) : AG f g := by
  intro μ ν ⟨⟨T, S, a, W, tx, d, u, E, D, h1, h2, h3, h4, h5, h6, h7, h8⟩, hB, hD⟩
  obtain ⟨r, μ', ν', e1, e2, e3, e4, e5⟩ := h T S a W tx μ ν h1 h2
  refine ⟨r, μ', ν', e1, e3, ⟨⟨T, S, a, W, tx, d, u, E, D, h1.of e2, e5, ?_, ?_, h5, h6.ag (fun s => e2.1 99 0 s rfl), h7.ag (fun s => e4.1 172 0 s rfl), h8⟩, hB.ag (e2.1 3 0 1 rfl) (fun j => e2.1 48 0 j rfl) (e4.1 10 0 14 rfl) (fun j => e4.1 173 0 j rfl), hD.ag (e2.nt ?_) (fun r i => by rw [e2.2]) (e4.nt ?_) (fun i => by rw [e4.2])⟩, e2.cO C_cO, e4.rO RR_rO⟩
  · exact ⟨(e2.1 2 0 5 rfl).trans h3.1, (e2.1 2 0 6 rfl).trans h3.2.1, h3.2.2.1, fun j hj => ⟨(e2.1 33 0 j rfl).trans (h3.2.2.2 j hj).1, (e2.1 34 0 j rfl).trans (h3.2.2.2 j hj).2.1, (e2.1 35 0 j rfl).trans (h3.2.2.2 j hj).2.2.1, (e2.1 36 0 j rfl).trans (h3.2.2.2 j hj).2.2.2⟩⟩
  · exact ⟨(e4.1 10 0 5 rfl).trans h4.1, (e4.1 10 0 4 rfl).trans h4.2.1, h4.2.2.1, fun j hj => ⟨(e4.1 161 0 j rfl).trans (h4.2.2.2 j hj).1, (e4.1 162 0 j rfl).trans (h4.2.2.2 j hj).2.1, (e4.1 163 0 j rfl).trans (h4.2.2.2 j hj).2.2⟩⟩
  · intro k i q z
    simp only [p_C, qD, Bool.or_eq_true, Bool.and_eq_true, beq_iff_eq, bne_iff_ne] at q z
    omega
  · intro k i q z
    simp only [p_RR, p_R, p_16, rD, Bool.or_eq_true, Bool.and_eq_true, beq_iff_eq] at q z
    omega
theorem AG.q2 {f g : am_M → Option (Int32 × am_M)} (h : ∀ T S a W tx, Q2 T S a W tx f g) : AG f g := AG.q3 (fun T S a W tx => (h T S a W tx).q3)
theorem AG.m2 {f g : am_M → Option (Int32 × am_M)} (h : ∀ T S W tx, M2 T S W tx f g) : AG f g := by
  intro μ ν ⟨⟨T, S, a, W, tx, d, u, E, D, h1, h2, h3, h4, h5, h6, h7, h8⟩, hB, hD⟩
  obtain ⟨r, μ', ν', d', u', E', a', e1, e3, e2, e4, g1, g2, g3, g4, g5⟩ := h T S W tx a μ ν d u E h1 h2 h3 h4 h5
  refine ⟨r, μ', ν', e1, e3, ⟨⟨T, S, a', W, tx, d', u', E', D, g1, g2, g3, g4, g5, h6.ag (fun s => e2.1 99 0 s rfl), h7.ag (fun s => e4.1 172 0 s rfl), h8⟩, hB.ag (e2.1 3 0 1 rfl) (fun j => e2.1 48 0 j rfl) (e4.1 10 0 14 rfl) (fun j => e4.1 173 0 j rfl), hD.ag (e2.nt ?_) (fun r i => by rw [e2.2]) (e4.nt ?_) (fun i => by rw [e4.2])⟩, e2.cO hc_cO, e4.rO hq_rO⟩
  · intro k i q z
    simp only [p_hc, p_h, qD, Bool.or_eq_true, Bool.and_eq_true, beq_iff_eq] at q z
    omega
  · intro k i q z
    simp only [p_hq, p_hr, rD, Bool.or_eq_true, Bool.and_eq_true, beq_iff_eq] at q z
    omega
theorem undo_ag (N : Nat) : AG (f_X9_undo N) (f_X10_undo N) := AG.m2 (fun T S W tx a μ ν d u E h1 h2 h3 h4 h5 => by
  obtain ⟨r, μ', ν', d', u', a', g⟩ := undo_2 N h1 h2 h3 h4 h5
  exact ⟨r, μ', ν', d', u', E, a', g⟩)
theorem redo_ag (N : Nat) : AG (f_X9_redo N) (f_X10_redo N) := AG.m2 (fun T S W tx a μ ν d u E h1 h2 h3 h4 h5 => by
  obtain ⟨r, μ', ν', d', u', a', g⟩ := redo_2 N h1 h2 h3 h4 h5
  exact ⟨r, μ', ν', d', u', E, a', g⟩)
theorem judge_ag (N : Nat) (hN : 5000 ≤ N) : AG (f_X9_judge N) (f_X10_judge N) := by
  intro μ ν h
  have hA := h
  obtain ⟨⟨T, S, a, W, tx, d, u, E, D, h1, h2, h3, h4, h5, h6, h7, h8⟩, hB, hD⟩ := h
  obtain ⟨r, μ', ν', e1, e2, e3, e4⟩ := judge_q N hN h1 h6 h2 h7
  have hR : fr p_RR ν ν' := R_RR e4
  refine ⟨r, μ', ν', e1, e3, ⟨⟨T, S, a, W, tx, d, u, E, D, h1.of e2, h2.of e4, ?_, ?_, h5, h6.ag (fun s => e2.1 99 0 s rfl), h7.ag (fun s => e4.1 172 0 s rfl), h8⟩, hB.ag (e2.1 3 0 1 rfl) (fun j => e2.1 48 0 j rfl) (e4.1 10 0 14 rfl) (fun j => e4.1 173 0 j rfl), hD.ag (e2.nt ?_) (fun r i => by rw [e2.2]) (e4.nt ?_) (fun i => by rw [e4.2])⟩, e2.cO C_cO, hR.rO RR_rO⟩
  · exact ⟨(e2.1 2 0 5 rfl).trans h3.1, (e2.1 2 0 6 rfl).trans h3.2.1, h3.2.2.1, fun j hj => ⟨(e2.1 33 0 j rfl).trans (h3.2.2.2 j hj).1, (e2.1 34 0 j rfl).trans (h3.2.2.2 j hj).2.1, (e2.1 35 0 j rfl).trans (h3.2.2.2 j hj).2.2.1, (e2.1 36 0 j rfl).trans (h3.2.2.2 j hj).2.2.2⟩⟩
  · exact ⟨(e4.1 10 0 5 rfl).trans h4.1, (e4.1 10 0 4 rfl).trans h4.2.1, h4.2.2.1, fun j hj => ⟨(e4.1 161 0 j rfl).trans (h4.2.2.2 j hj).1, (e4.1 162 0 j rfl).trans (h4.2.2.2 j hj).2.1, (e4.1 163 0 j rfl).trans (h4.2.2.2 j hj).2.2⟩⟩
  · intro k i q z
    simp only [p_C, qD, Bool.or_eq_true, Bool.and_eq_true, beq_iff_eq, bne_iff_ne] at q z
    omega
  · intro k i q z
    simp only [p_R, rD, Bool.or_eq_true, Bool.and_eq_true, beq_iff_eq] at q z
    omega
