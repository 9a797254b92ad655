/-! what the law finds at the start: classes, arrays' classes, tables -/
theorem wi_oI : Cond.arrayOver (.array .int) ∈ lw_tbl := List.mem_of_getElem? (i := 95) (by decide +kernel)
theorem wi_oL : Cond.arrayOver (.array .long) ∈ lw_tbl := List.mem_of_getElem? (i := 339) (by decide +kernel)
theorem wi_P : Cond.initialized "PointsForAll$Purses" ∈ lw_tbl := List.mem_of_getElem? (i := 74) (by decide +kernel)
theorem wi_s0 : Cond.laysStatic "PointsForAll$Purses" "BUYS" "[I" ∈ lw_tbl := List.mem_of_getElem? (i := 942) (by decide +kernel)
theorem wi_s1 : Cond.laysStatic "PointsForAll$Purses" "KEEPS" "[I" ∈ lw_tbl := List.mem_of_getElem? (i := 944) (by decide +kernel)
theorem wi_s2 : Cond.laysStatic "PointsForAll$Purses" "LENDS" "[I" ∈ lw_tbl := List.mem_of_getElem? (i := 946) (by decide +kernel)
theorem wi_s3 : Cond.laysStatic "PointsForAll$Purses" "TELLS" "[I" ∈ lw_tbl := List.mem_of_getElem? (i := 948) (by decide +kernel)
theorem wi_s4 : Cond.laysStatic "PointsForAll$Purses" "ABOVE" "[I" ∈ lw_tbl := List.mem_of_getElem? (i := 953) (by decide +kernel)
theorem st_cls {s : State} {args : Array Value} (hts : ∀ w ∈ am_tb, w.before args s = true) : ∃ D : va_G, ∀ (c : Nat) (q : vw_C), vwCl[c]? = some q → u_Kn s q.1 q.2.1 q.2.2 (D.1 c) (D.2 c) := by
  have h : ∀ c : Nat, ∃ p : ClassId × (Nat → Nat), ∀ q, vwCl[c]? = some q → u_Kn s q.1 q.2.1 q.2.2 p.1 p.2 := by
    intro c
    obtain ⟨a0, b0, h0⟩ := u_known hts in_X0 (hts _ (am_g wt_X0 rfl))
    match c with
    | 0 => exact ⟨(a0, b0), fun q hq => by cases hq; exact h0⟩
    | 1 => obtain ⟨a, b, h⟩ := u_known hts in_X1 (hts _ (am_g wt_X1 rfl)); exact ⟨(a, b), fun q hq => by cases hq; exact h⟩
    | 2 => obtain ⟨a, b, h⟩ := u_known hts in_X2 (hts _ (am_g wt_X2 rfl)); exact ⟨(a, b), fun q hq => by cases hq; exact h⟩
    | 3 => obtain ⟨a, b, h⟩ := u_known hts in_X3 (hts _ (am_g wt_X3 rfl)); exact ⟨(a, b), fun q hq => by cases hq; exact h⟩
    | 4 => obtain ⟨a, b, h⟩ := u_known hts in_X4 (hts _ (am_g wt_X4 rfl)); exact ⟨(a, b), fun q hq => by cases hq; exact h⟩
    | 5 => obtain ⟨a, b, h⟩ := u_known hts in_X5 (hts _ (am_g wt_X5 rfl)); exact ⟨(a, b), fun q hq => by cases hq; exact h⟩
    | 6 => obtain ⟨a, b, h⟩ := u_known hts in_X6 (hts _ (am_g wt_X6 rfl)); exact ⟨(a, b), fun q hq => by cases hq; exact h⟩
    | 7 => obtain ⟨a, b, h⟩ := u_known hts in_X7 (hts _ (am_g wt_X7 rfl)); exact ⟨(a, b), fun q hq => by cases hq; exact h⟩
    | 8 => obtain ⟨a, b, h⟩ := u_known hts in_X8 (hts _ (am_g wt_X8 rfl)); exact ⟨(a, b), fun q hq => by cases hq; exact h⟩
    | 9 => obtain ⟨a, b, h⟩ := u_known hts in_X9 (hts _ (am_g wt_X9 rfl)); exact ⟨(a, b), fun q hq => by cases hq; exact h⟩
    | 10 => obtain ⟨a, b, h⟩ := u_known hts in_X10 (hts _ (am_g wt_X10 rfl)); exact ⟨(a, b), fun q hq => by cases hq; exact h⟩
    | n + 11 => exact ⟨(a0, b0), fun q hq => by cases hq⟩
  exact ⟨(fun c => (Classical.choose (h c)).1, fun c => (Classical.choose (h c)).2), fun c => Classical.choose_spec (h c)⟩
theorem st_arr {s : State} {args : Array Value} (hts : ∀ w ∈ lw_tbl, w.before args s = true) : ∃ cT : Nat → ClassId, (∀ (k : Nat) (q : ClassId × FieldType), (bty cT)[k]? = some q → ArrOfT s q.1 q.2 ∧ va_RA s q.1 q.2) ∧ bM cT s := by
  obtain ⟨c1, k1, d1, n1, m1, e1⟩ := Cond.arrayClass_spec (hts _ wi_aI)
  obtain ⟨c2, k2, d2, n2, m2, e2⟩ := Cond.arrayClass_spec (hts _ wi_aL)
  obtain ⟨b3, c3, k3, n3, m3, e3, f3⟩ := mq_over (hts _ wi_oI)
  obtain ⟨b4, c4, k4, n4, m4, e4, f4⟩ := mq_over (hts _ wi_oL)
  have q3 : c1 = b3 := Option.some.inj (n1.symm.trans n3)
  have q4 : c2 = b4 := Option.some.inj (n2.symm.trans n4)
  subst q3; subst q4
  refine ⟨fun k => if k = 1 then c1 else if k = 2 then c2 else if k = 3 then c3 else c4, fun k q hq => ?_, ⟨k3, m3, e3⟩, ⟨k4, m4, e4⟩⟩
  match k with
  | 0 => cases hq; exact ⟨fun N z => ⟨fun k h => (by cases h), k1, m1, d1, e1⟩, n1⟩
  | 1 => cases hq; exact ⟨fun N z => ⟨fun k h => (by cases h), k2, m2, d2, e2⟩, n2⟩
  | 2 => cases hq; exact ⟨fun N z => ⟨fun k h => (by cases h), k3, m3, _, e3⟩, f3⟩
  | 3 => cases hq; exact ⟨fun N z => ⟨fun k h => (by cases h), k4, m4, _, e4⟩, f4⟩
  | n + 4 => cases hq
theorem st_one {args : Array Value} {s : State} {C : Cond} {n : String} {vs : List Int32} {A : Nat → Prop} (hg : C.before args s = true) (hl : (Cond.laysStatic "PointsForAll$Purses" n "[I").before args s = true) (hini : (Cond.initialized "PointsForAll$Purses").before args s = true) (h1 : Cond.arrayOf (.static "PointsForAll$Purses" n "[I") .int ∈ flatC C) (h2 : Cond.eq (.length (.static "PointsForAll$Purses" n "[I")) (.int 8) ∈ flatC C) (h3 : ∀ j, j < 8 → Cond.eq (.elem (.static "PointsForAll$Purses" n "[I") (.int (Int32.ofNat j))) (.int (vs.getD j 0)) ∈ flatC C) (hA : ∀ a : Nat, a < s.heap.size → ¬ A a) : ∃ t : Nat, va_Z "PointsForAll$Purses" n "[I" (.ref t) A s s.heap ∧ va_T .int t 8 (fun i => .int (vs.getD i 0)) A s s.heap := by
  have hs := flat_of_before C hg
  obtain ⟨t, e, hT⟩ := va_Tof (N := 8) (f := fun i => .int (vs.getD i 0)) (by decide) (hs _ h1) (va_eqt (hs _ h2)) (fun j hj => va_eqt (hs _ (h3 j hj))) hA
  exact ⟨t, va_Zref hl hini e hA, hT⟩
set_option maxRecDepth 100000 in
theorem st_tab {args : Array Value} {s : State} {A : Nat → Prop} (hts : ∀ w ∈ lw_tbl, w.before args s = true) (hg : (Jvm.Cond.and given_1 narrow_1).before args s = true) (hA : ∀ a : Nat, a < s.heap.size → ¬ A a) : ∃ st : Nat → Nat, ∀ (j : Nat) (q : String × List Int32), am_st[j]? = some q → va_Z "PointsForAll$Purses" q.1 "[I" (.ref (st j)) A s s.heap ∧ va_T .int (st j) 8 (fun i => .int (q.2.getD i 0)) A s s.heap := by
  obtain ⟨t0, h0⟩ := st_one (n := "BUYS") (vs := [1, 20, 0, 0, 0, 60, 70, 0]) hg (hts _ wi_s0) (hts _ wi_P) (by decide +kernel) (by decide +kernel) (by decide +kernel) hA
  obtain ⟨t1, h1⟩ := st_one (n := "KEEPS") (vs := [10, 0, 30, 0, 0, 0, 0, 80]) hg (hts _ wi_s1) (hts _ wi_P) (by decide +kernel) (by decide +kernel) (by decide +kernel) hA
  obtain ⟨t2, h2⟩ := st_one (n := "LENDS") (vs := [11, 0, 0, 40, 50, 0, 0, 0]) hg (hts _ wi_s2) (hts _ wi_P) (by decide +kernel) (by decide +kernel) (by decide +kernel) hA
  obtain ⟨t3, h3⟩ := st_one (n := "TELLS") (vs := [2, 0, 0, 0, 0, 61, 0, 81]) hg (hts _ wi_s3) (hts _ wi_P) (by decide +kernel) (by decide +kernel) (by decide +kernel) hA
  obtain ⟨t4, h4⟩ := st_one (n := "ABOVE") (vs := [-1, 0, 0, 2, 2, 3, 0, 4]) hg (hts _ wi_s4) (hts _ wi_P) (by decide +kernel) (by decide +kernel) (by decide +kernel) hA
  refine ⟨fun k => if k = 0 then t0 else if k = 1 then t1 else if k = 2 then t2 else if k = 3 then t3 else t4, fun j q hq => ?_⟩
  match j with
  | 0 => cases hq; exact h0
  | 1 => cases hq; exact h1
  | 2 => cases hq; exact h2
  | 3 => cases hq; exact h3
  | 4 => cases hq; exact h4
  | n + 5 => cases hq
