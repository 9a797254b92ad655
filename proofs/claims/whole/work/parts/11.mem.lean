def am_fi (own : String) (idx k j : Nat) (f : Option Nat) : Prop := ∃ (ci N : Nat) (fs : List (Option Nat)) (C : String) (T : u_T) (ty0 : Nat → FieldType), ((k, 0, ci, 1, fs) : am_Q) ∈ am_ly ∧ vwCl[ci]? = some (C, T, N) ∧ (∀ w ∈ u_ws C T N, w ∈ am_tb) ∧ (∀ i, i < N → parseFieldDescriptor (T i).2.2.1 = some (ty0 i)) ∧ (∀ a, a < N → ∀ b, b < N → a ≠ b → (T a).2.1 ≠ (T b).2.1) ∧ j < N ∧ fs[j]? = some f ∧ Cond.fieldLink own idx (T j).1 (T j).2.1 (T j).2.2.1 ∈ lw_tbl ∧ (f = none → (T j).2.2.2 = false ∧ parseFieldDescriptor (T j).2.2.1 = some .int)
theorem am_in {ws : List Cond} (ps : List Nat) (hp : ws = ps.filterMap (fun i => lw_tbl[i]?)) (hg : ws.all goodWord = true) : ∀ w ∈ ws, w ∈ am_tb := by
  intro w hw
  refine am_g ?_ (List.all_eq_true.mp hg w hw)
  rw [hp] at hw
  obtain ⟨i, -, hi⟩ := List.mem_filterMap.mp hw
  exact List.mem_of_getElem? hi
def am_uf (μ : am_M) (k r : Nat) (f : Nat → Int64) : am_M := (μ.1, fun a b j => if a = k ∧ b = r then f j else μ.2 a b j)
def am_cg {γ : Type} (sp dp n : Int32) (N : Nat) (k : Nat → Nat → Nat → Option γ) : Option γ := if sp < 0 ∨ dp < 0 ∨ n < 0 ∨ ¬ sp.toNatClampNeg + n.toNatClampNeg ≤ N ∨ ¬ dp.toNatClampNeg + n.toNatClampNeg ≤ N then none else k sp.toNatClampNeg dp.toNatClampNeg n.toNatClampNeg
section SMM
variable {α : Type} {G : am_G} {l : Launch} {cv : α → Option Value} {d : Nat} {mi : am_Me} {pc : Nat} {lv : List (Nat × Value)} {st : List Value} {μ : am_M} {o : Option (α × am_M)}
theorem sm_geti {idx k j : Nat} (hd : decode mi.2.1 pc = .ok (.getfield idx, 3)) (hf : am_fi mi.1.cls idx k j none) (kk : sm_P G l cv d mi (pc + 3) lv (.int (μ.1 k 0 j) :: st) μ o) : sm_P G l cv d mi pc lv (.ref (am_ad G k 0) :: st) μ o := by
  obtain ⟨ci, N, fs, C, T, ty0, hq, hc, hin, hty, hnm, hj, hfs, hlk, -⟩ := hf
  intro a μ1 ho p e R s m args below meth c H locs cells slots ls h1 h2 h3 h4 B hW hS hl
  obtain ⟨i, hi⟩ := am_at hq (r := 0) Nat.zero_lt_one
  have hv := am_fs_get (ad := am_ad G) (μ := μ) (k := k) (r := 0) fs 0 j none hfs
  rw [Nat.zero_add] at hv
  exact va_get (D := G.1) (ci := ci) (v := .int (μ.1 k 0 j)) (C := C) (T := T) (N := N) (Ts := am_tb) B.1 B.2.1 B.2.2.2.2.2.1 hin B.2.2.2.2.1 B.2.2.2.2.2.2.2.2.1 hW i (am_wat hi) hc j hj (B.2.2.2.2.2.1 _ (am_g hlk rfl)) (fun _ h => h) hv hd (kk a μ1 ho p e R s m args below meth c H locs cells slots ls h1 h2 h3 h4 B hW hS hl)
theorem sm_getr {idx k j k2 : Nat} (hd : decode mi.2.1 pc = .ok (.getfield idx, 3)) (hf : am_fi mi.1.cls idx k j (some k2)) (kk : sm_P G l cv d mi (pc + 3) lv (.ref (am_ad G k2 0) :: st) μ o) : sm_P G l cv d mi pc lv (.ref (am_ad G k 0) :: st) μ o := by
  obtain ⟨ci, N, fs, C, T, ty0, hq, hc, hin, hty, hnm, hj, hfs, hlk, -⟩ := hf
  intro a μ1 ho p e R s m args below meth c H locs cells slots ls h1 h2 h3 h4 B hW hS hl
  obtain ⟨i, hi⟩ := am_at hq (r := 0) Nat.zero_lt_one
  have hv := am_fs_get (ad := am_ad G) (μ := μ) (k := k) (r := 0) fs 0 j (some k2) hfs
  exact va_get (D := G.1) (ci := ci) (v := .ref (am_ad G k2 0)) (C := C) (T := T) (N := N) (Ts := am_tb) B.1 B.2.1 B.2.2.2.2.2.1 hin B.2.2.2.2.1 B.2.2.2.2.2.2.2.2.1 hW i (am_wat hi) hc j hj (B.2.2.2.2.2.1 _ (am_g hlk rfl)) (fun _ h => h) hv hd (kk a μ1 ho p e R s m args below meth c H locs cells slots ls h1 h2 h3 h4 B hW hS hl)
theorem sm_puti {idx k j : Nat} {x : Int32} (hd : decode mi.2.1 pc = .ok (.putfield idx, 3)) (hf : am_fi mi.1.cls idx k j none) (kk : sm_P G l cv d mi (pc + 3) lv st (am_ui μ k 0 j x) o) : sm_P G l cv d mi pc lv (.int x :: .ref (am_ad G k 0) :: st) μ o := by
  obtain ⟨ci, N, fs, C, T, ty0, hq, hc, hin, hty, hnm, hj, hfs, hlk, hf0⟩ := hf
  intro a μ1 ho p e R s m args below meth c H locs cells slots ls h1 h2 h3 h4 B hW hS hl
  obtain ⟨i, hi⟩ := am_at hq (r := 0) Nat.zero_lt_one
  have hlt : j < (am_fs (am_ad G) μ k 0 0 fs).length := by
    rw [am_fs_len]
    exact (List.getElem?_eq_some_iff.mp hfs).1
  have hset := am_fs_set (ad := am_ad G) (μ := μ) (k := k) (r := 0) (x := x) fs 0 j hfs
  rw [Nat.zero_add] at hset
  exact va_put (D := G.1) (ci := ci) (ty := .int) (v := .int x) (C := C) (T := T) (N := N) (Ts := am_tb) B.1 B.2.1 B.2.2.2.2.2.1 hin ty0 hty hnm B.2.2.2.2.1 B.2.2.2.2.2.2.2.2.1 hW (am_apart B.2.2.2.2.2.2.2.1) hS i (am_wat hi) hc j hj (B.2.2.2.2.2.1 _ (am_g hlk rfl)) (fun _ h => h) (hf0 rfl).1 (hf0 rfl).2 rfl rfl hlt hd (fun H1 locs1 hP1 _ hS1 => kk a μ1 ho p e R s m args below meth c H1 locs1 cells slots ls h1 h2 h3 h4 B (am_set B.2.2.2.2.2.2.2.1 hi hP1 (by show Sum.inr (ci, _) = _; rw [hset]) (fun a b z hn => if_neg fun h => hn ⟨h.1, h.2.1⟩) (fun _ _ _ _ => rfl)) hS1 hl)
theorem sm_iald {k r n rows : Nat} {i : Int32} {f : Nat → Option (α × am_M)} (hd : decode mi.2.1 pc = .ok (.iaload, 1)) (hq : ((k, 1, n, rows, []) : am_Q) ∈ am_ly) (hr : r < rows) (kk : ∀ j, j < n → sm_P G l cv d mi (pc + 1) lv (.int (μ.1 k r j) :: st) μ (f j)) : sm_P G l cv d mi pc lv (.int i :: .ref (am_ad G k r) :: st) μ (am_gd i n f) := by
  intro a μ1 ho p e R s m args below meth c H locs cells slots ls h1 h2 h3 h4 B hW hS hl
  obtain ⟨i', hi⟩ := am_at hq hr
  unfold am_gd at ho
  by_cases c0 : i < 0
  · rw [if_pos c0] at ho; cases ho
  · rw [if_neg c0] at ho
    by_cases c1 : i.toNatClampNeg < n
    · rw [if_pos c1] at ho
      exact va_iald (D := G.1) B.1 B.2.1 B.2.2.2.2.2.2.2.2.1 hW i' 0 (am_wat hi) rfl (fun h => h.elim c0 (Nat.not_le.mpr c1)) hd (kk _ c1 a μ1 ho p e R s m args below meth c H locs cells slots ls h1 h2 h3 h4 B hW hS hl)
    · rw [if_neg c1] at ho; cases ho
theorem sm_iast {k r n rows : Nat} {i x : Int32} {f : Nat → Option (α × am_M)} (hd : decode mi.2.1 pc = .ok (.iastore, 1)) (hq : ((k, 1, n, rows, []) : am_Q) ∈ am_ly) (hr : r < rows) (kk : ∀ j, j < n → sm_P G l cv d mi (pc + 1) lv st (am_ui μ k r j x) (f j)) : sm_P G l cv d mi pc lv (.int x :: .int i :: .ref (am_ad G k r) :: st) μ (am_gd i n f) := by
  intro a μ1 ho p e R s m args below meth c H locs cells slots ls h1 h2 h3 h4 B hW hS hl
  obtain ⟨i', hi⟩ := am_at hq hr
  unfold am_gd at ho
  by_cases c0 : i < 0
  · rw [if_pos c0] at ho; cases ho
  · rw [if_neg c0] at ho
    by_cases c1 : i.toNatClampNeg < n
    · rw [if_pos c1] at ho
      exact va_iast (D := G.1) B.1 B.2.1 B.2.2.2.2.2.2.2.2.1 hW (am_apart B.2.2.2.2.2.2.2.1) hS i' 0 (am_wat hi) rfl (fun h => h.elim c0 (Nat.not_le.mpr c1)) hd (fun H1 locs1 hP1 _ hS1 => kk _ c1 a μ1 ho p e R s m args below meth c H1 locs1 cells slots ls h1 h2 h3 h4 B (am_set B.2.2.2.2.2.2.2.1 hi hP1 (by show Sum.inl (am_cT G 1, (n, Sum.inl _)) = _; congr 4; funext z; simp [am_ui, upd]) (fun a b z hn => if_neg fun h => hn ⟨h.1, h.2.1⟩) (fun _ _ _ _ => rfl)) hS1 hl)
    · rw [if_neg c1] at ho; cases ho
theorem sm_lald {k r n rows : Nat} {i : Int32} {f : Nat → Option (α × am_M)} (hd : decode mi.2.1 pc = .ok (.laload, 1)) (hq : ((k, 2, n, rows, []) : am_Q) ∈ am_ly) (hr : r < rows) (kk : ∀ j, j < n → sm_P G l cv d mi (pc + 1) lv (.long (μ.2 k r j) :: st) μ (f j)) : sm_P G l cv d mi pc lv (.int i :: .ref (am_ad G k r) :: st) μ (am_gd i n f) := by
  intro a μ1 ho p e R s m args below meth c H locs cells slots ls h1 h2 h3 h4 B hW hS hl
  obtain ⟨i', hi⟩ := am_at hq hr
  unfold am_gd at ho
  by_cases c0 : i < 0
  · rw [if_pos c0] at ho; cases ho
  · rw [if_neg c0] at ho
    by_cases c1 : i.toNatClampNeg < n
    · rw [if_pos c1] at ho
      exact va_lald (D := G.1) B.1 B.2.1 B.2.2.2.2.2.2.2.2.1 hW i' 1 (am_wat hi) rfl (fun h => h.elim c0 (Nat.not_le.mpr c1)) hd (kk _ c1 a μ1 ho p e R s m args below meth c H locs cells slots ls h1 h2 h3 h4 B hW hS hl)
    · rw [if_neg c1] at ho; cases ho
theorem sm_last {k r n rows : Nat} {i : Int32} {x : Int64} {f : Nat → Option (α × am_M)} (hd : decode mi.2.1 pc = .ok (.lastore, 1)) (hq : ((k, 2, n, rows, []) : am_Q) ∈ am_ly) (hr : r < rows) (kk : ∀ j, j < n → sm_P G l cv d mi (pc + 1) lv st (am_ul μ k r j x) (f j)) : sm_P G l cv d mi pc lv (.long x :: .int i :: .ref (am_ad G k r) :: st) μ (am_gd i n f) := by
  intro a μ1 ho p e R s m args below meth c H locs cells slots ls h1 h2 h3 h4 B hW hS hl
  obtain ⟨i', hi⟩ := am_at hq hr
  unfold am_gd at ho
  by_cases c0 : i < 0
  · rw [if_pos c0] at ho; cases ho
  · rw [if_neg c0] at ho
    by_cases c1 : i.toNatClampNeg < n
    · rw [if_pos c1] at ho
      exact va_last (D := G.1) B.1 B.2.1 B.2.2.2.2.2.2.2.2.1 hW (am_apart B.2.2.2.2.2.2.2.1) hS i' 1 (am_wat hi) rfl (fun h => h.elim c0 (Nat.not_le.mpr c1)) hd (fun H1 locs1 hP1 _ hS1 => kk _ c1 a μ1 ho p e R s m args below meth c H1 locs1 cells slots ls h1 h2 h3 h4 B (am_set B.2.2.2.2.2.2.2.1 hi hP1 (by show Sum.inl (am_cT G 2, (n, Sum.inr (Sum.inl _))) = _; congr 5; funext z; simp [am_ul, vp_updL]) (fun _ _ _ _ => rfl) (fun a b z hn => if_neg fun h => hn ⟨h.1, h.2.1⟩)) hS1 hl)
    · rw [if_neg c1] at ho; cases ho
theorem sm_aald {t k k2 n : Nat} {ty : FieldType} {i : Int32} {f : Nat → Option (α × am_M)} (hd : decode mi.2.1 pc = .ok (.aaload, 1)) (hq : ((k, t + 3, n, 1, [some k2]) : am_Q) ∈ am_ly) (ht : ∀ G : am_G, (am_ty G)[t + 2]? = some (am_cT G (t + 3), .array ty)) (kk : ∀ j, j < n → sm_P G l cv d mi (pc + 1) lv (.ref (am_ad G k2 j) :: st) μ (f j)) : sm_P G l cv d mi pc lv (.int i :: .ref (am_ad G k 0) :: st) μ (am_gd i n f) := by
  intro a μ1 ho p e R s m args below meth c H locs cells slots ls h1 h2 h3 h4 B hW hS hl
  obtain ⟨i', hi⟩ := am_at hq (r := 0) Nat.zero_lt_one
  unfold am_gd at ho
  by_cases c0 : i < 0
  · rw [if_pos c0] at ho; cases ho
  · rw [if_neg c0] at ho
    by_cases c1 : i.toNatClampNeg < n
    · rw [if_pos c1] at ho
      exact W.aald (v := .ref (am_ad G k2 i.toNatClampNeg)) (ty := .array ty) B.1 B.2.1 (hW i' _ (am_wat hi)) ((B.2.2.2.2.2.2.2.2.1.2 (t + 2) _ (ht G)).1 n (fun j => va_rf (some (am_ad G k2 j)))) rfl (fun q => by cases q) (by show ¬ (i < 0 ∨ (arrV _ _ _).slots.size ≤ _); rw [arrV_size]; exact fun h => h.elim c0 (Nat.not_le.mpr c1)) (by show (arrV _ _ _).slots[_]? = _; rw [arrV_read _ _ c1]; rfl) rfl rfl hd (kk _ c1 a μ1 ho p e R s m args below meth c H locs cells slots ls h1 h2 h3 h4 B hW hS hl)
    · rw [if_neg c1] at ho; cases ho
theorem sm_alen {k n rows : Nat} {v : Int32} (hd : decode mi.2.1 pc = .ok (.arraylength, 1)) (hq : ((k, 1, n, 1, []) : am_Q) ∈ am_ly) (hv : Int32.ofNat n = v) (kk : sm_P G l cv d mi (pc + 1) lv (.int v :: st) μ o) : sm_P G l cv d mi pc lv (.ref (am_ad G k 0) :: st) μ o := by
  intro a μ1 ho p e R s m args below meth c H locs cells slots ls h1 h2 h3 h4 B hW hS hl
  obtain ⟨i', hi⟩ := am_at hq (r := 0) Nat.zero_lt_one
  exact va_alen (D := G.1) (ty := .int) B.1 B.2.1 B.2.2.2.2.2.2.2.2.1 hW i' 0 (am_wat hi) rfl hv hd (kk a μ1 ho p e R s m args below meth c H locs cells slots ls h1 h2 h3 h4 B hW hS hl)
theorem sm_gets {idx j : Nat} {nm : String} {tb : List Int32} (hd : decode mi.2.1 pc = .ok (.getstatic idx, 3)) (hw : Cond.fieldLink mi.1.cls idx "PointsForAll$Purses" nm "[I" ∈ lw_tbl) (hj : am_st[j]? = some (nm, tb)) (kk : sm_P G l cv d mi (pc + 3) lv (.ref (am_ad G (900 + j) 0) :: st) μ o) : sm_P G l cv d mi pc lv st μ o := by
  intro a μ1 ho p e R s m args below meth c H locs cells slots ls h1 h2 h3 h4 B hW hS hl
  exact va_gets B.1 B.2.1 (B.2.2.2.2.2.2.2.2.2.1 j _ hj).1 hS B.2.2.2.2.1 (B.2.2.2.2.2.1 _ (am_g hw rfl)) (fun _ h => h) hd (kk a μ1 ho p e R s m args below meth c H locs cells slots ls h1 h2 h3 h4 B hW hS hl)
theorem sm_tald {j : Nat} {nm : String} {tb : List Int32} {i : Int32} {f : Nat → Option (α × am_M)} (hd : decode mi.2.1 pc = .ok (.iaload, 1)) (hj : am_st[j]? = some (nm, tb)) (kk : ∀ z, z < 8 → sm_P G l cv d mi (pc + 1) lv (.int (tb.getD z 0) :: st) μ (f z)) : sm_P G l cv d mi pc lv (.int i :: .ref (am_ad G (900 + j) 0) :: st) μ (am_gd i 8 f) := by
  intro a μ1 ho p e R s m args below meth c H locs cells slots ls h1 h2 h3 h4 B hW hS hl
  unfold am_gd at ho
  by_cases c0 : i < 0
  · rw [if_pos c0] at ho; cases ho
  · rw [if_neg c0] at ho
    by_cases c1 : i.toNatClampNeg < 8
    · rw [if_pos c1] at ho
      exact va_ti B.1 B.2.1 (B.2.2.2.2.2.2.2.2.2.1 j _ hj).2 hS (fun h => h.elim c0 (Nat.not_le.mpr c1)) rfl hd (kk _ c1 a μ1 ho p e R s m args below meth c H locs cells slots ls h1 h2 h3 h4 B hW hS hl)
    · rw [if_neg c1] at ho; cases ho
theorem sm_sald {i : Int32} {f : Nat → Option (α × am_M)} (hd : decode mi.2.1 pc = .ok (.iaload, 1)) (kk : ∀ j, j < am_L G → sm_P G l cv d mi (pc + 1) lv (.int (am_xs G j) :: st) μ (f j)) : sm_P G l cv d mi pc lv (.int i :: .ref (am_b G) :: st) μ (am_gd i (am_L G) f) := by
  intro a μ1 ho p e R s m args below meth c H locs cells slots ls h1 h2 h3 h4 B hW hS hl
  unfold am_gd at ho
  by_cases c0 : i < 0
  · rw [if_pos c0] at ho; cases ho
  · rw [if_neg c0] at ho
    by_cases c1 : i.toNatClampNeg < am_L G
    · rw [if_pos c1] at ho
      exact va_sld B.1 B.2.1 B.2.2.2.2.2.2.2.2.2.2.1 B.2.2.2.2.2.2.2.2.2.2.2.1 B.2.2.2.2.2.2.2.2.2.2.2.2.1 hS (fun h => h.elim c0 (Nat.not_le.mpr c1)) hd (kk _ c1 a μ1 ho p e R s m args below meth c H locs cells slots ls h1 h2 h3 h4 B hW hS hl)
    · rw [if_neg c1] at ho; cases ho
theorem sm_slen (hd : decode mi.2.1 pc = .ok (.arraylength, 1)) (kk : sm_P G l cv d mi (pc + 1) lv (.int (Int32.ofNat (am_L G)) :: st) μ o) : sm_P G l cv d mi pc lv (.ref (am_b G) :: st) μ o := by
  intro a μ1 ho p e R s m args below meth c H locs cells slots ls h1 h2 h3 h4 B hW hS hl
  exact va_slen B.1 B.2.1 B.2.2.2.2.2.2.2.2.2.2.1 B.2.2.2.2.2.2.2.2.2.2.2.1 B.2.2.2.2.2.2.2.2.2.2.2.2.1 hS hd (kk a μ1 ho p e R s m args below meth c H locs cells slots ls h1 h2 h3 h4 B hW hS hl)
theorem sm_max {idx : Nat} {x y : Int32} (hd : decode mi.2.1 pc = .ok (.invokestatic idx, 3)) (hdd : 1 ≤ d) (hst : (st.map fun v => v.category).sum ≤ 8) (hw : Cond.methodLink mi.1.cls idx Lib.Math.max.name ∈ lw_tbl) (hw2 : Cond.static Lib.Math.max.name ∈ lw_tbl) (hw3 : Cond.initialized "java/lang/Math" ∈ lw_tbl) (hw4 : Cond.code Lib.Math.max.name Lib.Math.max.code 2 (some .int) ∈ lw_tbl) (kk : sm_P G l cv d mi (pc + 3) lv (.int (if x < y then y else x) :: st) μ o) : sm_P G l cv d mi pc lv (.int y :: .int x :: st) μ o := by
  intro a μ1 ho p e R s m args below meth c H locs cells slots ls h1 h2 h3 h4 B hW hS hl
  exact va_mmax B.1 B.2.1 (B.2.2.1.trans hl.1.symm) B.2.2.2.2.1 (B.2.2.2.2.2.1 _ (am_g hw rfl)) (B.2.2.2.2.2.1 _ (am_g hw2 rfl)) (B.2.2.2.2.2.1 _ (am_g hw3 rfl)) (B.2.2.2.2.2.1 _ (am_g hw4 rfl)) (by omega) (by omega) h3 h4 hd (kk a μ1 ho p e R s m args below meth c H locs cells slots ls h1 h2 h3 h4 B hW hS hl)
theorem sm_min {idx : Nat} {x y : Int32} (hd : decode mi.2.1 pc = .ok (.invokestatic idx, 3)) (hdd : 1 ≤ d) (hst : (st.map fun v => v.category).sum ≤ 8) (hw : Cond.methodLink mi.1.cls idx Lib.Math.min.name ∈ lw_tbl) (hw2 : Cond.static Lib.Math.min.name ∈ lw_tbl) (hw3 : Cond.initialized "java/lang/Math" ∈ lw_tbl) (hw4 : Cond.code Lib.Math.min.name Lib.Math.min.code 2 (some .int) ∈ lw_tbl) (kk : sm_P G l cv d mi (pc + 3) lv (.int (if y < x then y else x) :: st) μ o) : sm_P G l cv d mi pc lv (.int y :: .int x :: st) μ o := by
  intro a μ1 ho p e R s m args below meth c H locs cells slots ls h1 h2 h3 h4 B hW hS hl
  exact va_mmin B.1 B.2.1 (B.2.2.1.trans hl.1.symm) B.2.2.2.2.1 (B.2.2.2.2.2.1 _ (am_g hw rfl)) (B.2.2.2.2.2.1 _ (am_g hw2 rfl)) (B.2.2.2.2.2.1 _ (am_g hw3 rfl)) (B.2.2.2.2.2.1 _ (am_g hw4 rfl)) (by omega) (by omega) h3 h4 hd (kk a μ1 ho p e R s m args below meth c H locs cells slots ls h1 h2 h3 h4 B hW hS hl)
theorem sm_abs {idx : Nat} {x : Int32} (hd : decode mi.2.1 pc = .ok (.invokestatic idx, 3)) (hdd : 1 ≤ d) (hst : (st.map fun v => v.category).sum ≤ 8) (hw : Cond.methodLink mi.1.cls idx Lib.Math.abs.name ∈ lw_tbl) (hw2 : Cond.static Lib.Math.abs.name ∈ lw_tbl) (hw3 : Cond.initialized "java/lang/Math" ∈ lw_tbl) (hw4 : Cond.code Lib.Math.abs.name Lib.Math.abs.code 1 (some .int) ∈ lw_tbl) (kk : sm_P G l cv d mi (pc + 3) lv (.int (if 0 ≤ x then x else 0 - x) :: st) μ o) : sm_P G l cv d mi pc lv (.int x :: st) μ o := by
  intro a μ1 ho p e R s m args below meth c H locs cells slots ls h1 h2 h3 h4 B hW hS hl
  exact va_mabs B.1 B.2.1 (B.2.2.1.trans hl.1.symm) B.2.2.2.2.1 (B.2.2.2.2.2.1 _ (am_g hw rfl)) (B.2.2.2.2.2.1 _ (am_g hw2 rfl)) (B.2.2.2.2.2.1 _ (am_g hw3 rfl)) (B.2.2.2.2.2.1 _ (am_g hw4 rfl)) (by omega) (by omega) h3 h4 hd (kk a μ1 ho p e R s m args below meth c H locs cells slots ls h1 h2 h3 h4 B hW hS hl)
theorem sm_copyl {idx k r1 r2 n rows : Nat} {sp dp z : Int32} {f : Nat → Nat → Nat → Option (α × am_M)} (hd : decode mi.2.1 pc = .ok (.invokestatic idx, 3)) (hdd : 1 ≤ d) (hst : (st.map fun v => v.category).sum ≤ 8) (hwr : 8 + (nativeFrameWords "java/lang/System" "arraycopy" 5 + 11) ≤ 64) (hq : ((k, 2, n, rows, []) : am_Q) ∈ am_ly) (hr1 : r1 < rows) (hr2 : r2 < rows) (hw : Cond.methodLink mi.1.cls idx arraycopyName ∈ lw_tbl) (hw2 : Cond.native arraycopyName ∈ lw_tbl) (hw3 : Cond.static arraycopyName ∈ lw_tbl) (hw4 : Cond.initialized "java/lang/System" ∈ lw_tbl)
    (kk : ∀ i j w, sm_P G l cv d mi (pc + 3) lv st (am_uf μ k r2 (va_cpy (μ.2 k r1) (μ.2 k r2) i j w)) (f i j w)) : sm_P G l cv d mi pc lv (.int z :: .int dp :: .ref (am_ad G k r2) :: .int sp :: .ref (am_ad G k r1) :: st) μ (am_cg sp dp z n f) := by
  intro a μ1 ho p e R s m args below meth c H locs cells slots ls h1 h2 h3 h4 B hW hS hl
  obtain ⟨i1, hi1⟩ := am_at hq hr1
  obtain ⟨i2, hi2⟩ := am_at hq hr2
  unfold am_cg at ho
  by_cases cc : sp < 0 ∨ dp < 0 ∨ z < 0 ∨ ¬ sp.toNatClampNeg + z.toNatClampNeg ≤ n ∨ ¬ dp.toNatClampNeg + z.toNatClampNeg ≤ n
  · rw [if_pos cc] at ho; cases ho
  · rw [if_neg cc] at ho
    exact va_copyl (D := G.1) (ty := .long) B.1 B.2.1 (B.2.2.1.trans hl.1.symm) B.2.2.2.2.1 (B.2.2.2.2.2.1 _ (am_g hw rfl)) (B.2.2.2.2.2.1 _ (am_g hw2 rfl)) (B.2.2.2.2.2.1 _ (am_g hw3 rfl)) (B.2.2.2.2.2.1 _ (am_g hw4 rfl)) B.2.2.2.2.2.2.2.2.1 hW (am_apart B.2.2.2.2.2.2.2.1) hS i1 i2 1 1 (am_wat hi1) (am_wat hi2) rfl rfl rfl (fun h => cc (Or.inl h)) (fun h => cc (Or.inr (Or.inl h))) (fun h => cc (Or.inr (Or.inr (Or.inl h)))) (Decidable.byContradiction fun h => cc (Or.inr (Or.inr (Or.inr (Or.inl h))))) (Decidable.byContradiction fun h => cc (Or.inr (Or.inr (Or.inr (Or.inr h))))) (fun _ _ => rfl) (by omega) (by omega) hd
      (fun H1 locs1 hP1 _ hS1 => kk _ _ _ a μ1 ho p e R s m args below meth c H1 locs1 cells slots ls h1 h2 h3 h4 B (am_set B.2.2.2.2.2.2.2.1 hi2 hP1 (by show Sum.inl (am_cT G 2, (n, Sum.inr (Sum.inl _))) = _; congr 5; funext z; simp [am_uf]) (fun _ _ _ _ => rfl) (fun a b z hn => if_neg fun h => hn ⟨h.1, h.2⟩)) hS1 hl)
end SMM
