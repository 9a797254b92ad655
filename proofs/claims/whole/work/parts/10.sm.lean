/-! the abstract layer: one world of named cells (class, reference), a memory of numbers, and rules that run one instruction over it -/
abbrev am_M : Type := (Nat → Nat → Nat → Int32) × (Nat → Nat → Nat → Int64)
def am_ui (μ : am_M) (k r i : Nat) (x : Int32) : am_M := (fun a b j => if a = k ∧ b = r ∧ j = i then x else μ.1 a b j, μ.2)
def am_ul (μ : am_M) (k r i : Nat) (x : Int64) : am_M := (μ.1, fun a b j => if a = k ∧ b = r ∧ j = i then x else μ.2 a b j)
def am_nm {β γ : Type} (v : β) (k : β → γ) : γ := k v
def am_bd {β γ : Type} (o : Option (β × am_M)) (k : β → am_M → Option γ) : Option γ := match o with
  | none => none
  | some x => k x.1 x.2
def am_gd {γ : Type} (i : Int32) (n : Nat) (k : Nat → Option γ) : Option γ := if i < 0 then none else if i.toNatClampNeg < n then k i.toNatClampNeg else none
def am_dv {γ : Type} (y : Int32) (o : Option γ) : Option γ := if y = 0 then none else o
def am_z (x : Int32) (μ : am_M) : Option (Int32 × am_M) := if x = 0 ∨ x = 1 then some (x, μ) else none
def am_rem (x y : Int32) : Int32 := x - x / y * y
/-- a cell: its number, its kind (0 an object, 1 ints, 2 longs, 3 rows of ints, 4 rows of longs), class or size, how many rows, fields or where the rows are -/
abbrev am_Q : Type := Nat × (Nat × (Nat × (Nat × List (Option Nat))))
abbrev am_G : Type := va_G × ((Nat → Nat → Nat) × ((Nat → ClassId) × ((Nat → Prop) × (Nat × (Nat × (Nat → Int32))))))
abbrev am_ad (G : am_G) : Nat → Nat → Nat := G.2.1
abbrev am_cT (G : am_G) : Nat → ClassId := G.2.2.1
abbrev am_A (G : am_G) : Nat → Prop := G.2.2.2.1
abbrev am_b (G : am_G) : Nat := G.2.2.2.2.1
abbrev am_L (G : am_G) : Nat := G.2.2.2.2.2.1
abbrev am_xs (G : am_G) : Nat → Int32 := G.2.2.2.2.2.2
def am_fs (ad : Nat → Nat → Nat) (μ : am_M) (k r : Nat) : Nat → List (Option Nat) → List Value
  | _, [] => []
  | i, f :: fs => (match f with | none => Value.int (μ.1 k r i) | some j => Value.ref (ad j 0)) :: am_fs ad μ k r (i + 1) fs
def am_ce (G : am_G) (q : am_Q) (r : Nat) (μ : am_M) : va_E := match q.2.1 with
  | 0 => .inr (q.2.2.1, am_fs (am_ad G) μ q.1 r 0 q.2.2.2.2)
  | 1 => .inl (am_cT G 1, (q.2.2.1, .inl (μ.1 q.1 r)))
  | 2 => .inl (am_cT G 2, (q.2.2.1, .inr (.inl (μ.2 q.1 r))))
  | t + 3 => .inl (am_cT G (t + 3), (q.2.2.1, .inr (.inr (.inr (.inr (fun i => some (am_ad G ((q.2.2.2.2.headD none).getD 0) i)))))))
def am_ly : List am_Q := [(0, 0, 9, 1, [some 1, some 2, some 3, some 4, some 5, some 6, some 7, some 8, some 9]), (1, 0, 5, 1, [some 16, none, none]), (2, 0, 1, 1, [some 1, some 33, some 34, some 35, some 36, none, none]), (3, 0, 6, 1, [some 48, none, none, some 51, none]), (4, 0, 8, 1, [some 64, some 65, none, some 67, some 68, none]), (5, 0, 7, 1, [some 1, some 4, some 82, some 83, some 84, some 85, none, none, none, none, none, none, none]), (6, 0, 2, 1, [some 1, some 5, some 98, some 99, some 100, none, none, none]), (7, 0, 0, 1, [some 1, some 5, some 114, none, none]), (8, 0, 3, 1, [some 128, none, some 130, none, none, none]), (9, 0, 4, 1, [some 144, some 145, some 146]), (10, 0, 10, 1, [some 160, some 161, some 162, some 163, none, none, none, some 167, none, some 169, some 170, some 171, some 172, some 173, none, none, some 176, some 177, none, none, none, none, none, some 183, some 184, some 185, none, none, none, none, none, none, none, some 193, some 194, none, none, none, none, some 199, some 200, some 201, none, none, some 204, none, some 206, some 207, none, none, none, some 211, some 212, some 213, some 214]), (16, 3, 9, 1, [some 316]), (316, 1, 6, 9, []), (33, 1, 40, 1, []), (34, 1, 40, 1, []), (35, 1, 40, 1, []), (36, 1, 40, 1, []), (48, 1, 120, 1, []), (51, 1, 121, 1, []), (64, 3, 4, 1, [some 364]), (364, 1, 121, 4, []), (65, 1, 4, 1, []), (67, 1, 128, 1, []), (68, 1, 121, 1, []), (82, 1, 6, 1, []), (83, 1, 6, 1, []), (84, 3, 6, 1, [some 384]), (384, 1, 4, 6, []), (85, 1, 7, 1, []), (98, 1, 6, 1, []), (99, 1, 5, 1, []), (100, 1, 6, 1, []), (114, 1, 259, 1, []), (128, 1, 50, 1, []), (130, 1, 24, 1, []), (144, 1, 6, 1, []), (145, 1, 6, 1, []), (146, 4, 6, 1, [some 446]), (446, 2, 60, 6, []), (160, 1, 28, 1, []), (161, 1, 40, 1, []), (162, 1, 40, 1, []), (163, 1, 40, 1, []), (167, 1, 6, 1, []), (169, 1, 5, 1, []), (170, 1, 5, 1, []), (171, 1, 5, 1, []), (172, 1, 5, 1, []), (173, 1, 120, 1, []), (176, 1, 480, 1, []), (177, 1, 4, 1, []), (183, 1, 7, 1, []), (184, 1, 24, 1, []), (185, 1, 6, 1, []), (193, 1, 6, 1, []), (194, 1, 30, 1, []), (199, 1, 6, 1, []), (200, 1, 6, 1, []), (201, 1, 6, 1, []), (204, 1, 1783, 1, []), (206, 1, 50, 1, []), (207, 1, 24, 1, []), (211, 1, 6, 1, []), (212, 1, 6, 1, []), (213, 2, 360, 1, []), (214, 2, 60, 1, [])]
def am_pr : List (am_Q × Nat) := am_ly.flatMap (fun q => (List.range q.2.2.2.1).map fun r => (q, r))
def am_wl (G : am_G) (μ : am_M) : va_W := am_pr.map (fun x => (am_ad G x.1.1 x.2, am_ce G x.1 x.2 μ))
def am_W (G : am_G) (μ : am_M) (H : Heap) : Prop := va_P G.1 vwCl (am_wl G μ) H
def am_ok (G : am_G) : Prop := (∀ (i j : Nat) (x y : am_Q × Nat), am_pr[i]? = some x → am_pr[j]? = some y → am_ad G x.1.1 x.2 = am_ad G y.1.1 y.2 → i = j) ∧ ∀ (i : Nat) (x : am_Q × Nat), am_pr[i]? = some x → am_A G (am_ad G x.1.1 x.2)
def am_ty (G : am_G) : List (ClassId × FieldType) := [(am_cT G 1, .int), (am_cT G 2, .long), (am_cT G 3, .array .int), (am_cT G 4, .array .long)]
def am_st : List (String × List Int32) := [("BUYS", [1, 20, 0, 0, 0, 60, 70, 0]), ("KEEPS", [10, 0, 30, 0, 0, 0, 0, 80]), ("LENDS", [11, 0, 0, 40, 50, 0, 0, 0]), ("TELLS", [2, 0, 0, 0, 0, 61, 0, 81]), ("ABOVE", [-1, 0, 0, 2, 2, 3, 0, 4])]
def am_T (G : am_G) (U : State) (H : Heap) : Prop := ∀ (j : Nat) (q : String × List Int32), am_st[j]? = some q → va_Z "PointsForAll$Purses" q.1 "[I" (.ref (am_ad G (900 + j) 0)) (am_A G) U H ∧ va_T .int (am_ad G (900 + j) 0) 8 (fun i => .int (q.2.getD i 0)) (am_A G) U H
def am_tb : List Cond := lw_tbl.filter goodWord
theorem am_g {w : Cond} (h : w ∈ lw_tbl) (hg : goodWord w = true) : w ∈ am_tb := List.mem_filter.mpr ⟨h, hg⟩
def am_N (U : State) : Prop := ∀ (own : String) (i : Nat) (x : MethodName) (h : String), Cond.methodLinkNest own i x h ∈ lw_tbl → va_Nw (.methodLinkNest own i x h) U
def am_S (G : am_G) (U : State) (H : Heap) : Prop := am_ok G ∧ va_K G.1 vwCl (am_ty G) U ∧ am_T G U H ∧ va_X (am_b G) (am_L G) (am_xs G) U H ∧ am_b G < H.size ∧ ¬ am_A G (am_b G) ∧ am_N U
theorem am_S.moved {G : am_G} {u U : State} {H : Heap} (hW : u.WarmedH U.vm) (h : am_S G u H) : am_S G U H :=
  ⟨h.1, va_K.moved hW.alike h.2.1, fun j q hq => ⟨va_Z.moved hW.alike (h.2.2.1 j q hq).1, va_T.moved hW.alike (h.2.2.1 j q hq).2⟩, va_X.moved hW.alike h.2.2.2.1, h.2.2.2.2.1, h.2.2.2.2.2.1, fun own i x z hz => va_Nw.warmM hW (h.2.2.2.2.2.2 own i x z hz)⟩
theorem am_S.kept {G : am_G} {U : State} {H H1 : Heap} (h : am_S G U H) (hs : H.size ≤ H1.size) (hq : ∀ a : Nat, a < H.size → ¬ am_A G a → H1[a]? = H[a]?) : am_S G U H1 :=
  ⟨h.1, h.2.1, fun j q hj => ⟨va_Z.kept (h.2.2.1 j q hj).1 hq, va_T.kept (h.2.2.1 j q hj).2 hq⟩, va_X.kept h.2.2.2.1 (hq _ h.2.2.2.2.1 h.2.2.2.2.2.1), Nat.lt_of_lt_of_le h.2.2.2.2.1 hs, h.2.2.2.2.2⟩
theorem am_at {q : am_Q} {r : Nat} (hq : q ∈ am_ly) (hr : r < q.2.2.2.1) : ∃ i : Nat, am_pr[i]? = some (q, r) := by
  refine List.getElem?_of_mem ?_
  unfold am_pr
  exact List.mem_flatMap.mpr ⟨q, hq, List.mem_map.mpr ⟨r, List.mem_range.mpr hr, rfl⟩⟩
theorem am_wat {G : am_G} {μ : am_M} {i : Nat} {x : am_Q × Nat} (h : am_pr[i]? = some x) : (am_wl G μ)[i]? = some (am_ad G x.1.1 x.2, am_ce G x.1 x.2 μ) := by
  unfold am_wl
  rw [List.getElem?_map, h]
  rfl
theorem am_wof {G : am_G} {μ : am_M} {i : Nat} {z : Nat × va_E} (h : (am_wl G μ)[i]? = some z) : ∃ x, am_pr[i]? = some x ∧ z = (am_ad G x.1.1 x.2, am_ce G x.1 x.2 μ) := by
  unfold am_wl at h
  rw [List.getElem?_map] at h
  cases hx : am_pr[i]? with
  | none => rw [hx] at h; cases h
  | some x => rw [hx] at h; exact ⟨x, rfl, (Option.some.inj h).symm⟩
theorem am_apart {G : am_G} {μ : am_M} (h : am_ok G) : va_D (am_A G) (am_wl G μ) := by
  refine ⟨fun i j p q hp hq e => ?_, fun k q hq => ?_⟩
  · obtain ⟨x, hx, rfl⟩ := am_wof hp
    obtain ⟨y, hy, rfl⟩ := am_wof hq
    exact h.1 i j x y hx hy e
  · obtain ⟨x, hx, rfl⟩ := am_wof hq
    exact h.2 k x hx
theorem am_fs_congr {ad : Nat → Nat → Nat} {μ μ' : am_M} {k r : Nat} (h : ∀ i, μ'.1 k r i = μ.1 k r i) : ∀ (fs : List (Option Nat)) (i : Nat), am_fs ad μ' k r i fs = am_fs ad μ k r i fs
  | [], _ => rfl
  | f :: fs, i => by
    unfold am_fs
    rw [am_fs_congr h fs (i + 1)]
    cases f with
    | none => simp only [h]
    | some j => rfl
theorem am_ce_congr {G : am_G} {q : am_Q} {r : Nat} {μ μ' : am_M} (h1 : ∀ i, μ'.1 q.1 r i = μ.1 q.1 r i) (h2 : ∀ i, μ'.2 q.1 r i = μ.2 q.1 r i) : am_ce G q r μ' = am_ce G q r μ := by
  obtain ⟨k, t, n, rows, fs⟩ := q
  have e1 : μ'.1 k r = μ.1 k r := funext h1
  have e2 : μ'.2 k r = μ.2 k r := funext h2
  match t with
  | 0 => simp only [am_ce]; rw [am_fs_congr h1]
  | 1 => simp only [am_ce]; rw [e1]
  | 2 => simp only [am_ce]; rw [e2]
  | t + 3 => rfl
/-- one cell has changed -/
theorem am_set {G : am_G} {μ μ' : am_M} {H1 : Heap} {i0 : Nat} {q0 : am_Q} {r0 : Nat} {e' : va_E} (hok : am_ok G) (h0 : am_pr[i0]? = some (q0, r0)) (hP : va_P G.1 vwCl ((am_wl G μ).set i0 (am_ad G q0.1 r0, e')) H1)
    (he : am_ce G q0 r0 μ' = e') (h1 : ∀ a b j, ¬ (a = q0.1 ∧ b = r0) → μ'.1 a b j = μ.1 a b j) (h2 : ∀ a b j, ¬ (a = q0.1 ∧ b = r0) → μ'.2 a b j = μ.2 a b j) : am_W G μ' H1 := by
  intro i z hz
  obtain ⟨x, hx, rfl⟩ := am_wof hz
  by_cases hi : i = i0
  · subst hi
    cases h0.symm.trans hx
    refine hP i _ ?_
    have hlt : i < (am_wl G μ).length := (List.getElem?_eq_some_iff.mp (am_wat (G := G) (μ := μ) h0)).1
    rw [List.getElem?_set_self hlt, he]
  · have hne : ¬ (x.1.1 = q0.1 ∧ x.2 = r0) := fun hh => hi (hok.1 i i0 x (q0, r0) hx h0 (by rw [hh.1, hh.2]))
    refine hP i _ ?_
    rw [List.getElem?_set_ne (fun h => hi h.symm), am_wat hx, am_ce_congr (fun j => h1 _ _ j hne) (fun j => h2 _ _ j hne)]
theorem am_fs_get {ad : Nat → Nat → Nat} {μ : am_M} {k r : Nat} : ∀ (fs : List (Option Nat)) (i j : Nat) (f : Option Nat), fs[j]? = some f → (am_fs ad μ k r i fs)[j]? = some (match f with | none => Value.int (μ.1 k r (i + j)) | some j' => Value.ref (ad j' 0))
  | [], _, _, _, h => by simp at h
  | g :: fs, i, 0, f, h => by
    have e : g = f := by simpa using h
    subst e
    rfl
  | g :: fs, i, j + 1, f, h => by
    have h' : fs[j]? = some f := by simpa using h
    have e := am_fs_get (ad := ad) (μ := μ) (k := k) (r := r) fs (i + 1) j f h'
    rw [show i + 1 + j = i + (j + 1) by omega] at e
    show ((_ :: am_fs ad μ k r (i + 1) fs) : List Value)[j + 1]? = _
    rw [List.getElem?_cons_succ]
    exact e
theorem am_fs_len {ad : Nat → Nat → Nat} {μ : am_M} {k r : Nat} : ∀ (fs : List (Option Nat)) (i : Nat), (am_fs ad μ k r i fs).length = fs.length
  | [], _ => rfl
  | f :: fs, i => by
    show (am_fs ad μ k r (i + 1) fs).length + 1 = fs.length + 1
    rw [am_fs_len fs (i + 1)]
theorem am_fs_set {ad : Nat → Nat → Nat} {μ : am_M} {k r : Nat} {x : Int32} : ∀ (fs : List (Option Nat)) (i j : Nat), fs[j]? = some none → am_fs ad (am_ui μ k r (i + j) x) k r i fs = (am_fs ad μ k r i fs).set j (.int x)
  | [], _, _, h => by simp at h
  | g :: fs, i, 0, h => by
    have e : g = none := by simpa using h
    subst e
    have e2 : am_fs ad (am_ui μ k r (i + 0) x) k r (i + 1) fs = am_fs ad μ k r (i + 1) fs := by
      have : ∀ (fs : List (Option Nat)) (j : Nat), i + 0 < j → am_fs ad (am_ui μ k r (i + 0) x) k r j fs = am_fs ad μ k r j fs := by
        intro fs
        induction fs with
        | nil => intro j _; rfl
        | cons f fs ih =>
          intro j hj
          unfold am_fs
          rw [ih (j + 1) (by omega)]
          cases f with
          | none => simp only [am_ui]; rw [if_neg (fun h => by omega)]
          | some _ => rfl
      exact this fs (i + 1) (by omega)
    show (_ :: am_fs ad (am_ui μ k r (i + 0) x) k r (i + 1) fs : List Value) = _ :: am_fs ad μ k r (i + 1) fs
    rw [e2]
    simp [am_ui]
  | g :: fs, i, j + 1, h => by
    have h' : fs[j]? = some none := by simpa using h
    have e := am_fs_set (ad := ad) (μ := μ) (k := k) (r := r) (x := x) fs (i + 1) j h'
    rw [show i + 1 + j = i + (j + 1) by omega] at e
    show (_ :: am_fs ad (am_ui μ k r (i + (j + 1)) x) k r (i + 1) fs : List Value) = (_ :: am_fs ad μ k r (i + 1) fs).set (j + 1) (.int x)
    rw [e, List.set_cons_succ]
    congr 1
    cases g with
    | none => simp only [am_ui]; rw [if_neg (fun h => by omega)]
    | some _ => rfl
/-- a method: name, bytes, how many locals, what it returns -/
abbrev am_Me : Type := MethodName × (ByteArray × (Nat × Option FieldType))
def am_B (G : am_G) (mi : am_Me) (p : Program) (s : State) (m : MethodId) (args : Array Value) (meth : Method) (c : Code) : Prop :=
  p.tables.exec = Jvm.exec ∧ c.code = mi.2.1 ∧ c.maxLocals = mi.2.2.1 ∧ meth.sig.returnType = mi.2.2.2 ∧ s.vm.findClass mi.1.cls = some m.cls ∧ (∀ w ∈ am_tb, w.before args s = true) ∧ meth.locks = false ∧ am_S G s s.heap
def am_Qc {α : Type} (G : am_G) (cv : α → Option Value) (a : α) (μ : am_M) : Array Value → State → Outcome → State → Prop := fun _ st oc t => oc = .returned (cv a) ∧ am_W G μ t.heap ∧ va_F (am_A G) st t
def sm_P {α : Type} (G : am_G) (l : Launch) (cv : α → Option Value) (d : Nat) (mi : am_Me) (pc : Nat) (lv : List (Nat × Value)) (st : List Value) (μ : am_M) (o : Option (α × am_M)) : Prop :=
  ∀ (a : α) (μ1 : am_M), o = some (a, μ1) → ∀ (p : Program) (e : Env) (R : Room) (s : State) (m : MethodId) (args : Array Value) (below : List Frame) (meth : Method) (c : Code) (H : Heap) (locs : List Loc) (cells slots : Nat) (ls : Array Slot), d ≤ R.frames → 64 * d ≤ R.locals → cells ≤ R.cells → slots ≤ R.slots → am_B G mi p s m args meth c → am_W G μ H → va_S (am_A G) s.heap H locs → lv_has ls mi.2.2.1 lv →
    W p l e R s m args below meth c H locs cells slots (MQ below (am_Qc G cv a μ1) args s cells slots (am_A G)) (F0 m pc ls st)
def am_ws (mi : am_Me) : List Cond := .code mi.1 mi.2.1 mi.2.2.1 mi.2.2.2 :: am_tb
def am_rm (d : Nat) : Room := { frames := d, cells := 0, slots := 0, locals := 64 * d }
def ct_P {α : Type} (G : am_G) (l : Launch) (cv : α → Option Value) (d : Nat) (mi : am_Me) (As : List Value) (μ : am_M) (o : Option (α × am_M)) : Prop :=
  ∀ (a : α) (μ1 : am_M), o = some (a, μ1) → ∀ d', d ≤ d' → Met l mi.1 (am_ws mi) (am_rm d') (va_Pc As (fun U => am_W G μ U.heap ∧ am_S G U U.heap)) (am_Qc G cv a μ1) 0 0 (am_A G)
def am_ci (x : Int32) : Option Value := some (.int x)
def am_cl (x : Int64) : Option Value := some (.long x)
def am_cu (_ : Unit) : Option Value := none
section SMA
variable {α : Type} {G : am_G} {l : Launch} {cv : α → Option Value} {d : Nat} {mi : am_Me} {pc : Nat} {lv : List (Nat × Value)} {st : List Value} {μ : am_M} {o : Option (α × am_M)}
set_option maxHeartbeats 1000000 in
theorem ct_of {As : List Value} (hp : plainName mi.1.cls = true) (hn : (lg_sl As).length ≤ mi.2.2.1) (hlv : lv_args 0 As = lv) (k : sm_P G l cv d mi 0 lv [] μ o) : ct_P G l cv d mi As μ o := by
  intro a μ1 ho d' hd
  refine Met.ofW (cc := mi.2.1) (maxL := mi.2.2.1) (ret := mi.2.2.2) hp rfl ?_
  intro p e s m args below meth c s₁ B hml hv
  obtain ⟨rfl, hW, hSt⟩ := hv
  have hts := atoms_spec (ws := am_ws mi) B.pre
  rw [lg_entry_eq]
  have hl := lv_entry As hn
  rw [hlv] at hl
  exact k a μ1 ho p e (am_rm d') s m As.toArray below meth c s.heap [] 0 0 _ hd (Nat.mul_le_mul_left 64 hd) (Nat.zero_le _) (Nat.zero_le _) ⟨B.exec, B.bytes, hml, B.returns, findClass_of_methodNamed B.named, fun w hw => hts w (List.mem_cons_of_mem _ hw), B.notSynchronized, hSt⟩ hW va_S.rf hl
theorem sm_one {pc' : Nat} {st' : List Value} (h : ∀ (p : Program) (e : Env) (R : Room) (s : State) (m : MethodId) (args : Array Value) (below : List Frame) (meth : Method) (c : Code) (H : Heap) (locs : List Loc) (cells slots : Nat) (Q : State → Prop) (ls : Array Slot), p.tables.exec = Jvm.exec → c.code = mi.2.1 → s.vm.findClass mi.1.cls = some m.cls → (∀ w ∈ am_tb, w.before args s = true) → lv_has ls mi.2.2.1 lv → W p l e R s m args below meth c H locs cells slots Q (F0 m pc' ls st') → W p l e R s m args below meth c H locs cells slots Q (F0 m pc ls st)) (k : sm_P G l cv d mi pc' lv st' μ o) : sm_P G l cv d mi pc lv st μ o := by
  intro a μ1 ho p e R s m args below meth c H locs cells slots ls h1 h2 h3 h4 B hW hS hl
  exact h p e R s m args below meth c H locs cells slots _ ls B.1 B.2.1 B.2.2.2.2.1 B.2.2.2.2.2.1 hl (k a μ1 ho p e R s m args below meth c H locs cells slots ls h1 h2 h3 h4 B hW hS hl)
theorem sm_sub {lv' : List (Nat × Value)} (ks : List Nat) (h : lv_pick lv ks = lv') (k : sm_P G l cv d mi pc lv' st μ o) : sm_P G l cv d mi pc lv st μ o :=
  fun a μ1 ho p e R s m args below meth c H locs cells slots ls h1 h2 h3 h4 B hW hS hl => k a μ1 ho p e R s m args below meth c H locs cells slots ls h1 h2 h3 h4 B hW hS (lv_sub hl ks h)
theorem sm_nmM {k : am_M → Option (α × am_M)} (h : ∀ μ', sm_P G l cv d mi pc lv st μ' (k μ')) : sm_P G l cv d mi pc lv st μ (am_nm μ k) := h μ
theorem sm_nmI {x : Int32} {k : Int32 → Option (α × am_M)} (h : ∀ y, sm_P G l cv d mi pc lv (.int y :: st) μ (k y)) : sm_P G l cv d mi pc lv (.int x :: st) μ (am_nm x k) := h x
theorem sm_nmL {x : Int64} {k : Int64 → Option (α × am_M)} (h : ∀ y, sm_P G l cv d mi pc lv (.long y :: st) μ (k y)) : sm_P G l cv d mi pc lv (.long x :: st) μ (am_nm x k) := h x
theorem sm_ite {c1 : Prop} [Decidable c1] {A B : Option (α × am_M)} (h1 : c1 → sm_P G l cv d mi pc lv st μ A) (h2 : ¬ c1 → sm_P G l cv d mi pc lv st μ B) : sm_P G l cv d mi pc lv st μ (if c1 then A else B) := by
  by_cases h : c1
  · rw [if_pos h]; exact h1 h
  · rw [if_neg h]; exact h2 h
theorem sm_up {d' : Nat} (h : d' ≤ d) (k : sm_P G l cv d' mi pc lv st μ o) : sm_P G l cv d mi pc lv st μ o :=
  fun a μ1 ho p e R s m args below meth c H locs cells slots ls h1 h2 h3 h4 B hW hS hl => k a μ1 ho p e R s m args below meth c H locs cells slots ls (Nat.le_trans h h1) (Nat.le_trans (Nat.mul_le_mul_left 64 h) h2) h3 h4 B hW hS hl
theorem sm_none : sm_P G l cv d mi pc lv st μ none := fun a μ1 ho => by cases ho
theorem sm_iconst {n : Int} {v : Int32} (hd : decode mi.2.1 pc = .ok (.iconst n, 1)) (hv : Int32.ofInt n = v) (k : sm_P G l cv d mi (pc + 1) lv (.int v :: st) μ o) : sm_P G l cv d mi pc lv (st) μ o := sm_one (fun p e R s m args below meth c H locs cells slots Q ls hx hb hown hts hl w => lv_iconst hx hb hd hv w) k
theorem sm_bipush {n : Int} {v : Int32} (hd : decode mi.2.1 pc = .ok (.bipush n, 2)) (hv : (Int8.ofInt n).toInt32 = v) (k : sm_P G l cv d mi (pc + 2) lv (.int v :: st) μ o) : sm_P G l cv d mi pc lv (st) μ o := sm_one (fun p e R s m args below meth c H locs cells slots Q ls hx hb hown hts hl w => lv_bipush hx hb hd hv w) k
theorem sm_sipush {n : Int} {v : Int32} (hd : decode mi.2.1 pc = .ok (.sipush n, 3)) (hv : (Int16.ofInt n).toInt32 = v) (k : sm_P G l cv d mi (pc + 3) lv (.int v :: st) μ o) : sm_P G l cv d mi pc lv (st) μ o := sm_one (fun p e R s m args below meth c H locs cells slots Q ls hx hb hown hts hl w => lv_sipush hx hb hd hv w) k
theorem sm_lconst {n : Fin 2} {v : Int64} (hd : decode mi.2.1 pc = .ok (.lconst n, 1)) (hv : Int64.ofNat (n : Nat) = v) (k : sm_P G l cv d mi (pc + 1) lv (.long v :: st) μ o) : sm_P G l cv d mi pc lv (st) μ o := sm_one (fun p e R s m args below meth c H locs cells slots Q ls hx hb hown hts hl w => lv_lconst hx hb hd hv w) k
theorem sm_iload_n {k : Fin 4} {i : Nat} {x : Int32} (hd : decode mi.2.1 pc = .ok (.iload_n k, 1)) (hi : (k : Nat) = i) (q : Nat) (hq : lv[q]? = some (i, .int x)) (k : sm_P G l cv d mi (pc + 1) lv (.int x :: st) μ o) : sm_P G l cv d mi pc lv (st) μ o := sm_one (fun p e R s m args below meth c H locs cells slots Q ls hx hb hown hts hl w => lv_iload_n hx hb hd hi (lv_at hl q hq) w) k
theorem sm_iload {i : Nat} {x : Int32} (hd : decode mi.2.1 pc = .ok (.iload i, 2)) (q : Nat) (hq : lv[q]? = some (i, .int x)) (k : sm_P G l cv d mi (pc + 2) lv (.int x :: st) μ o) : sm_P G l cv d mi pc lv (st) μ o := sm_one (fun p e R s m args below meth c H locs cells slots Q ls hx hb hown hts hl w => lv_iload hx hb hd (lv_at hl q hq) w) k
theorem sm_lload_n {k : Fin 4} {i : Nat} {x : Int64} (hd : decode mi.2.1 pc = .ok (.lload_n k, 1)) (hi : (k : Nat) = i) (q : Nat) (hq : lv[q]? = some (i, .long x)) (k : sm_P G l cv d mi (pc + 1) lv (.long x :: st) μ o) : sm_P G l cv d mi pc lv (st) μ o := sm_one (fun p e R s m args below meth c H locs cells slots Q ls hx hb hown hts hl w => lv_lload_n hx hb hd hi (lv_at hl q hq) w) k
theorem sm_lload {i : Nat} {x : Int64} (hd : decode mi.2.1 pc = .ok (.lload i, 2)) (q : Nat) (hq : lv[q]? = some (i, .long x)) (k : sm_P G l cv d mi (pc + 2) lv (.long x :: st) μ o) : sm_P G l cv d mi pc lv (st) μ o := sm_one (fun p e R s m args below meth c H locs cells slots Q ls hx hb hown hts hl w => lv_lload hx hb hd (lv_at hl q hq) w) k
theorem sm_aload_n {k : Fin 4} {i : Nat} {x : Nat} (hd : decode mi.2.1 pc = .ok (.aload_n k, 1)) (hi : (k : Nat) = i) (q : Nat) (hq : lv[q]? = some (i, .ref x)) (k : sm_P G l cv d mi (pc + 1) lv (.ref x :: st) μ o) : sm_P G l cv d mi pc lv (st) μ o := sm_one (fun p e R s m args below meth c H locs cells slots Q ls hx hb hown hts hl w => lv_aload_n hx hb hd hi (lv_at hl q hq) w) k
theorem sm_iadd {x y : Int32} (hd : decode mi.2.1 pc = .ok (.iadd, 1)) (k : sm_P G l cv d mi (pc + 1) lv (.int (x + y) :: st) μ o) : sm_P G l cv d mi pc lv (.int y :: .int x :: st) μ o := sm_one (fun p e R s m args below meth c H locs cells slots Q ls hx hb hown hts hl w => lv_iadd hx hb hd w) k
theorem sm_isub {x y : Int32} (hd : decode mi.2.1 pc = .ok (.isub, 1)) (k : sm_P G l cv d mi (pc + 1) lv (.int (x - y) :: st) μ o) : sm_P G l cv d mi pc lv (.int y :: .int x :: st) μ o := sm_one (fun p e R s m args below meth c H locs cells slots Q ls hx hb hown hts hl w => lv_isub hx hb hd w) k
theorem sm_imul {x y : Int32} (hd : decode mi.2.1 pc = .ok (.imul, 1)) (k : sm_P G l cv d mi (pc + 1) lv (.int (x * y) :: st) μ o) : sm_P G l cv d mi pc lv (.int y :: .int x :: st) μ o := sm_one (fun p e R s m args below meth c H locs cells slots Q ls hx hb hown hts hl w => lv_imul hx hb hd w) k
theorem sm_iand {x y : Int32} (hd : decode mi.2.1 pc = .ok (.iand, 1)) (k : sm_P G l cv d mi (pc + 1) lv (.int (x &&& y) :: st) μ o) : sm_P G l cv d mi pc lv (.int y :: .int x :: st) μ o := sm_one (fun p e R s m args below meth c H locs cells slots Q ls hx hb hown hts hl w => lv_iand hx hb hd w) k
theorem sm_ior {x y : Int32} (hd : decode mi.2.1 pc = .ok (.ior, 1)) (k : sm_P G l cv d mi (pc + 1) lv (.int (x ||| y) :: st) μ o) : sm_P G l cv d mi pc lv (.int y :: .int x :: st) μ o := sm_one (fun p e R s m args below meth c H locs cells slots Q ls hx hb hown hts hl w => lv_ior hx hb hd w) k
theorem sm_ixor {x y : Int32} (hd : decode mi.2.1 pc = .ok (.ixor, 1)) (k : sm_P G l cv d mi (pc + 1) lv (.int (x ^^^ y) :: st) μ o) : sm_P G l cv d mi pc lv (.int y :: .int x :: st) μ o := sm_one (fun p e R s m args below meth c H locs cells slots Q ls hx hb hown hts hl w => lv_ixor hx hb hd w) k
theorem sm_ishl {x y : Int32} (hd : decode mi.2.1 pc = .ok (.ishl, 1)) (k : sm_P G l cv d mi (pc + 1) lv (.int (x <<< (y &&& 31)) :: st) μ o) : sm_P G l cv d mi pc lv (.int y :: .int x :: st) μ o := sm_one (fun p e R s m args below meth c H locs cells slots Q ls hx hb hown hts hl w => lv_ishl hx hb hd w) k
theorem sm_ishr {x y : Int32} (hd : decode mi.2.1 pc = .ok (.ishr, 1)) (k : sm_P G l cv d mi (pc + 1) lv (.int (x >>> (y &&& 31)) :: st) μ o) : sm_P G l cv d mi pc lv (.int y :: .int x :: st) μ o := sm_one (fun p e R s m args below meth c H locs cells slots Q ls hx hb hown hts hl w => lv_ishr hx hb hd w) k
theorem sm_idivc {x y : Int32} (hd : decode mi.2.1 pc = .ok (.idiv, 1)) (hne : ¬ y = 0) (k : sm_P G l cv d mi (pc + 1) lv (.int (x / y) :: st) μ o) : sm_P G l cv d mi pc lv (.int y :: .int x :: st) μ o := sm_one (fun p e R s m args below meth c H locs cells slots Q ls hx hb hown hts hl w => lv_idiv hx hb hd hne w) k
theorem sm_iremc {x y : Int32} (hd : decode mi.2.1 pc = .ok (.irem, 1)) (hne : ¬ y = 0) (k : sm_P G l cv d mi (pc + 1) lv (.int (am_rem x y) :: st) μ o) : sm_P G l cv d mi pc lv (.int y :: .int x :: st) μ o := sm_one (fun p e R s m args below meth c H locs cells slots Q ls hx hb hown hts hl w => lv_irem hx hb hd hne w) k
theorem sm_idiv {x y : Int32} (hd : decode mi.2.1 pc = .ok (.idiv, 1)) (k : ¬ y = 0 → sm_P G l cv d mi (pc + 1) lv (.int (x / y) :: st) μ o) : sm_P G l cv d mi pc lv (.int y :: .int x :: st) μ (am_dv y o) := by
  unfold am_dv
  by_cases h : y = 0
  · rw [if_pos h]; exact sm_none
  · rw [if_neg h]; exact sm_idivc hd h (k h)
theorem sm_irem {x y : Int32} (hd : decode mi.2.1 pc = .ok (.irem, 1)) (k : ¬ y = 0 → sm_P G l cv d mi (pc + 1) lv (.int (am_rem x y) :: st) μ o) : sm_P G l cv d mi pc lv (.int y :: .int x :: st) μ (am_dv y o) := by
  unfold am_dv
  by_cases h : y = 0
  · rw [if_pos h]; exact sm_none
  · rw [if_neg h]; exact sm_iremc hd h (k h)
theorem sm_ineg {x : Int32} (hd : decode mi.2.1 pc = .ok (.ineg, 1)) (k : sm_P G l cv d mi (pc + 1) lv (.int (-x) :: st) μ o) : sm_P G l cv d mi pc lv (.int x :: st) μ o := sm_one (fun p e R s m args below meth c H locs cells slots Q ls hx hb hown hts hl w => lv_ineg hx hb hd w) k
theorem sm_land {x y : Int64} (hd : decode mi.2.1 pc = .ok (.land, 1)) (k : sm_P G l cv d mi (pc + 1) lv (.long (x &&& y) :: st) μ o) : sm_P G l cv d mi pc lv (.long y :: .long x :: st) μ o := sm_one (fun p e R s m args below meth c H locs cells slots Q ls hx hb hown hts hl w => lv_land hx hb hd w) k
theorem sm_lor {x y : Int64} (hd : decode mi.2.1 pc = .ok (.lor, 1)) (k : sm_P G l cv d mi (pc + 1) lv (.long (x ||| y) :: st) μ o) : sm_P G l cv d mi pc lv (.long y :: .long x :: st) μ o := sm_one (fun p e R s m args below meth c H locs cells slots Q ls hx hb hown hts hl w => lv_lor hx hb hd w) k
theorem sm_lshl {x : Int64} {y : Int32} (hd : decode mi.2.1 pc = .ok (.lshl, 1)) (k : sm_P G l cv d mi (pc + 1) lv (.long (x <<< (y.toInt64 &&& 63)) :: st) μ o) : sm_P G l cv d mi pc lv (.int y :: .long x :: st) μ o := sm_one (fun p e R s m args below meth c H locs cells slots Q ls hx hb hown hts hl w => lv_lshl hx hb hd rfl w) k
theorem sm_i2l {x : Int32} (hd : decode mi.2.1 pc = .ok (.i2l, 1)) (k : sm_P G l cv d mi (pc + 1) lv (.long x.toInt64 :: st) μ o) : sm_P G l cv d mi pc lv (.int x :: st) μ o := sm_one (fun p e R s m args below meth c H locs cells slots Q ls hx hb hown hts hl w => lv_i2l hx hb hd rfl w) k
theorem sm_l2i {x : Int64} (hd : decode mi.2.1 pc = .ok (.l2i, 1)) (k : sm_P G l cv d mi (pc + 1) lv (.int x.toInt32 :: st) μ o) : sm_P G l cv d mi pc lv (.long x :: st) μ o := sm_one (fun p e R s m args below meth c H locs cells slots Q ls hx hb hown hts hl w => lv_l2i hx hb hd rfl w) k
theorem sm_i2b {x : Int32} (hd : decode mi.2.1 pc = .ok (.i2b, 1)) (k : sm_P G l cv d mi (pc + 1) lv (.int x.toInt8.toInt32 :: st) μ o) : sm_P G l cv d mi pc lv (.int x :: st) μ o := sm_one (fun p e R s m args below meth c H locs cells slots Q ls hx hb hown hts hl w => lv_i2b hx hb hd rfl w) k
theorem sm_i2s {x : Int32} (hd : decode mi.2.1 pc = .ok (.i2s, 1)) (k : sm_P G l cv d mi (pc + 1) lv (.int x.toInt16.toInt32 :: st) μ o) : sm_P G l cv d mi pc lv (.int x :: st) μ o := sm_one (fun p e R s m args below meth c H locs cells slots Q ls hx hb hown hts hl w => lv_i2s hx hb hd rfl w) k
theorem sm_lcmp {x y : Int64} (hd : decode mi.2.1 pc = .ok (.lcmp, 1)) (k : sm_P G l cv d mi (pc + 1) lv (.int (lg_cmp x y) :: st) μ o) : sm_P G l cv d mi pc lv (.long y :: .long x :: st) μ o := sm_one (fun p e R s m args below meth c H locs cells slots Q ls hx hb hown hts hl w => W.lcmp hx hb hd w) k
theorem sm_dup {a : Value} (hd : decode mi.2.1 pc = .ok (.dup, 1)) (h1 : a.category = 1) (k : sm_P G l cv d mi (pc + 1) lv (a :: a :: st) μ o) : sm_P G l cv d mi pc lv (a :: st) μ o := sm_one (fun p e R s m args below meth c H locs cells slots Q ls hx hb hown hts hl w => lv_dup hx hb hd h1 w) k
theorem sm_pop {a : Value} (hd : decode mi.2.1 pc = .ok (.pop, 1)) (h1 : a.category = 1) (k : sm_P G l cv d mi (pc + 1) lv (st) μ o) : sm_P G l cv d mi pc lv (a :: st) μ o := sm_one (fun p e R s m args below meth c H locs cells slots Q ls hx hb hown hts hl w => lv_pop hx hb hd h1 w) k
theorem sm_dup_x1 {a b : Value} (hd : decode mi.2.1 pc = .ok (.dup_x1, 1)) (h1 : a.category = 1) (h2 : b.category = 1) (k : sm_P G l cv d mi (pc + 1) lv (a :: b :: a :: st) μ o) : sm_P G l cv d mi pc lv (a :: b :: st) μ o := sm_one (fun p e R s m args below meth c H locs cells slots Q ls hx hb hown hts hl w => lv_dup_x1 hx hb hd h1 h2 w) k
theorem sm_dup2 {a b : Value} (hd : decode mi.2.1 pc = .ok (.dup2, 1)) (h1 : a.category = 1) (h2 : b.category = 1) (k : sm_P G l cv d mi (pc + 1) lv (a :: b :: a :: b :: st) μ o) : sm_P G l cv d mi pc lv (a :: b :: st) μ o := sm_one (fun p e R s m args below meth c H locs cells slots Q ls hx hb hown hts hl w => lv_dup2_11 hx hb hd h1 h2 w) k
theorem sm_goto {off : Int} {tgt : Nat} (hd : decode mi.2.1 pc = .ok (.goto off, 3)) (ht : (pc : Int) + off = (tgt : Int)) (k : sm_P G l cv d mi (tgt) lv (st) μ o) : sm_P G l cv d mi pc lv (st) μ o := sm_one (fun p e R s m args below meth c H locs cells slots Q ls hx hb hown hts hl w => lv_goto hx hb hd ht w) k
theorem sm_ldc {i : Nat} {v : Int32} (hd : decode mi.2.1 pc = .ok (.ldc i, 2)) (hw : Cond.constant mi.1.cls i v ∈ lw_tbl) (k : sm_P G l cv d mi (pc + 2) lv (.int v :: st) μ o) : sm_P G l cv d mi pc lv (st) μ o := sm_one (fun p e R s m args below meth c H locs cells slots Q ls hx hb hown hts hl w => lv_ldc hx hb hown (hts _ (am_g hw rfl)) hd w) k
theorem sm_ldc2 {i : Nat} {v : Int64} (hd : decode mi.2.1 pc = .ok (.ldc2_w i, 3)) (hw : Cond.constantLong mi.1.cls i v ∈ lw_tbl) (k : sm_P G l cv d mi (pc + 3) lv (.long v :: st) μ o) : sm_P G l cv d mi pc lv (st) μ o := sm_one (fun p e R s m args below meth c H locs cells slots Q ls hx hb hown hts hl w => lv_ldc2 hx hb hown (hts _ (am_g hw rfl)) hd w) k
theorem sm_istore_n {k : Fin 4} {i : Nat} {x : Int32} {lv' : List (Nat × Value)} (hd : decode mi.2.1 pc = .ok (.istore_n k, 1)) (hi : (k : Nat) = i) (hn : i < mi.2.2.1) (hv : (i, Value.int x) :: lv.filter (fun q => !(q.1 == i) && !(q.1 + 1 == i && q.2.category == 2)) = lv') (k : sm_P G l cv d mi (pc + 1) lv' st μ o) : sm_P G l cv d mi pc lv (.int x :: st) μ o := by
  intro a μ1 ho p e R s m args below meth c H locs cells slots ls h1 h2 h3 h4 B hW hS hl
  exact lv_istore_n B.1 B.2.1 hd hi hl hn hv (fun ls hl => k a μ1 ho p e R s m args below meth c H locs cells slots ls h1 h2 h3 h4 B hW hS hl)
theorem sm_istore {i : Nat} {x : Int32} {lv' : List (Nat × Value)} (hd : decode mi.2.1 pc = .ok (.istore i, 2)) (hn : i < mi.2.2.1) (hv : (i, Value.int x) :: lv.filter (fun q => !(q.1 == i) && !(q.1 + 1 == i && q.2.category == 2)) = lv') (k : sm_P G l cv d mi (pc + 2) lv' st μ o) : sm_P G l cv d mi pc lv (.int x :: st) μ o := by
  intro a μ1 ho p e R s m args below meth c H locs cells slots ls h1 h2 h3 h4 B hW hS hl
  exact lv_istore B.1 B.2.1 hd hl hn hv (fun ls hl => k a μ1 ho p e R s m args below meth c H locs cells slots ls h1 h2 h3 h4 B hW hS hl)
theorem sm_iinc {i : Nat} {n : Int} {x v : Int32} {lv' : List (Nat × Value)} (hd : decode mi.2.1 pc = .ok (.iinc i n, 3)) (q : Nat) (hq : lv[q]? = some (i, .int x)) (hv0 : x + Int32.ofInt n = v) (hn : i < mi.2.2.1) (hv : (i, Value.int v) :: lv.filter (fun q => !(q.1 == i) && !(q.1 + 1 == i && q.2.category == 2)) = lv') (k : sm_P G l cv d mi (pc + 3) lv' st μ o) : sm_P G l cv d mi pc lv st μ o := by
  intro a μ1 ho p e R s m args below meth c H locs cells slots ls h1 h2 h3 h4 B hW hS hl
  exact lv_iinc B.1 B.2.1 hd hl hq hv0 hn hv (fun ls hl => k a μ1 ho p e R s m args below meth c H locs cells slots ls h1 h2 h3 h4 B hW hS hl)
theorem sm_if_eq {x : Int32} {off : Int} {tgt : Nat} {A B : Option (α × am_M)} (hd : decode mi.2.1 pc = .ok (.ifCond .eq off, 3)) (ht : (pc : Int) + off = (tgt : Int)) (kt : sm_P G l cv d mi tgt lv st μ A) (kf : sm_P G l cv d mi (pc + 3) lv st μ B) : sm_P G l cv d mi pc lv (.int x :: st) μ (if x = 0 then A else B) := by
  intro a μ1 ho p e R s m args below meth c H locs cells slots ls h1 h2 h3 h4 B hW hS hl
  by_cases hc : x = 0
  · rw [if_pos hc] at ho
    exact lv_if_eq B.1 B.2.1 hd ht (fun _ => kt a μ1 ho p e R s m args below meth c H locs cells slots ls h1 h2 h3 h4 B hW hS hl) (fun q => absurd hc q)
  · rw [if_neg hc] at ho
    exact lv_if_eq B.1 B.2.1 hd ht (fun q => absurd q hc) (fun _ => kf a μ1 ho p e R s m args below meth c H locs cells slots ls h1 h2 h3 h4 B hW hS hl)
theorem sm_icmp_eq {x y : Int32} {off : Int} {tgt : Nat} {A B : Option (α × am_M)} (hd : decode mi.2.1 pc = .ok (.if_icmp .eq off, 3)) (ht : (pc : Int) + off = (tgt : Int)) (kt : sm_P G l cv d mi tgt lv st μ A) (kf : sm_P G l cv d mi (pc + 3) lv st μ B) : sm_P G l cv d mi pc lv (.int y :: .int x :: st) μ (if x = y then A else B) := by
  intro a μ1 ho p e R s m args below meth c H locs cells slots ls h1 h2 h3 h4 B hW hS hl
  by_cases hc : x = y
  · rw [if_pos hc] at ho
    exact lv_icmp_eq B.1 B.2.1 hd ht (fun _ => kt a μ1 ho p e R s m args below meth c H locs cells slots ls h1 h2 h3 h4 B hW hS hl) (fun q => absurd hc q)
  · rw [if_neg hc] at ho
    exact lv_icmp_eq B.1 B.2.1 hd ht (fun q => absurd q hc) (fun _ => kf a μ1 ho p e R s m args below meth c H locs cells slots ls h1 h2 h3 h4 B hW hS hl)
theorem sm_if_ne {x : Int32} {off : Int} {tgt : Nat} {A B : Option (α × am_M)} (hd : decode mi.2.1 pc = .ok (.ifCond .ne off, 3)) (ht : (pc : Int) + off = (tgt : Int)) (kt : sm_P G l cv d mi tgt lv st μ A) (kf : sm_P G l cv d mi (pc + 3) lv st μ B) : sm_P G l cv d mi pc lv (.int x :: st) μ (if x = 0 then B else A) := by
  intro a μ1 ho p e R s m args below meth c H locs cells slots ls h1 h2 h3 h4 B hW hS hl
  by_cases hc : x = 0
  · rw [if_pos hc] at ho
    exact lv_if_ne B.1 B.2.1 hd ht (fun q => absurd hc q) (fun _ => kf a μ1 ho p e R s m args below meth c H locs cells slots ls h1 h2 h3 h4 B hW hS hl)
  · rw [if_neg hc] at ho
    exact lv_if_ne B.1 B.2.1 hd ht (fun _ => kt a μ1 ho p e R s m args below meth c H locs cells slots ls h1 h2 h3 h4 B hW hS hl) (fun q => absurd q hc)
theorem sm_icmp_ne {x y : Int32} {off : Int} {tgt : Nat} {A B : Option (α × am_M)} (hd : decode mi.2.1 pc = .ok (.if_icmp .ne off, 3)) (ht : (pc : Int) + off = (tgt : Int)) (kt : sm_P G l cv d mi tgt lv st μ A) (kf : sm_P G l cv d mi (pc + 3) lv st μ B) : sm_P G l cv d mi pc lv (.int y :: .int x :: st) μ (if x = y then B else A) := by
  intro a μ1 ho p e R s m args below meth c H locs cells slots ls h1 h2 h3 h4 B hW hS hl
  by_cases hc : x = y
  · rw [if_pos hc] at ho
    exact lv_icmp_ne B.1 B.2.1 hd ht (fun q => absurd hc q) (fun _ => kf a μ1 ho p e R s m args below meth c H locs cells slots ls h1 h2 h3 h4 B hW hS hl)
  · rw [if_neg hc] at ho
    exact lv_icmp_ne B.1 B.2.1 hd ht (fun _ => kt a μ1 ho p e R s m args below meth c H locs cells slots ls h1 h2 h3 h4 B hW hS hl) (fun q => absurd q hc)
theorem sm_if_lt {x : Int32} {off : Int} {tgt : Nat} {A B : Option (α × am_M)} (hd : decode mi.2.1 pc = .ok (.ifCond .lt off, 3)) (ht : (pc : Int) + off = (tgt : Int)) (kt : sm_P G l cv d mi tgt lv st μ A) (kf : sm_P G l cv d mi (pc + 3) lv st μ B) : sm_P G l cv d mi pc lv (.int x :: st) μ (if x < 0 then A else B) := by
  intro a μ1 ho p e R s m args below meth c H locs cells slots ls h1 h2 h3 h4 B hW hS hl
  by_cases hc : x < 0
  · rw [if_pos hc] at ho
    exact lv_if_lt B.1 B.2.1 hd ht (fun _ => kt a μ1 ho p e R s m args below meth c H locs cells slots ls h1 h2 h3 h4 B hW hS hl) (fun q => absurd hc q)
  · rw [if_neg hc] at ho
    exact lv_if_lt B.1 B.2.1 hd ht (fun q => absurd q hc) (fun _ => kf a μ1 ho p e R s m args below meth c H locs cells slots ls h1 h2 h3 h4 B hW hS hl)
theorem sm_icmp_lt {x y : Int32} {off : Int} {tgt : Nat} {A B : Option (α × am_M)} (hd : decode mi.2.1 pc = .ok (.if_icmp .lt off, 3)) (ht : (pc : Int) + off = (tgt : Int)) (kt : sm_P G l cv d mi tgt lv st μ A) (kf : sm_P G l cv d mi (pc + 3) lv st μ B) : sm_P G l cv d mi pc lv (.int y :: .int x :: st) μ (if x < y then A else B) := by
  intro a μ1 ho p e R s m args below meth c H locs cells slots ls h1 h2 h3 h4 B hW hS hl
  by_cases hc : x < y
  · rw [if_pos hc] at ho
    exact lv_icmp_lt B.1 B.2.1 hd ht (fun _ => kt a μ1 ho p e R s m args below meth c H locs cells slots ls h1 h2 h3 h4 B hW hS hl) (fun q => absurd hc q)
  · rw [if_neg hc] at ho
    exact lv_icmp_lt B.1 B.2.1 hd ht (fun q => absurd q hc) (fun _ => kf a μ1 ho p e R s m args below meth c H locs cells slots ls h1 h2 h3 h4 B hW hS hl)
theorem sm_if_ge {x : Int32} {off : Int} {tgt : Nat} {A B : Option (α × am_M)} (hd : decode mi.2.1 pc = .ok (.ifCond .ge off, 3)) (ht : (pc : Int) + off = (tgt : Int)) (kt : sm_P G l cv d mi tgt lv st μ A) (kf : sm_P G l cv d mi (pc + 3) lv st μ B) : sm_P G l cv d mi pc lv (.int x :: st) μ (if 0 ≤ x then A else B) := by
  intro a μ1 ho p e R s m args below meth c H locs cells slots ls h1 h2 h3 h4 B hW hS hl
  by_cases hc : 0 ≤ x
  · rw [if_pos hc] at ho
    exact lv_if_ge B.1 B.2.1 hd ht (fun _ => kt a μ1 ho p e R s m args below meth c H locs cells slots ls h1 h2 h3 h4 B hW hS hl) (fun q => absurd hc q)
  · rw [if_neg hc] at ho
    exact lv_if_ge B.1 B.2.1 hd ht (fun q => absurd q hc) (fun _ => kf a μ1 ho p e R s m args below meth c H locs cells slots ls h1 h2 h3 h4 B hW hS hl)
theorem sm_icmp_ge {x y : Int32} {off : Int} {tgt : Nat} {A B : Option (α × am_M)} (hd : decode mi.2.1 pc = .ok (.if_icmp .ge off, 3)) (ht : (pc : Int) + off = (tgt : Int)) (kt : sm_P G l cv d mi tgt lv st μ A) (kf : sm_P G l cv d mi (pc + 3) lv st μ B) : sm_P G l cv d mi pc lv (.int y :: .int x :: st) μ (if y ≤ x then A else B) := by
  intro a μ1 ho p e R s m args below meth c H locs cells slots ls h1 h2 h3 h4 B hW hS hl
  by_cases hc : y ≤ x
  · rw [if_pos hc] at ho
    exact lv_icmp_ge B.1 B.2.1 hd ht (fun _ => kt a μ1 ho p e R s m args below meth c H locs cells slots ls h1 h2 h3 h4 B hW hS hl) (fun q => absurd hc q)
  · rw [if_neg hc] at ho
    exact lv_icmp_ge B.1 B.2.1 hd ht (fun q => absurd q hc) (fun _ => kf a μ1 ho p e R s m args below meth c H locs cells slots ls h1 h2 h3 h4 B hW hS hl)
theorem sm_if_gt {x : Int32} {off : Int} {tgt : Nat} {A B : Option (α × am_M)} (hd : decode mi.2.1 pc = .ok (.ifCond .gt off, 3)) (ht : (pc : Int) + off = (tgt : Int)) (kt : sm_P G l cv d mi tgt lv st μ A) (kf : sm_P G l cv d mi (pc + 3) lv st μ B) : sm_P G l cv d mi pc lv (.int x :: st) μ (if 0 < x then A else B) := by
  intro a μ1 ho p e R s m args below meth c H locs cells slots ls h1 h2 h3 h4 B hW hS hl
  by_cases hc : 0 < x
  · rw [if_pos hc] at ho
    exact lv_if_gt B.1 B.2.1 hd ht (fun _ => kt a μ1 ho p e R s m args below meth c H locs cells slots ls h1 h2 h3 h4 B hW hS hl) (fun q => absurd hc q)
  · rw [if_neg hc] at ho
    exact lv_if_gt B.1 B.2.1 hd ht (fun q => absurd q hc) (fun _ => kf a μ1 ho p e R s m args below meth c H locs cells slots ls h1 h2 h3 h4 B hW hS hl)
theorem sm_icmp_gt {x y : Int32} {off : Int} {tgt : Nat} {A B : Option (α × am_M)} (hd : decode mi.2.1 pc = .ok (.if_icmp .gt off, 3)) (ht : (pc : Int) + off = (tgt : Int)) (kt : sm_P G l cv d mi tgt lv st μ A) (kf : sm_P G l cv d mi (pc + 3) lv st μ B) : sm_P G l cv d mi pc lv (.int y :: .int x :: st) μ (if y < x then A else B) := by
  intro a μ1 ho p e R s m args below meth c H locs cells slots ls h1 h2 h3 h4 B hW hS hl
  by_cases hc : y < x
  · rw [if_pos hc] at ho
    exact lv_icmp_gt B.1 B.2.1 hd ht (fun _ => kt a μ1 ho p e R s m args below meth c H locs cells slots ls h1 h2 h3 h4 B hW hS hl) (fun q => absurd hc q)
  · rw [if_neg hc] at ho
    exact lv_icmp_gt B.1 B.2.1 hd ht (fun q => absurd q hc) (fun _ => kf a μ1 ho p e R s m args below meth c H locs cells slots ls h1 h2 h3 h4 B hW hS hl)
theorem sm_if_le {x : Int32} {off : Int} {tgt : Nat} {A B : Option (α × am_M)} (hd : decode mi.2.1 pc = .ok (.ifCond .le off, 3)) (ht : (pc : Int) + off = (tgt : Int)) (kt : sm_P G l cv d mi tgt lv st μ A) (kf : sm_P G l cv d mi (pc + 3) lv st μ B) : sm_P G l cv d mi pc lv (.int x :: st) μ (if x ≤ 0 then A else B) := by
  intro a μ1 ho p e R s m args below meth c H locs cells slots ls h1 h2 h3 h4 B hW hS hl
  by_cases hc : x ≤ 0
  · rw [if_pos hc] at ho
    exact lv_if_le B.1 B.2.1 hd ht (fun _ => kt a μ1 ho p e R s m args below meth c H locs cells slots ls h1 h2 h3 h4 B hW hS hl) (fun q => absurd hc q)
  · rw [if_neg hc] at ho
    exact lv_if_le B.1 B.2.1 hd ht (fun q => absurd q hc) (fun _ => kf a μ1 ho p e R s m args below meth c H locs cells slots ls h1 h2 h3 h4 B hW hS hl)
theorem sm_icmp_le {x y : Int32} {off : Int} {tgt : Nat} {A B : Option (α × am_M)} (hd : decode mi.2.1 pc = .ok (.if_icmp .le off, 3)) (ht : (pc : Int) + off = (tgt : Int)) (kt : sm_P G l cv d mi tgt lv st μ A) (kf : sm_P G l cv d mi (pc + 3) lv st μ B) : sm_P G l cv d mi pc lv (.int y :: .int x :: st) μ (if x ≤ y then A else B) := by
  intro a μ1 ho p e R s m args below meth c H locs cells slots ls h1 h2 h3 h4 B hW hS hl
  by_cases hc : x ≤ y
  · rw [if_pos hc] at ho
    exact lv_icmp_le B.1 B.2.1 hd ht (fun _ => kt a μ1 ho p e R s m args below meth c H locs cells slots ls h1 h2 h3 h4 B hW hS hl) (fun q => absurd hc q)
  · rw [if_neg hc] at ho
    exact lv_icmp_le B.1 B.2.1 hd ht (fun q => absurd q hc) (fun _ => kf a μ1 ho p e R s m args below meth c H locs cells slots ls h1 h2 h3 h4 B hW hS hl)
theorem sm_tsi {x c1 : Int32} {dflt lo hi off : Int} {offs : Array Int} {len tgt : Nat} (hx1 : x = c1) (hd : decode mi.2.1 pc = .ok (.tableswitch dflt lo hi offs, len)) (g1 : ¬ c1.toInt < lo) (g2 : ¬ hi < c1.toInt) (go : offs[(c1.toInt - lo).toNat]? = some off) (ht : (pc : Int) + off = (tgt : Int)) (k : sm_P G l cv d mi tgt lv st μ o) : sm_P G l cv d mi pc lv (.int x :: st) μ o := by
  subst hx1
  exact sm_one (fun p e R s m args below meth c H locs cells slots Q ls hx hb hown hts hl w => lv_tableIn hx hb hd g1 g2 go ht w) k
theorem sm_tso {x : Int32} {dflt lo hi : Int} {offs : Array Int} {len tgt : Nat} (hd : decode mi.2.1 pc = .ok (.tableswitch dflt lo hi offs, len)) (h : x.toInt < lo ∨ hi < x.toInt) (ht : (pc : Int) + dflt = (tgt : Int)) (k : sm_P G l cv d mi tgt lv st μ o) : sm_P G l cv d mi pc lv (.int x :: st) μ o := sm_one (fun p e R s m args below meth c H locs cells slots Q ls hx hb hown hts hl w => lv_tableOut hx hb hd h ht w) k
theorem sm_lku {x : Int32} {dflt off : Int} {ps : Array (Int × Int)} {len tgt : Nat} (hd : decode mi.2.1 pc = .ok (.lookupswitch dflt ps, len)) (hp : (ps.toList.zip (ps.toList.drop 1)).all (fun (a, next) => a.1 < next.1) = true) (go : Op.lookupswitch.offset ps.toList dflt x.toInt = off) (ht : (pc : Int) + off = (tgt : Int)) (k : sm_P G l cv d mi tgt lv st μ o) : sm_P G l cv d mi pc lv (.int x :: st) μ o := sm_one (fun p e R s m args below meth c H locs cells slots Q ls hx hb hown hts hl w => lv_lookup hx hb hd hp go ht w) k
theorem am_ne {x : Int32} {n : Int} {c1 : Int32} (hc : c1.toInt = n) (h : ¬ x = c1) : x.toInt ≠ n := fun e => h (Int32.toInt_inj.mp (e.trans hc.symm))
theorem sm_iret {x : Int32} (hd : decode mi.2.1 pc = .ok (.ireturn, 1)) (hr : mi.2.2.2 = some .int) : sm_P G l am_ci d mi pc lv [.int x] μ (some (x, μ)) := by
  intro a μ1 ho p e R s m args below meth c H locs cells slots ls h1 h2 h3 h4 B hW hS hl
  cases ho
  exact W.iret B.1 B.2.1 (B.2.2.2.1.trans hr) (fun t ht _ => ⟨rfl, by rw [ht]; exact hW, hS.F ht⟩) hS.2.2 hd B.2.2.2.2.2.2.1
theorem sm_lret {x : Int64} (hd : decode mi.2.1 pc = .ok (.lreturn, 1)) (hr : mi.2.2.2 = some .long) : sm_P G l am_cl d mi pc lv [.long x] μ (some (x, μ)) := by
  intro a μ1 ho p e R s m args below meth c H locs cells slots ls h1 h2 h3 h4 B hW hS hl
  cases ho
  exact W.lret B.1 B.2.1 (B.2.2.2.1.trans hr) (fun t ht _ => ⟨rfl, by rw [ht]; exact hW, hS.F ht⟩) hS.2.2 hd B.2.2.2.2.2.2.1
theorem sm_vret (hd : decode mi.2.1 pc = .ok (.return_, 1)) (hr : mi.2.2.2 = none) : sm_P G l am_cu d mi pc lv [] μ (some ((), μ)) := by
  intro a μ1 ho p e R s m args below meth c H locs cells slots ls h1 h2 h3 h4 B hW hS hl
  cases ho
  exact W.vret B.1 B.2.1 (B.2.2.2.1.trans hr) (fun t ht _ => ⟨rfl, by rw [ht]; exact hW, hS.F ht⟩) hS.2.2 hd B.2.2.2.2.2.2.1
theorem sm_zret {x : Int32} (hd : decode mi.2.1 pc = .ok (.ireturn, 1)) (hr : mi.2.2.2 = some .boolean) : sm_P G l am_ci d mi pc lv [.int x] μ (am_z x μ) := by
  intro a μ1 ho p e R s m args below meth c H locs cells slots ls h1 h2 h3 h4 B hW hS hl
  unfold am_z at ho
  by_cases hz : x = 0 ∨ x = 1
  · rw [if_pos hz] at ho
    cases ho
    exact W.zret (ty := .boolean) B.1 B.2.1 (B.2.2.2.1.trans hr) (by rcases hz with rfl | rfl <;> rfl) (fun t ht _ => ⟨rfl, by rw [ht]; exact hW, hS.F ht⟩) hS.2.2 hd B.2.2.2.2.2.2.1
  · rw [if_neg hz] at ho
    cases ho
end SMA
