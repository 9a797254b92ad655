/-! cells that lie one behind the other: what constructors make -/
def blk : Nat → List va_E → va_W
  | _, [] => []
  | z, e :: cs => (z, e) :: blk (z + 1) cs
theorem blk_len : ∀ (cs : List va_E) (z : Nat), (blk z cs).length = cs.length
  | [], _ => rfl
  | e :: cs, z => by
    show (blk (z + 1) cs).length + 1 = cs.length + 1
    rw [blk_len cs]
theorem blk_get : ∀ (cs : List va_E) (z i : Nat), (blk z cs)[i]? = (cs[i]?).map (fun e => (z + i, e))
  | [], _, _ => rfl
  | e :: cs, z, 0 => rfl
  | e :: cs, z, i + 1 => by
    show (blk (z + 1) cs)[i]? = (cs[i]?).map _
    rw [blk_get cs (z + 1) i, show z + 1 + i = z + (i + 1) by omega]
theorem blk_set : ∀ (cs : List va_E) (z i : Nat) (e : va_E), blk z (cs.set i e) = (blk z cs).set i (z + i, e)
  | [], _, _, _ => rfl
  | _ :: _, _, 0, _ => rfl
  | e0 :: cs, z, i + 1, e => by
    show (z, e0) :: blk (z + 1) (cs.set i e) = (z, e0) :: (blk (z + 1) cs).set i (z + (i + 1), e)
    rw [blk_set cs (z + 1) i e, show z + 1 + i = z + (i + 1) by omega]
theorem blk_at {cs : List va_E} {z i : Nat} {e : va_E} (h : cs[i]? = some e) : (blk z cs)[i]? = some (z + i, e) := by rw [blk_get, h]; rfl
theorem blk_of {cs : List va_E} {z i : Nat} {x : Nat × va_E} (h : (blk z cs)[i]? = some x) : ∃ e, cs[i]? = some e ∧ x = (z + i, e) := by
  rw [blk_get] at h
  cases hc : cs[i]? with
  | none => rw [hc] at h; cases h
  | some e => rw [hc] at h; exact ⟨e, rfl, (Option.some.inj h).symm⟩
abbrev bA (z : Nat) : Nat → Prop := fun q => z ≤ q
theorem blk_D (z : Nat) (cs : List va_E) : va_D (bA z) (blk z cs) := by
  refine ⟨fun i j p q hp hq e => ?_, fun k q hq => ?_⟩
  · obtain ⟨x, -, rfl⟩ := blk_of hp
    obtain ⟨y, -, rfl⟩ := blk_of hq
    have e' : z + i = z + j := e
    omega
  · obtain ⟨x, -, rfl⟩ := blk_of hq
    show z ≤ z + k
    omega
def bty (cT : Nat → ClassId) : List (ClassId × FieldType) := [(cT 1, .int), (cT 2, .long), (cT 3, .array .int), (cT 4, .array .long)]
def bH (D : va_G) (z : Nat) (cs : List va_E) (H : Heap) : Prop := H.size = z + cs.length ∧ ∀ i e, cs[i]? = some e → va_at D vwCl (z + i, e) H
theorem bH.P {D : va_G} {z : Nat} {cs : List va_E} {H : Heap} (h : bH D z cs H) : va_P D vwCl (blk z cs) H := fun k q hk => by
  obtain ⟨e, he, rfl⟩ := blk_of hk
  exact h.2 k e he
theorem bH.push {D : va_G} {z : Nat} {cs : List va_E} {H H1 : Heap} {e : va_E} (h : bH D z cs H) (h1 : H1.size = H.size + 1) (h2 : ∀ q, q < H.size → H1[q]? = H[q]?) (h3 : va_at D vwCl (H.size, e) H1) : bH D z (cs ++ [e]) H1 := by
  refine ⟨by rw [h1, h.1, List.length_append]; rfl, fun i x hx => ?_⟩
  by_cases hi : i < cs.length
  · rw [List.getElem?_append_left hi] at hx
    exact (h.2 i x hx).kept (h2 _ (by rw [h.1]; show z + i < _; omega))
  · rw [List.getElem?_append_right (by omega)] at hx
    have hz : i - cs.length < 1 := (List.getElem?_eq_some_iff.mp hx).1
    rw [show i - cs.length = 0 by omega] at hx
    cases hx
    rw [show z + i = H.size by rw [h.1]; omega]
    exact h3
theorem bH.set {D : va_G} {z i : Nat} {cs : List va_E} {H H1 : Heap} {e0 e : va_E} (h : bH D z cs H) (hi : cs[i]? = some e0) (h1 : H1.size = H.size) (h2 : ∀ q, q ≠ z + i → H1[q]? = H[q]?) (h3 : va_at D vwCl (z + i, e) H1) : bH D z (cs.set i e) H1 := by
  have hlt : i < cs.length := (List.getElem?_eq_some_iff.mp hi).1
  refine ⟨by rw [h1, h.1, List.length_set], fun j x hx => ?_⟩
  by_cases hj : j = i
  · subst hj
    rw [List.getElem?_set_self hlt] at hx
    cases hx
    exact h3
  · rw [List.getElem?_set_ne (fun q => hj q.symm)] at hx
    exact (h.2 j x hx).kept (h2 _ (by show z + j ≠ z + i; omega))
/-- the component of an array of rows -/
def bM (cT : Nat → ClassId) (U : State) : Prop := (∃ kA : Class, U.vm.classes[cT 3]? = some kA ∧ kA.kind = .array (cT 1) (.array .int)) ∧ ∃ kA : Class, U.vm.classes[cT 4]? = some kA ∧ kA.kind = .array (cT 2) (.array .long)
theorem bM.moved {cT : Nat → ClassId} {u U : State} (hvm : u.vm.Alike U.vm) (h : bM cT u) : bM cT U := by
  obtain ⟨⟨k1, h1, h2⟩, k2, h3, h4⟩ := h
  obtain ⟨k1', h1', e1⟩ := hvm.2.2 _ _ h1
  obtain ⟨k2', h3', e2⟩ := hvm.2.2 _ _ h3
  exact ⟨⟨k1', h1', by rw [e1]; exact h2⟩, k2', h3', by rw [e2]; exact h4⟩
def bB (D : va_G) (cT : Nat → ClassId) (mi : am_Me) (p : Program) (s : State) (m : MethodId) (args : Array Value) (meth : Method) (c : Code) : Prop :=
  p.tables.exec = Jvm.exec ∧ c.code = mi.2.1 ∧ c.maxLocals = mi.2.2.1 ∧ meth.sig.returnType = mi.2.2.2 ∧ s.vm.findClass mi.1.cls = some m.cls ∧ (∀ w ∈ am_tb, w.before args s = true) ∧ meth.locks = false ∧ va_K D vwCl (bty cT) s ∧ am_N s ∧ bM cT s
section BKW
variable {p : Program} {l : Launch} {e : Env} {R : Room} {s : State} {m : MethodId} {args : Array Value} {below : List Frame} {meth : Method} {c : Code} {H : Heap} {locs : List Loc} {cells slots : Nat} {Q : State → Prop}
variable {D : va_G} {cT : Nat → ClassId} {mi : am_Me} {z pc : Nat} {ls : Array Slot} {rest : List Value} {cs : List va_E}
theorem bK1 (h : va_K D vwCl (bty cT) s) : s.vm.findClass ("[" ++ FieldType.int.toString) = some (cT 1) := (h.2 0 _ rfl).2
theorem bK2 (h : va_K D vwCl (bty cT) s) : s.vm.findClass ("[" ++ FieldType.long.toString) = some (cT 2) := (h.2 1 _ rfl).2
theorem bK3 (h : va_K D vwCl (bty cT) s) : s.vm.findClass ("[" ++ (FieldType.array .int).toString) = some (cT 3) := (h.2 2 _ rfl).2
theorem bK4 (h : va_K D vwCl (bty cT) s) : s.vm.findClass ("[" ++ (FieldType.array .long).toString) = some (cT 4) := (h.2 3 _ rfl).2
theorem bS.up {H1 : Heap} (h : va_S (bA z) s.heap H locs) (h1 : H.size ≤ H1.size) (h2 : ∀ q, q < H.size → H1[q]? = H[q]?) : va_S (bA z) s.heap H1 locs := ⟨Nat.le_trans h.1 h1, fun q q1 q2 => (h2 q (Nat.lt_of_lt_of_le q1 h.1)).trans (h.2.1 q q1 q2), h.2.2⟩
theorem bk_newi (B : bB D cT mi p s m args meth c) (hH : bH D z cs H) (hS : va_S (bA z) s.heap H locs) {n : Int32} {k : Nat} (hd : decode mi.2.1 pc = .ok (.newarray .int, 2)) (hn : ¬ n < 0) (hN : n.toNatClampNeg = k) (hk : k ≤ 100000) (hw : Cond.arrayClass .int ∈ lw_tbl) (hc : cells + 1 ≤ R.cells) (hs : slots + k ≤ R.slots)
    (kk : ∀ H1, bH D z (cs ++ [.inl (cT 1, (k, .inl (fun _ => 0)))]) H1 → va_S (bA z) s.heap H1 locs → W p l e R s m args below meth c H1 locs (cells + 1) (slots + k) Q (F0 m (pc + 2) ls (.ref (z + cs.length) :: rest))) : W p l e R s m args below meth c H locs cells slots Q (F0 m pc ls (.int n :: rest)) := by
  refine va_newaK B.1 B.2.1 (atype := .int) (B.2.2.2.2.2.1 _ (am_g hw rfl)) rfl hd rfl hn hN (by show k * 4 ≤ _; omega) hc hs hH.1 (fun H1 cA e1 z1 o1 hAr hNm => ?_)
  have ec : cA = cT 1 := Option.some.inj (hNm.symm.trans (bK1 B.2.2.2.2.2.2.2.1))
  subst ec
  exact kk H1 (hH.push (by rw [z1, hH.1]) (fun q hq => o1 q (by rw [← hH.1]; exact hq)) (by rw [hH.1]; exact e1)) (bS.up hS (by rw [z1, hH.1]; omega) (fun q hq => o1 q (by rw [← hH.1]; exact hq)))
theorem bk_newl (B : bB D cT mi p s m args meth c) (hH : bH D z cs H) (hS : va_S (bA z) s.heap H locs) {n : Int32} {k : Nat} (hd : decode mi.2.1 pc = .ok (.newarray .long, 2)) (hn : ¬ n < 0) (hN : n.toNatClampNeg = k) (hk : k ≤ 100000) (hw : Cond.arrayClass .long ∈ lw_tbl) (hc : cells + 1 ≤ R.cells) (hs : slots + k ≤ R.slots)
    (kk : ∀ H1, bH D z (cs ++ [.inl (cT 2, (k, .inr (.inl (fun _ => 0))))]) H1 → va_S (bA z) s.heap H1 locs → W p l e R s m args below meth c H1 locs (cells + 1) (slots + k) Q (F0 m (pc + 2) ls (.ref (z + cs.length) :: rest))) : W p l e R s m args below meth c H locs cells slots Q (F0 m pc ls (.int n :: rest)) := by
  refine va_newaK B.1 B.2.1 (atype := .long) (B.2.2.2.2.2.1 _ (am_g hw rfl)) rfl hd rfl hn hN (by show k * 8 ≤ _; omega) hc hs hH.1 (fun H1 cA e1 z1 o1 hAr hNm => ?_)
  have ec : cA = cT 2 := Option.some.inj (hNm.symm.trans (bK2 B.2.2.2.2.2.2.2.1))
  subst ec
  exact kk H1 (hH.push (by rw [z1, hH.1]) (fun q hq => o1 q (by rw [← hH.1]; exact hq)) (by rw [hH.1]; exact e1)) (bS.up hS (by rw [z1, hH.1]; omega) (fun q hq => o1 q (by rw [← hH.1]; exact hq)))
theorem bk_new (B : bB D cT mi p s m args meth c) (hH : bH D z cs H) (hS : va_S (bA z) s.heap H locs) {C : String} {T : u_T} {N ci index : Nat} {ty : Nat → FieldType} (hc : vwCl[ci]? = some (C, T, N)) (hin : ∀ w ∈ u_ws C T N, w ∈ am_tb) (hty : ∀ k, k < N → parseFieldDescriptor (T k).2.2.1 = some (ty k)) (hcl : Cond.classLink mi.1.cls index C ∈ lw_tbl) (hinst : Cond.instantiable C N ∈ lw_tbl) (hini : Cond.initialized C ∈ lw_tbl)
    {fs : List Value} (hfs : ∀ j, j < N → defaultValue (ty j) = vp_V fs j) (hd : decode mi.2.1 pc = .ok (.new index, 3)) (hcl2 : cells + 1 ≤ R.cells) (hs : slots + N ≤ R.slots)
    (kk : ∀ H1, bH D z (cs ++ [.inr (ci, fs)]) H1 → va_S (bA z) s.heap H1 locs → W p l e R s m args below meth c H1 locs (cells + 1) (slots + N) Q (F0 m (pc + 3) ls (.ref (z + cs.length) :: rest))) : W p l e R s m args below meth c H locs cells slots Q (F0 m pc ls rest) := by
  have hts := B.2.2.2.2.2.1
  have hKn := B.2.2.2.2.2.2.2.1.1 ci _ hc
  refine W.newcK B.1 B.2.1 B.2.2.2.2.1 (hts _ (am_g hcl rfl)) (hts _ (am_g hinst rfl)) (hts _ (am_g hini rfl)) rfl hd hcl2 hs hKn.2.1 hH.1 (fun H1 kC hkC e1 z1 o1 => ?_)
  exact kk H1 (hH.push (by rw [z1, hH.1]) (fun q hq => o1 q (by rw [← hH.1]; exact hq)) ⟨_, hc, by rw [hH.1]; exact (u_born ty hts hin hKn hkC e1 hty).to hfs⟩) (bS.up hS (by rw [z1, hH.1]; omega) (fun q hq => o1 q (by rw [← hH.1]; exact hq)))
theorem bk_put (B : bB D cT mi p s m args meth c) (hH : bH D z cs H) (hS : va_S (bA z) s.heap H locs) {C : String} {T : u_T} {N ci index i k : Nat} {ty0 : Nat → FieldType} {fs : List Value} {v : Value} (hi : cs[i]? = some (.inr (ci, fs))) (hc : vwCl[ci]? = some (C, T, N)) (hin : ∀ w ∈ u_ws C T N, w ∈ am_tb) (hty : ∀ k, k < N → parseFieldDescriptor (T k).2.2.1 = some (ty0 k)) (hnm : ∀ a, a < N → ∀ b, b < N → a ≠ b → (T a).2.1 ≠ (T b).2.1) (hk : k < N) (hlink : Cond.fieldLink mi.1.cls index (T k).1 (T k).2.1 (T k).2.2.1 ∈ lw_tbl) (hin2 : meth.name = "<init>") (hdecl : (T k).1 = mi.1.cls) (hn : narrow (ty0 k) v = v) (hfit : fits (ty0 k) v = true) (hl : k < fs.length) (hd : decode mi.2.1 pc = .ok (.putfield index, 3))
    (kk : ∀ H1 locs1, bH D z (cs.set i (.inr (ci, fs.set k v))) H1 → va_S (bA z) s.heap H1 locs1 → W p l e R s m args below meth c H1 locs1 cells slots Q (F0 m (pc + 3) ls rest)) : W p l e R s m args below meth c H locs cells slots Q (F0 m pc ls (v :: .ref (z + i) :: rest)) := by
  have hts := B.2.2.2.2.2.1
  have hown := B.2.2.2.2.1
  have hK := B.2.2.2.2.2.2.2.1
  have hap := va_apart (own := mi.1.cls) hts hin ty0 hty hnm hK hc
  obtain ⟨r, h1, cell, q1, q2, q3, q4⟩ := hH.2 i _ hi
  have hr : r = (C, T, N) := Option.some.inj (h1.symm.trans hc)
  subst hr
  obtain ⟨hSl, hfc, kC, hkC, hkind⟩ := hK.1 ci _ hc
  obtain ⟨cf, kf, fi, f, hf, hsl⟩ := hSl k hk
  have hst := (u_facts hfc hkC (u_lays hts hin hk) hf).1
  have hlay := hts _ (hin _ (u_in_lay hk))
  have fin : ∀ H', H'[z + i]? = some (cell.setSlot (D.2 ci k) v) → H'.size = H.size → (∀ q, q ≠ z + i → H'[q]? = H[q]?) → W p l e R s m args below meth c H' (locs ++ [⟨z + i, D.2 ci k⟩]) cells slots Q (F0 m (pc + 3) ls rest) := fun H' e1 e2 e3 =>
    kk H' _ (hH.set hi e2 e3 ⟨_, hc, t_OB.to (V := updV (vp_V fs) k v) ⟨_, e1, q2, q3, t_set q4 hap hk v⟩ (fun j _ => vp_updV_set hl v j)⟩) (hS.put e2 e3 (by show z ≤ z + i; omega))
  unfold u_lay at hlay
  cases hb : (T k).2.2.2 with
  | true =>
    rw [if_pos hb] at hlay
    have hcf : m.cls = cf := by
      obtain ⟨_, _, c', _, _, _, -, -, hf', -, -, -, hown2, -⟩ := Cond.laysFinal_spec hlay
      have e1 : c' = cf := by have := hf.symm.trans hf'; simp at this; exact this.1.symm
      rw [hdecl] at hown2
      rw [← e1]; exact Option.some.inj (hown.symm.trans hown2)
    have h6 := u_fits hfc hkC hkind (Or.inr hlay) hf (hty k hk) hn hfit
    refine W.putFinK B.1 B.2.1 hown (hts _ (am_g hlink rfl)) hf hst hcf hin2 (by rw [q2]; exact h6) q1 q3 (by rw [hsl]; exact k2_hasslot (q4 k hk)) rfl rfl hd fun H' e1 e2 e3 => ?_
    rw [hsl] at e1 ⊢
    exact fin H' e1 e2 e3
  | false =>
    rw [if_neg (by rw [hb]; decide)] at hlay
    have h6 := u_store hfc hkC hkind hlay hf (hty k hk) hn hfit
    refine W.putK B.1 B.2.1 (f := f) ⟨hown, hts _ (am_g hlink rfl), ⟨_, _, _, hf⟩, hst⟩ (by rw [q2]; exact h6) q1 q3 (by rw [hsl]; exact k2_hasslot (q4 k hk)) rfl rfl hd fun H' e1 e2 e3 => ?_
    rw [hsl] at e1 ⊢
    exact fin H' e1 e2 e3
theorem bk_get (B : bB D cT mi p s m args meth c) (hH : bH D z cs H) {C : String} {T : u_T} {N ci index i k : Nat} {fs : List Value} {v : Value} (hi : cs[i]? = some (.inr (ci, fs))) (hc : vwCl[ci]? = some (C, T, N)) (hin : ∀ w ∈ u_ws C T N, w ∈ am_tb) (hk : k < N) (hlink : Cond.fieldLink mi.1.cls index (T k).1 (T k).2.1 (T k).2.2.1 ∈ lw_tbl) (hv : fs[k]? = some v) (hd : decode mi.2.1 pc = .ok (.getfield index, 3))
    (kk : W p l e R s m args below meth c H locs cells slots Q (F0 m (pc + 3) ls (v :: rest))) : W p l e R s m args below meth c H locs cells slots Q (F0 m pc ls (.ref (z + i) :: rest)) :=
  va_get B.1 B.2.1 B.2.2.2.2.2.1 hin B.2.2.2.2.1 B.2.2.2.2.2.2.2.1 hH.P i (blk_at hi) hc k hk (B.2.2.2.2.2.1 _ (am_g hlink rfl)) (fun _ h => h) hv hd kk
theorem bk_iast (B : bB D cT mi p s m args meth c) (hH : bH D z cs H) (hS : va_S (bA z) s.heap H locs) {i n j : Nat} {f : Nat → Int32} {x : Int32} (hi : cs[i]? = some (.inl (cT 1, (n, .inl f)))) (hj : j < n) (hj2 : j < 2147483648) (hd : decode mi.2.1 pc = .ok (.iastore, 1))
    (kk : ∀ H1 locs1, bH D z (cs.set i (.inl (cT 1, (n, .inl (upd f j x))))) H1 → va_S (bA z) s.heap H1 locs1 → W p l e R s m args below meth c H1 locs1 cells slots Q (F0 m (pc + 1) ls rest)) : W p l e R s m args below meth c H locs cells slots Q (F0 m pc ls (.int x :: .int (nI j) :: .ref (z + i) :: rest)) := by
  have hK := B.2.2.2.2.2.2.2.1
  refine W.iast B.1 B.2.1 (hH.2 i _ hi) ((hK.2 0 _ rfl).1 n (fun j => .int (f j))) (fun q => by cases q) (by show ¬ (nI j < 0 ∨ (arrV _ _ _).slots.size ≤ _); rw [arrV_size, nI_clamp hj2]; exact fun q => q.elim (nI_pos hj2) (fun q2 => absurd (show n ≤ j from q2) (Nat.not_le.mpr hj))) rfl rfl hd fun H1 e1 e2 e3 => ?_
  refine kk H1 _ (hH.set hi e2 e3 ?_) (hS.put e2 e3 (by show z ≤ z + i; omega))
  show H1[z + i]? = some (vp_cell _ _)
  rw [e1, nI_clamp hj2, vp_cell_i, vp_cell_i, arrV_store]
  congr 2
  funext q
  by_cases hq : q = j
  · subst hq
    simp [updV, upd]
  · simp [updV, upd, hq]
end BKW
