/-! a constructor's own block: what stood, itself with its fields so far, what it has made -/
def cx (cs : List va_E) (i ci : Nat) (fs : List Value) (ns : List va_E) : List va_E := cs.set i (.inr (ci, fs)) ++ ns
theorem cx_0 {cs : List va_E} {i ci : Nat} {fs : List Value} (h : cs[i]? = some (.inr (ci, fs))) : cx cs i ci fs [] = cs := by
  unfold cx
  rw [List.append_nil]
  obtain ⟨hlt, he⟩ := List.getElem?_eq_some_iff.mp h
  rw [← he]
  exact List.set_getElem_self hlt
theorem cx_len (cs : List va_E) (i ci : Nat) (fs : List Value) (ns : List va_E) : (cx cs i ci fs ns).length = cs.length + ns.length := by
  unfold cx
  rw [List.length_append, List.length_set]
theorem cx_at {cs : List va_E} {i : Nat} (h : i < cs.length) (ci : Nat) (fs : List Value) (ns : List va_E) : (cx cs i ci fs ns)[i]? = some (.inr (ci, fs)) := by
  unfold cx
  rw [List.getElem?_append_left (by rw [List.length_set]; exact h), List.getElem?_set_self h]
theorem cx_put {cs : List va_E} {i : Nat} (h : i < cs.length) (ci : Nat) (fs fs' : List Value) (ns : List va_E) : (cx cs i ci fs ns).set i (.inr (ci, fs')) = cx cs i ci fs' ns := by
  unfold cx
  rw [List.set_append_left _ _ (by rw [List.length_set]; exact h), List.set_set]
theorem cx_app (cs : List va_E) (i ci : Nat) (fs : List Value) (ns es : List va_E) : cx cs i ci fs ns ++ es = cx cs i ci fs (ns ++ es) := by
  unfold cx
  rw [List.append_assoc]
theorem cx_ns (cs : List va_E) (i ci : Nat) (fs : List Value) (ns : List va_E) (j : Nat) : (cx cs i ci fs ns)[cs.length + j]? = ns[j]? := by
  unfold cx
  rw [List.getElem?_append_right (by rw [List.length_set]; omega), List.length_set, show cs.length + j - cs.length = j by omega]
theorem cx_nset (cs : List va_E) (i ci : Nat) (fs : List Value) (ns : List va_E) (j : Nat) (e : va_E) : (cx cs i ci fs ns).set (cs.length + j) e = cx cs i ci fs (ns.set j e) := by
  unfold cx
  rw [List.set_append_right _ _ (by rw [List.length_set]; omega), List.length_set, show cs.length + j - cs.length = j by omega]
section CKW
variable {p : Program} {l : Launch} {e : Env} {R : Room} {s : State} {m : MethodId} {args : Array Value} {below : List Frame} {meth : Method} {c : Code} {H : Heap} {locs : List Loc} {cells slots : Nat} {Q : State → Prop}
variable {D : va_G} {cT : Nat → ClassId} {mi : am_Me} {z pc : Nat} {ls : Array Slot} {rest : List Value} {cs ns : List va_E} {i ci : Nat} {fs : List Value}
theorem ck_newi (B : bB D cT mi p s m args meth c) (hH : bH D z (cx cs i ci fs ns) H) (hS : va_S (bA z) s.heap H locs) {n : Int32} {k o : Nat} (hd : decode mi.2.1 pc = .ok (.newarray .int, 2)) (hn : ¬ n < 0) (hN : n.toNatClampNeg = k) (hk : k ≤ 100000) (hw : Cond.arrayClass .int ∈ lw_tbl) (hc : cells + 1 ≤ R.cells) (hs : slots + k ≤ R.slots) (ho : ns.length = o)
    (kk : ∀ H1, bH D z (cx cs i ci fs (ns ++ [be_i cT k])) H1 → va_S (bA z) s.heap H1 locs → W p l e R s m args below meth c H1 locs (cells + 1) (slots + k) Q (F0 m (pc + 2) ls (.ref (z + cs.length + o) :: rest))) : W p l e R s m args below meth c H locs cells slots Q (F0 m pc ls (.int n :: rest)) := by
  refine bk_newi B hH hS hd hn hN hk hw hc hs (fun H1 h1 h2 => ?_)
  rw [cx_app] at h1
  rw [cx_len, ho, ← Nat.add_assoc]
  exact kk H1 h1 h2
theorem ck_newl (B : bB D cT mi p s m args meth c) (hH : bH D z (cx cs i ci fs ns) H) (hS : va_S (bA z) s.heap H locs) {n : Int32} {k o : Nat} (hd : decode mi.2.1 pc = .ok (.newarray .long, 2)) (hn : ¬ n < 0) (hN : n.toNatClampNeg = k) (hk : k ≤ 100000) (hw : Cond.arrayClass .long ∈ lw_tbl) (hc : cells + 1 ≤ R.cells) (hs : slots + k ≤ R.slots) (ho : ns.length = o)
    (kk : ∀ H1, bH D z (cx cs i ci fs (ns ++ [be_l cT k])) H1 → va_S (bA z) s.heap H1 locs → W p l e R s m args below meth c H1 locs (cells + 1) (slots + k) Q (F0 m (pc + 2) ls (.ref (z + cs.length + o) :: rest))) : W p l e R s m args below meth c H locs cells slots Q (F0 m pc ls (.int n :: rest)) := by
  refine bk_newl B hH hS hd hn hN hk hw hc hs (fun H1 h1 h2 => ?_)
  rw [cx_app] at h1
  rw [cx_len, ho, ← Nat.add_assoc]
  exact kk H1 h1 h2
theorem ck_mi (B : bB D cT mi p s m args meth c) (hH : bH D z (cx cs i ci fs ns) H) (hS : va_S (bA z) s.heap H locs) {index n' k' o : Nat} {n k : Int32} (hcl : Cond.classLink mi.1.cls index "[[I" ∈ lw_tbl) (hw : Cond.arrayClass .int ∈ lw_tbl) (hd : decode mi.2.1 pc = .ok (.multianewarray index 2, 4)) (hn : ¬ n < 0) (hk : ¬ k < 0) (hn' : n.toNatClampNeg = n') (hk' : k.toNatClampNeg = k') (hb1 : n' ≤ 1000) (hb2 : k' ≤ 1000) (hc : cells + (1 + n') ≤ R.cells) (hs : slots + (n' + n' * k') ≤ R.slots) (ho : ns.length = o)
    (kk : ∀ H1 locs1, bH D z (cx cs i ci fs (ns ++ (be_q cT 3 n' (z + cs.length + o + 1) :: List.replicate n' (be_i cT k')))) H1 → va_S (bA z) s.heap H1 locs1 → W p l e R s m args below meth c H1 locs1 (cells + 1 + n') (slots + n' + n' * k') Q (F0 m (pc + 4) ls (.ref (z + cs.length + o) :: rest))) : W p l e R s m args below meth c H locs cells slots Q (F0 m pc ls (.int k :: .int n :: rest)) := by
  refine bk_mi B hH hS hcl hw hd hn hk hn' hk' hb1 hb2 hc hs (fun H1 locs1 h1 h2 => ?_)
  rw [cx_app, cx_len, ho, ← Nat.add_assoc] at h1
  rw [cx_len, ho, ← Nat.add_assoc]
  exact kk H1 locs1 h1 h2
theorem ck_ml (B : bB D cT mi p s m args meth c) (hH : bH D z (cx cs i ci fs ns) H) (hS : va_S (bA z) s.heap H locs) {index n' k' o : Nat} {n k : Int32} (hcl : Cond.classLink mi.1.cls index "[[J" ∈ lw_tbl) (hw : Cond.arrayClass .long ∈ lw_tbl) (hd : decode mi.2.1 pc = .ok (.multianewarray index 2, 4)) (hn : ¬ n < 0) (hk : ¬ k < 0) (hn' : n.toNatClampNeg = n') (hk' : k.toNatClampNeg = k') (hb1 : n' ≤ 1000) (hb2 : k' ≤ 1000) (hc : cells + (1 + n') ≤ R.cells) (hs : slots + (n' + n' * k') ≤ R.slots) (ho : ns.length = o)
    (kk : ∀ H1 locs1, bH D z (cx cs i ci fs (ns ++ (be_q cT 4 n' (z + cs.length + o + 1) :: List.replicate n' (be_l cT k')))) H1 → va_S (bA z) s.heap H1 locs1 → W p l e R s m args below meth c H1 locs1 (cells + 1 + n') (slots + n' + n' * k') Q (F0 m (pc + 4) ls (.ref (z + cs.length + o) :: rest))) : W p l e R s m args below meth c H locs cells slots Q (F0 m pc ls (.int k :: .int n :: rest)) := by
  refine bk_ml B hH hS hcl hw hd hn hk hn' hk' hb1 hb2 hc hs (fun H1 locs1 h1 h2 => ?_)
  rw [cx_app, cx_len, ho, ← Nat.add_assoc] at h1
  rw [cx_len, ho, ← Nat.add_assoc]
  exact kk H1 locs1 h1 h2
theorem ck_put (B : bB D cT mi p s m args meth c) (hH : bH D z (cx cs i ci fs ns) H) (hS : va_S (bA z) s.heap H locs) (hlt : i < cs.length) {C : String} {T : u_T} {N index k : Nat} {ty0 : Nat → FieldType} {v : Value} (hc : vwCl[ci]? = some (C, T, N)) (hin : ∀ w ∈ u_ws C T N, w ∈ am_tb) (hty : ∀ k, k < N → parseFieldDescriptor (T k).2.2.1 = some (ty0 k)) (hnm : ∀ a, a < N → ∀ b, b < N → a ≠ b → (T a).2.1 ≠ (T b).2.1) (hk : k < N) (hlink : Cond.fieldLink mi.1.cls index (T k).1 (T k).2.1 (T k).2.2.1 ∈ lw_tbl) (hin2 : meth.name = "<init>") (hdecl : (T k).1 = mi.1.cls) (hn : narrow (ty0 k) v = v) (hfit : fits (ty0 k) v = true) (hl : k < fs.length) (hd : decode mi.2.1 pc = .ok (.putfield index, 3))
    (kk : ∀ H1 locs1, bH D z (cx cs i ci (fs.set k v) ns) H1 → va_S (bA z) s.heap H1 locs1 → W p l e R s m args below meth c H1 locs1 cells slots Q (F0 m (pc + 3) ls rest)) : W p l e R s m args below meth c H locs cells slots Q (F0 m pc ls (v :: .ref (z + i) :: rest)) := by
  refine bk_put B hH hS (cx_at hlt ci fs ns) hc hin hty hnm hk hlink hin2 hdecl hn hfit hl hd (fun H1 locs1 h1 h2 => ?_)
  rw [cx_put hlt] at h1
  exact kk H1 locs1 h1 h2
theorem ck_get (B : bB D cT mi p s m args meth c) (hH : bH D z (cx cs i ci fs ns) H) (hlt : i < cs.length) {C : String} {T : u_T} {N index k : Nat} {v : Value} (hc : vwCl[ci]? = some (C, T, N)) (hin : ∀ w ∈ u_ws C T N, w ∈ am_tb) (hk : k < N) (hlink : Cond.fieldLink mi.1.cls index (T k).1 (T k).2.1 (T k).2.2.1 ∈ lw_tbl) (hv : fs[k]? = some v) (hd : decode mi.2.1 pc = .ok (.getfield index, 3))
    (kk : W p l e R s m args below meth c H locs cells slots Q (F0 m (pc + 3) ls (v :: rest))) : W p l e R s m args below meth c H locs cells slots Q (F0 m pc ls (.ref (z + i) :: rest)) :=
  bk_get B hH (cx_at hlt ci fs ns) hc hin hk hlink hv hd kk
theorem ck_iast (B : bB D cT mi p s m args meth c) (hH : bH D z (cx cs i ci fs ns) H) (hS : va_S (bA z) s.heap H locs) {q n j : Nat} {f : Nat → Int32} {x : Int32} (hq : ns[q]? = some (.inl (cT 1, (n, .inl f)))) (hj : j < n) (hj2 : j < 2147483648) (hd : decode mi.2.1 pc = .ok (.iastore, 1))
    (kk : ∀ H1 locs1, bH D z (cx cs i ci fs (ns.set q (.inl (cT 1, (n, .inl (upd f j x)))))) H1 → va_S (bA z) s.heap H1 locs1 → W p l e R s m args below meth c H1 locs1 cells slots Q (F0 m (pc + 1) ls rest)) : W p l e R s m args below meth c H locs cells slots Q (F0 m pc ls (.int x :: .int (nI j) :: .ref (z + cs.length + q) :: rest)) := by
  rw [Nat.add_assoc z]
  refine bk_iast B hH hS (i := cs.length + q) (by rw [cx_ns]; exact hq) hj hj2 hd (fun H1 locs1 h1 h2 => ?_)
  rw [cx_nset] at h1
  exact kk H1 locs1 h1 h2
theorem ck_new (B : bB D cT mi p s m args meth c) (hH : bH D z (cx cs i ci fs ns) H) (hS : va_S (bA z) s.heap H locs) {C : String} {T : u_T} {N cj index o : Nat} {ty : Nat → FieldType} (hc : vwCl[cj]? = some (C, T, N)) (hin : ∀ w ∈ u_ws C T N, w ∈ am_tb) (hty : ∀ k, k < N → parseFieldDescriptor (T k).2.2.1 = some (ty k)) (hcl : Cond.classLink mi.1.cls index C ∈ lw_tbl) (hinst : Cond.instantiable C N ∈ lw_tbl) (hini : Cond.initialized C ∈ lw_tbl)
    {gs : List Value} (hfs : ∀ j, j < N → defaultValue (ty j) = vp_V gs j) (hd : decode mi.2.1 pc = .ok (.new index, 3)) (hcl2 : cells + 1 ≤ R.cells) (hs : slots + N ≤ R.slots) (ho : ns.length = o)
    (kk : ∀ H1, bH D z (cx cs i ci fs (ns ++ [.inr (cj, gs)])) H1 → va_S (bA z) s.heap H1 locs → W p l e R s m args below meth c H1 locs (cells + 1) (slots + N) Q (F0 m (pc + 3) ls (.ref (z + cs.length + o) :: rest))) : W p l e R s m args below meth c H locs cells slots Q (F0 m pc ls rest) := by
  refine bk_new B hH hS hc hin hty hcl hinst hini hfs hd hcl2 hs (fun H1 h1 h2 => ?_)
  rw [cx_app] at h1
  rw [cx_len, ho, ← Nat.add_assoc]
  exact kk H1 h1 h2
theorem ck_call (B : bB D cT mi p s m args meth c) (hH : bH D z (cx cs i ci fs ns) H) (hS : va_S (bA z) s.heap H locs) {mc : am_Me} {dc idx n kc ks q cj : Nat} {gs : List Value} {es : List va_E} {As : List Value} {st0 : List Value} (hC : ct_I D cT l dc mc (.ref (z + (cs.length + q)) :: As) z (cx cs i ci fs ns) (cx (cx cs i ci fs ns) (cs.length + q) cj gs es) kc ks) (hdd : dc + 1 ≤ R.frames) (hll : 64 * (dc + 1) ≤ R.locals) (hlk : Cond.methodLink mi.1.cls idx mc.1 ∈ lw_tbl ∨ ∃ host, Cond.methodLinkNest mi.1.cls idx mc.1 host ∈ lw_tbl) (hm : am_cm mc n) (hins : Cond.instanceMethod mc.1 ∈ lw_tbl) (hnm : mc.1.name = "<init>") (hret : mc.2.2.2 = none) (hn : As.length = n) (hst : st0 = As.reverse ++ .ref (z + cs.length + q) :: rest) (hrs : (rest.map fun v => v.category).sum ≤ 8) (hl : ls.size = mi.2.2.1) (hc : cells + kc ≤ R.cells) (hs : slots + ks ≤ R.slots) (hd : decode mi.2.1 pc = .ok (.invokespecial idx, 3))
    (kk : ∀ H1 locs1, bH D z (cx cs i ci fs (ns.set q (.inr (cj, gs)) ++ es)) H1 → va_S (bA z) s.heap H1 locs1 → W p l e R s m args below meth c H1 locs1 (cells + kc) (slots + ks) Q (F0 m (pc + 3) ls rest)) : W p l e R s m args below meth c H locs cells slots Q (F0 m pc ls st0) := by
  rw [Nat.add_assoc z] at hst
  refine bk_call B hH hS hC hdd hll hlk hm hins hnm hret hn hst hrs hl hc hs hd (fun H1 locs1 h1 h2 => kk H1 locs1 ?_ h2)
  have e : cx (cx cs i ci fs ns) (cs.length + q) cj gs es = cx cs i ci fs (ns.set q (.inr (cj, gs)) ++ es) := by
    show (cx cs i ci fs ns).set (cs.length + q) (.inr (cj, gs)) ++ es = _
    rw [cx_nset, cx_app]
  rw [e] at h1
  exact h1
end CKW
