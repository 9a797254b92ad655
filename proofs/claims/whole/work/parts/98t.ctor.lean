/-! constructors: contracts over blocks -/
theorem arrV_ext (cA : ClassId) (n : Nat) {f g : Nat → Value} (h : ∀ j, j < n → f j = g j) : arrV cA n f = arrV cA n g := by
  unfold arrV
  congr 1
  congr 1
  funext j
  exact h j.val j.isLt
theorem bH.app {D : va_G} {z : Nat} {cs es : List va_E} {H H1 : Heap} (h : bH D z cs H) (h1 : H1.size = H.size + es.length) (h2 : ∀ q, q < H.size → H1[q]? = H[q]?) (h3 : ∀ j e, es[j]? = some e → va_at D vwCl (H.size + j, e) H1) : bH D z (cs ++ es) H1 := by
  refine ⟨by rw [h1, h.1, List.length_append]; omega, fun i x hx => ?_⟩
  by_cases hi : i < cs.length
  · rw [List.getElem?_append_left hi] at hx
    exact (h.2 i x hx).kept (h2 _ (by rw [h.1]; show z + i < _; omega))
  · rw [List.getElem?_append_right (by omega)] at hx
    have := h3 _ _ hx
    rw [show H.size + (i - cs.length) = z + i by rw [h.1]; omega] at this
    exact this
abbrev be_i (cT : Nat → ClassId) (k : Nat) : va_E := .inl (cT 1, (k, .inl (fun _ => 0)))
abbrev be_l (cT : Nat → ClassId) (k : Nat) : va_E := .inl (cT 2, (k, .inr (.inl (fun _ => 0))))
abbrev be_q (cT : Nat → ClassId) (t n a : Nat) : va_E := .inl (cT t, (n, .inr (.inr (.inr (.inr (fun j => some (a + j)))))))
def ct_I (D : va_G) (cT : Nat → ClassId) (l : Launch) (d : Nat) (mi : am_Me) (As : List Value) (z : Nat) (cs cs' : List va_E) (kc ks : Nat) : Prop :=
  ∀ d', d ≤ d' → Met l mi.1 (am_ws mi) ({ frames := d', cells := kc, slots := ks, locals := 64 * d' } : Room) (va_Pc As (fun U => bH D z cs U.heap ∧ va_K D vwCl (bty cT) U ∧ am_N U ∧ bM cT U)) (fun _ st oc t => oc = .returned none ∧ bH D z cs' t.heap ∧ va_F (bA z) st t) kc ks (bA z)
section CTR
variable {p : Program} {l : Launch} {e : Env} {R : Room} {s : State} {m : MethodId} {args : Array Value} {below : List Frame} {meth : Method} {c : Code} {H : Heap} {locs : List Loc} {cells slots : Nat} {Q : State → Prop}
variable {D : va_G} {cT : Nat → ClassId} {mi : am_Me} {z pc : Nat} {ls : Array Slot} {rest : List Value} {cs : List va_E}
theorem bk_mi (B : bB D cT mi p s m args meth c) (hH : bH D z cs H) (hS : va_S (bA z) s.heap H locs) {index n' k' : Nat} {n k : Int32} (hcl : Cond.classLink mi.1.cls index "[[I" ∈ lw_tbl) (hw : Cond.arrayClass .int ∈ lw_tbl) (hd : decode mi.2.1 pc = .ok (.multianewarray index 2, 4)) (hn : ¬ n < 0) (hk : ¬ k < 0) (hn' : n.toNatClampNeg = n') (hk' : k.toNatClampNeg = k') (hb1 : n' ≤ 1000) (hb2 : k' ≤ 1000) (hc : cells + (1 + n') ≤ R.cells) (hs : slots + (n' + n' * k') ≤ R.slots)
    (kk : ∀ H1 locs1, bH D z (cs ++ (be_q cT 3 n' (z + cs.length + 1) :: List.replicate n' (be_i cT k'))) H1 → va_S (bA z) s.heap H1 locs1 → W p l e R s m args below meth c H1 locs1 (cells + 1 + n') (slots + n' + n' * k') Q (F0 m (pc + 4) ls (.ref (z + cs.length) :: rest))) : W p l e R s m args below meth c H locs cells slots Q (F0 m pc ls (.int k :: .int n :: rest)) := by
  subst hn'
  subst hk'
  have hts := B.2.2.2.2.2.1
  obtain ⟨kA, m1, m2⟩ := B.2.2.2.2.2.2.2.2.2.1
  refine mq_W (ty := .int) B.1 B.2.1 B.2.2.2.2.1 (hts _ (am_g hcl rfl)) (bK1 B.2.2.2.2.2.2.2.1) m1 m2 (bK3 B.2.2.2.2.2.2.2.1) (hts _ (am_g hw rfl)) hd hn hk (by omega) (by show k.toNatClampNeg * 4 ≤ _; omega) (by omega) rfl hc hs (fun H1 L hL h1 h2 h3 h4 => ?_)
  rw [hH.1]
  refine kk H1 (locs ++ L) (hH.app ?_ h4 (fun j x hx => ?_)) ⟨Nat.le_trans hS.1 (by rw [h1]; omega), fun q q1 q2 => (h4 q (Nat.lt_of_lt_of_le q1 hS.1)).trans (hS.2.1 q q1 q2), fun w hw' => ?_⟩
  · rw [h1, List.length_cons, List.length_replicate]; omega
  · cases j with
    | zero =>
      cases hx
      show H1[H.size]? = some (vp_cell _ _)
      rw [h2, vp_cell_q]
      unfold mq_top
      congr 1
      refine arrV_ext _ _ (fun j hj => ?_)
      rw [if_pos hj, hH.1]
      rfl
    | succ j =>
      rw [List.getElem?_cons_succ, List.getElem?_replicate] at hx
      by_cases hj : j < n.toNatClampNeg
      · rw [if_pos hj] at hx
        cases hx
        show H1[H.size + (j + 1)]? = some (vp_cell _ _)
        rw [show H.size + (j + 1) = H.size + 1 + j by omega, h3 j hj]
        rfl
      · rw [if_neg hj] at hx; cases hx
  · rcases List.mem_append.mp hw' with q | q
    · exact hS.2.2 w q
    · show z ≤ w.base
      rw [hL w q, hH.1]
      omega
theorem bk_ml (B : bB D cT mi p s m args meth c) (hH : bH D z cs H) (hS : va_S (bA z) s.heap H locs) {index n' k' : Nat} {n k : Int32} (hcl : Cond.classLink mi.1.cls index "[[J" ∈ lw_tbl) (hw : Cond.arrayClass .long ∈ lw_tbl) (hd : decode mi.2.1 pc = .ok (.multianewarray index 2, 4)) (hn : ¬ n < 0) (hk : ¬ k < 0) (hn' : n.toNatClampNeg = n') (hk' : k.toNatClampNeg = k') (hb1 : n' ≤ 1000) (hb2 : k' ≤ 1000) (hc : cells + (1 + n') ≤ R.cells) (hs : slots + (n' + n' * k') ≤ R.slots)
    (kk : ∀ H1 locs1, bH D z (cs ++ (be_q cT 4 n' (z + cs.length + 1) :: List.replicate n' (be_l cT k'))) H1 → va_S (bA z) s.heap H1 locs1 → W p l e R s m args below meth c H1 locs1 (cells + 1 + n') (slots + n' + n' * k') Q (F0 m (pc + 4) ls (.ref (z + cs.length) :: rest))) : W p l e R s m args below meth c H locs cells slots Q (F0 m pc ls (.int k :: .int n :: rest)) := by
  subst hn'
  subst hk'
  have hts := B.2.2.2.2.2.1
  obtain ⟨kA, m1, m2⟩ := B.2.2.2.2.2.2.2.2.2.2
  refine mq_W (ty := .long) B.1 B.2.1 B.2.2.2.2.1 (hts _ (am_g hcl rfl)) (bK2 B.2.2.2.2.2.2.2.1) m1 m2 (bK4 B.2.2.2.2.2.2.2.1) (hts _ (am_g hw rfl)) hd hn hk (by omega) (by show k.toNatClampNeg * 8 ≤ _; omega) (by omega) rfl hc hs (fun H1 L hL h1 h2 h3 h4 => ?_)
  rw [hH.1]
  refine kk H1 (locs ++ L) (hH.app ?_ h4 (fun j x hx => ?_)) ⟨Nat.le_trans hS.1 (by rw [h1]; omega), fun q q1 q2 => (h4 q (Nat.lt_of_lt_of_le q1 hS.1)).trans (hS.2.1 q q1 q2), fun w hw' => ?_⟩
  · rw [h1, List.length_cons, List.length_replicate]; omega
  · cases j with
    | zero =>
      cases hx
      show H1[H.size]? = some (vp_cell _ _)
      rw [h2, vp_cell_q]
      unfold mq_top
      congr 1
      refine arrV_ext _ _ (fun j hj => ?_)
      rw [if_pos hj, hH.1]
      rfl
    | succ j =>
      rw [List.getElem?_cons_succ, List.getElem?_replicate] at hx
      by_cases hj : j < n.toNatClampNeg
      · rw [if_pos hj] at hx
        cases hx
        show H1[H.size + (j + 1)]? = some (vp_cell _ _)
        rw [show H.size + (j + 1) = H.size + 1 + j by omega, h3 j hj]
        rfl
      · rw [if_neg hj] at hx; cases hx
  · rcases List.mem_append.mp hw' with q | q
    · exact hS.2.2 w q
    · show z ≤ w.base
      rw [hL w q, hH.1]
      omega
theorem bN.moved {U : State} (hW : s.WarmedH U.vm) (h : am_N s) : am_N U := fun own i x q hz => va_Nw.warmM hW (h own i x q hz)
theorem bk_blind {As : List Value} : FrameBlind (va_Pc As (fun U => bH D z cs U.heap ∧ va_K D vwCl (bty cT) U ∧ am_N U ∧ bM cT U)) := by
  intro a U g mk q
  obtain ⟨q0, q1, q2, q3, q4⟩ := q
  exact ⟨q0, q1, va_K.moved (u := U) (U := U.calling g mk a) (Vm.Alike.refl U.vm) q2, bN.moved (s := U) (U := U.calling g mk a) (State.WarmedH.refl U) q3, bM.moved (u := U) (U := U.calling g mk a) (Vm.Alike.refl U.vm) q4⟩
set_option maxHeartbeats 1000000 in
theorem bk_call (B : bB D cT mi p s m args meth c) (hH : bH D z cs H) (hS : va_S (bA z) s.heap H locs) {mc : am_Me} {dc idx n kc ks a : Nat} {As : List Value} {cs' : List va_E} {st0 : List Value} (hC : ct_I D cT l dc mc (.ref a :: As) z cs cs' kc ks) (hdd : dc + 1 ≤ R.frames) (hll : 64 * (dc + 1) ≤ R.locals) (hlk : Cond.methodLink mi.1.cls idx mc.1 ∈ lw_tbl ∨ ∃ host, Cond.methodLinkNest mi.1.cls idx mc.1 host ∈ lw_tbl) (hm : am_cm mc n) (hins : Cond.instanceMethod mc.1 ∈ lw_tbl) (hnm : mc.1.name = "<init>") (hret : mc.2.2.2 = none) (hn : As.length = n) (hst : st0 = As.reverse ++ .ref a :: rest) (hrs : (rest.map fun v => v.category).sum ≤ 8) (hl : ls.size = mi.2.2.1) (hc : cells + kc ≤ R.cells) (hs : slots + ks ≤ R.slots) (hd : decode mi.2.1 pc = .ok (.invokespecial idx, 3))
    (kk : ∀ H1 locs1, bH D z cs' H1 → va_S (bA z) s.heap H1 locs1 → W p l e R s m args below meth c H1 locs1 (cells + kc) (slots + ks) Q (F0 m (pc + 3) ls rest)) : W p l e R s m args below meth c H locs cells slots Q (F0 m pc ls st0) := by
  subst hst
  obtain ⟨hcode, hini, hcn, hml, hpl⟩ := hm
  have hts := B.2.2.2.2.2.1
  have hp : PreS s H (va_Pc (.ref a :: As) (fun U => bH D z cs U.heap ∧ va_K D vwCl (bty cT) U ∧ am_N U ∧ bM cT U)) (.ref a :: As) := ⟨bk_blind, fun U hU hU2 => ⟨rfl, by rw [hU]; exact hH, va_K.moved hU2.alike B.2.2.2.2.2.2.2.1, bN.moved hU2 B.2.2.2.2.2.2.2.2.1, bM.moved hU2.alike B.2.2.2.2.2.2.2.2.2⟩⟩
  obtain ⟨y, b, mx, rt⟩ := mc
  have hret : rt = none := hret
  subst hret
  have hroom : 8 + (mx + 11) + 64 * dc ≤ R.locals := by
    have hml : mx ≤ 40 := hml
    omega
  have hrun : va_Run p l e R s m args below meth c H locs cells slots kc ks (F0 m pc ls (As.reverse ++ .ref a :: rest)) rest (fun st oc t => oc = .returned none ∧ bH D z cs' t.heap ∧ va_F (bA z) st t) (bA z) := by
    rcases hlk with hlk | ⟨host, hlk⟩
    · exact va_runI (As := As) (rest := rest) (n := n) ⟨B.1, B.2.1, B.2.2.1, B.2.2.2.2.1, hts⟩ (hC dc (Nat.le_refl _)) ⟨callB_of n hts (am_goodIn hcode) rfl rfl rfl (hts _ (am_g hini rfl)) (hts _ (am_g hlk rfl)) hcn ⟨hdd, hroom⟩, hnm, hts _ (am_g hins rfl)⟩ hp rfl hn hl rfl (lv_room hrs) hd ⟨hc, hs⟩
    · exact va_runIN (As := As) (rest := rest) (n := n) (host := host) ⟨B.1, B.2.1, B.2.2.1, B.2.2.2.2.1, hts⟩ (hC dc (Nat.le_refl _)) ⟨va_cnB n hts (am_goodIn hcode) rfl rfl rfl (B.2.2.2.2.2.2.2.2.1 _ _ _ _ hlk) (hts _ (am_g hini rfl)) hcn ⟨hdd, hroom⟩, hnm, hts _ (am_g hins rfl)⟩ hp rfl hn hl rfl (lv_room hrs) hd ⟨hc, hs⟩
  intro T hT X
  obtain ⟨v, st₀, t, T', L, h0, X', hL, e1, e2, ⟨hv, hq, hF⟩, stp⟩ := hrun T hT X
  cases hv
  have hS' : va_S (bA z) s.heap T'.heap (locs ++ L) := by
    obtain ⟨f1, f2⟩ := hF
    rw [h0] at f1 f2
    refine ⟨Nat.le_trans hS.1 (by rw [e1]; exact f1), fun q hq1 hq2 => ?_, fun w hw => ?_⟩
    · rw [e1, f2 q (Nat.lt_of_lt_of_le hq1 hS.1) hq2]
      exact hS.2.1 q hq1 hq2
    · rcases List.mem_append.mp hw with hw | hw
      · exact hS.2.2 w hw
      · exact hL w hw
  obtain ⟨t2, a1, b1⟩ := kk T'.heap (locs ++ L) (by rw [e1]; exact hq) hS' T' rfl X'
  exact ⟨t2, stp t2 a1, b1⟩
theorem bk_obj (B : bB D cT mi p s m args meth c) {idx a : Nat} (hlk : Cond.methodLink mi.1.cls idx objectInit ∈ lw_tbl) (hins : Cond.instanceMethod objectInit ∈ lw_tbl) (hcode : Cond.code objectInit ⟨#[0xb1]⟩ 1 none ∈ lw_tbl) (hdd : 1 ≤ R.frames) (hll : 64 ≤ R.locals) (hl : ls.size = mi.2.2.1) (hd : decode mi.2.1 pc = .ok (.invokespecial idx, 3))
    (kk : W p l e R s m args below meth c H locs cells slots Q (F0 m (pc + 3) ls [])) : W p l e R s m args below meth c H locs cells slots Q (F0 m pc ls [.ref a]) := by
  have hts := B.2.2.2.2.2.1
  exact W.objInit B.1 B.2.1 B.2.2.2.2.1 (hts _ (am_g hlk rfl)) (hts _ (am_g hins rfl)) (hts _ (am_g hcode rfl)) rfl (by rw [B.2.2.1]; exact hl) rfl hd hdd (by show 2 * 0 + 0 + 12 ≤ _; omega) kk
theorem bk_ret (B : bB D cT mi p s m args meth c) (hH : bH D z cs H) (hS : va_S (bA z) s.heap H locs) (hret : mi.2.2.2 = none) (hd : decode mi.2.1 pc = .ok (.return_, 1)) : W p l e R s m args below meth c H locs cells slots (MQ below (fun _ st oc t => oc = .returned none ∧ bH D z cs t.heap ∧ va_F (bA z) st t) args s cells slots (bA z)) (F0 m pc ls []) :=
  W.vret B.1 B.2.1 (by rw [B.2.2.2.1]; exact hret) (fun t ht _ => ⟨rfl, by rw [ht]; exact hH, hS.F ht⟩) hS.2.2 hd B.2.2.2.2.2.2.1
theorem ci_of {d kc ks : Nat} {As : List Value} {lv : List (Nat × Value)} {cs' : List va_E} (hp : plainName mi.1.cls = true) (hn : (lg_sl As).length ≤ mi.2.2.1) (hlv : lv_args 0 As = lv) (hnm : mi.1.name = "<init>")
    (k : ∀ (p : Program) (e : Env) (R : Room) (s : State) (m : MethodId) (args : Array Value) (below : List Frame) (meth : Method) (c : Code) (ls : Array Slot), d ≤ R.frames → 64 * d ≤ R.locals → kc ≤ R.cells → ks ≤ R.slots → bB D cT mi p s m args meth c → meth.name = "<init>" → bH D z cs s.heap → lv_has ls mi.2.2.1 lv → W p l e R s m args below meth c s.heap [] 0 0 (MQ below (fun _ st oc t => oc = .returned none ∧ bH D z cs' t.heap ∧ va_F (bA z) st t) args s kc ks (bA z)) (F0 m 0 ls [])) : ct_I D cT l d mi As z cs cs' kc ks := by
  intro d' hd
  refine Met.ofW (cc := mi.2.1) (maxL := mi.2.2.1) (ret := mi.2.2.2) hp rfl ?_
  intro p e s m args below meth c s₁ B hml hv
  obtain ⟨rfl, hH, hK, hN, hM⟩ := hv
  have hts := atoms_spec (ws := am_ws mi) B.pre
  have hin : meth.name = mi.1.name := (name_of_methodNamed B.named B.method).1
  rw [lg_entry_eq]
  have hl := lv_entry As hn
  rw [hlv] at hl
  exact k p e _ s m As.toArray below meth c _ hd (Nat.mul_le_mul_left 64 hd) (Nat.le_refl _) (Nat.le_refl _) ⟨B.exec, B.bytes, hml, B.returns, findClass_of_methodNamed B.named, fun w hw => hts w (List.mem_cons_of_mem _ hw), B.notSynchronized, hK, hN, hM⟩ (hin.trans hnm) hH hl
end CTR
