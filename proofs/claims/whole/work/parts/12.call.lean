theorem am_goodIn {mc : am_Me} (h : Cond.code mc.1 mc.2.1 mc.2.2.1 mc.2.2.2 ∈ lw_tbl) : GoodIn am_tb (am_ws mc) := by
  intro w hw
  rcases List.mem_cons.mp hw with rfl | hw
  · exact ⟨am_g h rfl, good_of_word rfl⟩
  · exact ⟨hw, good_of_word (List.mem_filter.mp hw).2⟩
/-- a method that is called: its code, class, how many arguments -/
def am_cm (mc : am_Me) (n : Nat) : Prop := Cond.code mc.1 mc.2.1 mc.2.2.1 mc.2.2.2 ∈ lw_tbl ∧ Cond.initialized mc.1.cls ∈ lw_tbl ∧ (mc.1.cls ≠ "java/lang/invoke/MethodHandle" ∧ mc.1.cls ≠ "java/lang/invoke/VarHandle" ∧ (parseMethodDescriptor mc.1.desc).map (fun d => d.parameters.length) = some n) ∧ mc.2.2.1 ≤ 40 ∧ plainName mc.1.cls = true
def am_vm (mc : am_Me) (n k ci : Nat) (fs : List (Option Nat)) : Prop := am_cm mc n ∧ Cond.instanceMethod mc.1 ∈ lw_tbl ∧ Cond.selects mc.1.cls mc.1 mc.1 ∈ lw_tbl ∧ ((k, 0, ci, 1, fs) : am_Q) ∈ am_ly ∧ ∃ (T : u_T) (N : Nat), vwCl[ci]? = some (mc.1.cls, T, N)
def am_sm (mc : am_Me) (n : Nat) : Prop := am_cm mc n ∧ Cond.static mc.1 ∈ lw_tbl
theorem am_blind {G : am_G} {μ : am_M} {As : List Value} : FrameBlind (va_Pc As (fun U => am_W G μ U.heap ∧ am_S G U U.heap)) := by
  intro a U g mk q
  obtain ⟨q0, q1, q2⟩ := q
  exact ⟨q0, q1, am_S.moved (u := U) (U := U.calling g mk a) (State.WarmedH.refl U) q2⟩
section SMC
variable {α : Type} {G : am_G} {l : Launch} {cv : α → Option Value} {d : Nat} {mi : am_Me} {pc : Nat} {lv : List (Nat × Value)} {st : List Value} {μ : am_M} {o : Option (α × am_M)}
set_option maxHeartbeats 1000000 in
theorem sm_call {β : Type} {cvb : β → Option Value} {f : Option (β × am_M)} {kk : β → am_M → Option (α × am_M)} {st0 rest : List Value} {As : Array Value}
    (hrun : ∀ (b : β) (μ' : am_M), f = some (b, μ') → ∀ (p : Program) (e : Env) (R : Room) (s : State) (m : MethodId) (args : Array Value) (below : List Frame) (meth : Method) (c : Code) (H : Heap) (locs : List Loc) (cells slots : Nat) (ls : Array Slot), d ≤ R.frames → 64 * d ≤ R.locals → cells ≤ R.cells → slots ≤ R.slots → am_B G mi p s m args meth c → am_W G μ H → va_S (am_A G) s.heap H locs → lv_has ls mi.2.2.1 lv → va_Run p l e R s m args below meth c H locs cells slots 0 0 (F0 m pc ls st0) rest (am_Qc G cvb b μ' As) (am_A G))
    (k : ∀ (b : β) (μ' : am_M), sm_P G l cv d mi (pc + 3) lv ((cvb b).toList ++ rest) μ' (kk b μ')) : sm_P G l cv d mi pc lv st0 μ (am_bd f kk) := by
  intro a μ1 ho p e R s m args below meth c H locs cells slots ls h1 h2 h3 h4 B hW hS hl
  cases hf : f with
  | none => rw [hf] at ho; cases ho
  | some x =>
    obtain ⟨b, μ'⟩ := x
    rw [hf] at ho
    have ho : kk b μ' = some (a, μ1) := ho
    intro T hT X
    obtain ⟨v, st₀, t, T', L, h0, X', hL, e1, e2, ⟨hv, hq, hF⟩, stp⟩ := hrun b μ' hf p e R s m args below meth c H locs cells slots ls h1 h2 h3 h4 B hW hS hl T hT X
    cases hv
    rw [← e1] at hq
    have hS' : va_S (am_A G) s.heap T'.heap (locs ++ L) := by
      obtain ⟨f1, f2⟩ := hF
      rw [h0] at f1 f2
      refine ⟨Nat.le_trans hS.1 (by rw [e1]; exact f1), fun q hq1 hq2 => ?_, fun z hz => ?_⟩
      · rw [e1, f2 q (Nat.lt_of_lt_of_le hq1 hS.1) hq2]
        exact hS.2.1 q hq1 hq2
      · rcases List.mem_append.mp hz with hz | hz
        · exact hS.2.2 z hz
        · exact hL z hz
    obtain ⟨t2, a1, b1⟩ := k b μ' a μ1 ho p e R s m args below meth c T'.heap (locs ++ L) (cells + 0) (slots + 0) ls h1 h2 h3 h4 B hq hS' hl T' rfl X'
    exact ⟨t2, stp t2 a1, b1⟩
set_option maxHeartbeats 1000000 in
theorem sm_callV {β : Type} {cvb : β → Option Value} {mc : am_Me} {dc idx k ci n : Nat} {fs : List (Option Nat)} {As rest st0 : List Value} {f : Option (β × am_M)} {kk : β → am_M → Option (α × am_M)}
    (hd : decode mi.2.1 pc = .ok (.invokevirtual idx, 3)) (hC : ct_P G l cvb dc mc (.ref (am_ad G k 0) :: As) μ f) (hdd : dc + 1 ≤ d) (hlk : Cond.methodLink mi.1.cls idx mc.1 ∈ lw_tbl) (hm : am_vm mc n k ci fs) (hn : As.length = n) (hst : st0 = As.reverse ++ .ref (am_ad G k 0) :: rest) (hrs : (rest.map fun v => v.category).sum ≤ 8)
    (k1 : ∀ (b : β) (μ' : am_M), sm_P G l cv d mi (pc + 3) lv ((cvb b).toList ++ rest) μ' (kk b μ')) : sm_P G l cv d mi pc lv st0 μ (am_bd f kk) := by
  subst hst
  refine sm_call (As := (Value.ref (am_ad G k 0) :: As).toArray) (cvb := cvb) (rest := rest) (fun b μ' hf p e R s m args below meth c H locs cells slots ls h1 h2 h3 h4 B hW hS hl => ?_) k1
  obtain ⟨⟨hcode, hini, hcn, hml, hpl⟩, hins, hsel, hq, T, N, hcl⟩ := hm
  obtain ⟨i, hi⟩ := am_at hq (r := 0) Nat.zero_lt_one
  have hts := B.2.2.2.2.2.1
  refine va_runV (As := As) (rest := rest) (n := n) ⟨B.1, B.2.1, B.2.2.1, B.2.2.2.2.1, hts⟩ (hC b μ' hf dc (Nat.le_refl _)) ⟨callB_of n hts (am_goodIn hcode) rfl rfl rfl (hts _ (am_g hini rfl)) (hts _ (am_g hlk rfl)) hcn ⟨Nat.le_trans hdd h1, ?_⟩, hts _ (am_g hins rfl), hts _ (am_g hsel rfl)⟩ ⟨am_blind, va_recv B.2.2.2.2.2.2.2.2.1 hW hcl (am_wat hi), fun U hU hU2 => ⟨rfl, by rw [hU]; exact hW, ?_⟩⟩ rfl hn hl.1 rfl (lv_room hrs) hd ⟨h3, h4⟩
  · show 8 + (mc.2.2.1 + 11) + 64 * dc ≤ R.locals
    omega
  · rw [hU]
    exact am_S.moved hU2 (am_S.kept B.2.2.2.2.2.2.2 hS.1 hS.2.1)
set_option maxHeartbeats 1000000 in
theorem sm_callS {β : Type} {cvb : β → Option Value} {mc : am_Me} {dc idx n : Nat} {As rest st0 : List Value} {f : Option (β × am_M)} {kk : β → am_M → Option (α × am_M)}
    (hd : decode mi.2.1 pc = .ok (.invokestatic idx, 3)) (hC : ct_P G l cvb dc mc As μ f) (hdd : dc + 1 ≤ d) (hlk : Cond.methodLink mi.1.cls idx mc.1 ∈ lw_tbl) (hm : am_sm mc n) (hn : As.length = n) (hst : st0 = As.reverse ++ rest) (hrs : (rest.map fun v => v.category).sum ≤ 8)
    (k1 : ∀ (b : β) (μ' : am_M), sm_P G l cv d mi (pc + 3) lv ((cvb b).toList ++ rest) μ' (kk b μ')) : sm_P G l cv d mi pc lv st0 μ (am_bd f kk) := by
  subst hst
  refine sm_call (As := As.toArray) (cvb := cvb) (rest := rest) (fun b μ' hf p e R s m args below meth c H locs cells slots ls h1 h2 h3 h4 B hW hS hl => ?_) k1
  obtain ⟨⟨hcode, hini, hcn, hml, hpl⟩, hsta⟩ := hm
  have hts := B.2.2.2.2.2.1
  refine va_runS (As := As) (rest := rest) (n := n) ⟨B.1, B.2.1, B.2.2.1, B.2.2.2.2.1, hts⟩ (hC b μ' hf dc (Nat.le_refl _)) ⟨callB_of n hts (am_goodIn hcode) rfl rfl rfl (hts _ (am_g hini rfl)) (hts _ (am_g hlk rfl)) hcn ⟨Nat.le_trans hdd h1, ?_⟩, hts _ (am_g hsta rfl)⟩ ⟨am_blind, fun U hU hU2 => ⟨rfl, by rw [hU]; exact hW, ?_⟩⟩ rfl hn hl.1 rfl (lv_room hrs) hd ⟨h3, h4⟩
  · show 8 + (mc.2.2.1 + 11) + 64 * dc ≤ R.locals
    omega
  · rw [hU]
    exact am_S.moved hU2 (am_S.kept B.2.2.2.2.2.2.2 hS.1 hS.2.1)
set_option maxHeartbeats 1000000 in
theorem sm_callN {β : Type} {cvb : β → Option Value} {mc : am_Me} {dc idx n : Nat} {host : String} {As rest st0 : List Value} {f : Option (β × am_M)} {kk : β → am_M → Option (α × am_M)}
    (hd : decode mi.2.1 pc = .ok (.invokestatic idx, 3)) (hC : ct_P G l cvb dc mc As μ f) (hdd : dc + 1 ≤ d) (hlk : Cond.methodLinkNest mi.1.cls idx mc.1 host ∈ lw_tbl) (hm : am_sm mc n) (hn : As.length = n) (hst : st0 = As.reverse ++ rest) (hrs : (rest.map fun v => v.category).sum ≤ 8)
    (k1 : ∀ (b : β) (μ' : am_M), sm_P G l cv d mi (pc + 3) lv ((cvb b).toList ++ rest) μ' (kk b μ')) : sm_P G l cv d mi pc lv st0 μ (am_bd f kk) := by
  subst hst
  refine sm_call (As := As.toArray) (cvb := cvb) (rest := rest) (fun b μ' hf p e R s m args below meth c H locs cells slots ls h1 h2 h3 h4 B hW hS hl => ?_) k1
  obtain ⟨⟨hcode, hini, hcn, hml, hpl⟩, hsta⟩ := hm
  have hts := B.2.2.2.2.2.1
  refine va_runSN (As := As) (rest := rest) (n := n) ⟨B.1, B.2.1, B.2.2.1, B.2.2.2.2.1, hts⟩ (hC b μ' hf dc (Nat.le_refl _)) ⟨va_cnB n hts (am_goodIn hcode) rfl rfl rfl (B.2.2.2.2.2.2.2.2.2.2.2.2.2 _ _ _ _ hlk) (hts _ (am_g hini rfl)) hcn ⟨Nat.le_trans hdd h1, ?_⟩, hts _ (am_g hsta rfl), trivial⟩ ⟨am_blind, fun U hU hU2 => ⟨rfl, by rw [hU]; exact hW, ?_⟩⟩ rfl hn hl.1 rfl (lv_room hrs) hd ⟨h3, h4⟩
  · show 8 + (mc.2.2.1 + 11) + 64 * dc ≤ R.locals
    omega
  · rw [hU]
    exact am_S.moved hU2 (am_S.kept B.2.2.2.2.2.2.2 hS.1 hS.2.1)
end SMC
