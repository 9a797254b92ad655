/-! two dimensions at once: an instruction that the kit has no row for -/
def mq_top (cA : ClassId) (n o i : Nat) : Cell := arrV cA n (fun j => if j < i then .ref (o + 1 + j) else .null)
theorem mq_step (cA : ClassId) (n o i : Nat) : (mq_top cA n o i).setSlot i (.ref (o + 1 + i)) = mq_top cA n o (i + 1) := by
  unfold mq_top
  rw [arrV_store]
  congr 1
  funext j
  unfold updV
  by_cases h : j = i
  · subst h
    simp
  · by_cases h2 : j < i
    · have h3 : j < i + 1 := by omega
      simp [h, h2, h3]
    · have h3 : ¬ j < i + 1 := by omega
      simp [h, h2, h3]
section MQX
variable {p : Program} {l : Launch} {e : Env} {R : Room} {s : State} {m : MethodId} {args : Array Value} {below : List Frame} {meth : Method} {c : Code} {locs : List Loc} {cells slots : Nat}
/-- the loop that fills an array of rows -/
def mq_I (p : Program) (l : Launch) (e : Env) (R : Room) (s : State) (m : MethodId) (args : Array Value) (below : List Frame) (meth : Method) (c : Code) (locs : List Loc) (cells slots : Nat) (U : State) (g : JFrame) (cA cB : ClassId) (ty : FieldType) (n k : Nat) (rest : List Nat) (s' : State) : Prop :=
  ∃ (i : Nat) (V : State) (L : List Loc), i ≤ n ∧ rest = List.range' i (n - i) ∧ s' = V.setTop g ∧ Stand p l e R s m args below meth c V (locs ++ L) (cells + 1 + i) (slots + n + i * k) ∧ (∀ z ∈ L, z.base = U.heap.size) ∧ V.vm = U.vm ∧ V.heap.size = U.heap.size + 1 + i ∧ V.heap[U.heap.size]? = some (mq_top cA n U.heap.size i) ∧ (∀ j, j < i → V.heap[U.heap.size + 1 + j]? = some (arrV cB k (fun _ => defaultValue ty))) ∧ ∀ q, q < U.heap.size → V.heap[q]? = U.heap[q]?
theorem mq_ref {t : FieldType} (v : Value) (hv : v = .null ∨ ∃ a, v = .ref a) : fits (.array t) v = true := by
  rcases hv with rfl | ⟨a, rfl⟩ <;> rfl
theorem mq_one {E : CtlPost} {d : Bool} {acts : List Action} {V : State} {cB cc : ClassId} {kB : Class} {ty : FieldType} {k : Int32} (hkB : V.vm.classes[cB]? = some kB) (hB : kB.kind = .array cc ty) (hk : ¬ k < 0)
    (h1 : ¬ k.toNatClampNeg > e.platform.arrayLengthLimit) (h2 : ¬ k.toNatClampNeg * componentBytes ty > e.platform.maxHeapBytes) (h3 : V.heap.size < e.platform.maxCells) (h4 : V.slotsUsed + k.toNatClampNeg ≤ e.platform.maxSlots) (hdf : fits ty (defaultValue ty) = true)
    {Q : Addr → Pre} (hq : ∀ acts', Q V.heap.size d acts' (V.pushCell (arrV cB k.toNatClampNeg (fun _ => defaultValue ty)))) : wp (multianewarray.make cB [k]) Q E e d acts V := by
  rw [multianewarray.make]
  simp only [wp_bind', W.ite, hk, if_false, wp_pure', W.theClass, hkB, hB, Option.some.injEq, exists_eq_left']
  exact W.newArray_of hkB hB h1 h2 h3 h4 hdf (fun acts' => by rw [arrV_new]; exact hq acts')
set_option maxHeartbeats 1000000 in
theorem mq_make {E : CtlPost} {d : Bool} {acts : List Action} {U : State} {g : JFrame} (X : Stand p l e R s m args below meth c U locs cells slots) {cA cB cc : ClassId} {kA kB : Class} {ty : FieldType} {n k : Int32}
    (hkA : U.vm.classes[cA]? = some kA) (hA : kA.kind = .array cB (.array ty)) (hkB : U.vm.classes[cB]? = some kB) (hB : kB.kind = .array cc ty) (hn : ¬ n < 0) (hk : ¬ k < 0)
    (hl1 : ¬ n.toNatClampNeg > e.platform.arrayLengthLimit) (hh1 : ¬ n.toNatClampNeg * componentBytes (.array ty) > e.platform.maxHeapBytes) (hl2 : ¬ k.toNatClampNeg > e.platform.arrayLengthLimit) (hh2 : ¬ k.toNatClampNeg * componentBytes ty > e.platform.maxHeapBytes) (hdf : fits ty (defaultValue ty) = true)
    (hcells : cells + (1 + n.toNatClampNeg) ≤ R.cells) (hslots : slots + (n.toNatClampNeg + n.toNatClampNeg * k.toNatClampNeg) ≤ R.slots) {Q : Addr → Pre}
    (hq : ∀ d' acts' V, mq_I p l e R s m args below meth c locs cells slots U g cA cB ty n.toNatClampNeg k.toNatClampNeg [] V → Q U.heap.size d' acts' V) : wp (multianewarray.make cA [n, k]) Q E e d acts (U.setTop g) := by
  have hfind : ([k].find? (· < 0)) = none := by simp [hk]
  obtain ⟨hr1, hr2⟩ := X.roomAbove hcells hslots
  rw [multianewarray.make]
  have hkA' : (U.setTop g).vm.classes[cA]? = some kA := hkA
  simp only [wp_bind', W.ite, hn, if_false, wp_pure', W.theClass, hkA', hA, Option.some.injEq, exists_eq_left']
  refine W.newArray_of hkA' hA hl1 hh1 (by show U.heap.size < _; omega) (by show U.slotsUsed + _ ≤ _; omega) (mq_ref _ (Or.inl rfl)) (fun acts1 => ?_)
  simp only [hfind]
  rw [ite_self, wp_bind', Std.Legacy.Range.forIn_eq_forIn_range']
  have hsz : ([:n.toNatClampNeg] : Std.Legacy.Range).size = n.toNatClampNeg := by simp [Std.Legacy.Range.size]
  rw [hsz]
  show wp (forIn (List.range' 0 n.toNatClampNeg 1) PUnit.unit _) _ E e d acts1 _
  have hN : ∀ i, i ≤ n.toNatClampNeg → i * k.toNatClampNeg ≤ n.toNatClampNeg * k.toNatClampNeg := fun i hi => Nat.mul_le_mul_right _ hi
  refine wp_forIn_inv (mq_I p l e R s m args below meth c locs cells slots U g cA cB ty n.toNatClampNeg k.toNatClampNeg) _ _ ?_ ?_ ?_
  · refine ⟨0, U.pushCell { cls := cA, slots := Array.replicate n.toNatClampNeg .null, vm := .none }, [], Nat.zero_le _, rfl, rfl, ?_, (fun z hz => by cases hz), rfl, by simp, ?_, (fun j hj => by omega), fun q hq => State.heap_pushCell_of_lt _ _ hq⟩
    · have h := X.pushed { cls := cA, slots := Array.replicate n.toNatClampNeg .null, vm := .none }
      simpa using h
    · rw [State.heap_pushCell_size, arrV_new]
      unfold mq_top
      simp
  · rintro x rest s' d' acts' Q' ⟨i, V, L, hi, hl, rfl, XV, hL, hvm, hsz', htop, hrow, hold⟩ hnext
    have hlt : i < n.toNatClampNeg := by
      rcases Nat.lt_or_ge i n.toNatClampNeg with h | h
      · exact h
      · rw [show n.toNatClampNeg - i = 0 by omega] at hl
        simp at hl
    rw [show n.toNatClampNeg - i = (n.toNatClampNeg - (i + 1)) + 1 by omega, List.range'_succ] at hl
    obtain ⟨rfl, hrest⟩ : x = i ∧ rest = List.range' (i + 1) (n.toNatClampNeg - (i + 1)) := ⟨(List.cons.inj hl).1, (List.cons.inj hl).2⟩
    have hm := hN (x + 1) hlt
    rw [Nat.succ_mul] at hm
    obtain ⟨q1, q2⟩ := XV.roomAbove (a := 1) (b := k.toNatClampNeg) (by omega) (by omega)
    simp only [wp_bind']
    refine mq_one (V := V.setTop g) (by show V.vm.classes[cB]? = _; rw [hvm]; exact hkB) hB hk hl2 hh2 (by show V.heap.size < _; omega) (by show V.slotsUsed + _ ≤ _; exact q2) hdf (fun acts2 => ?_)
    have hlt0 : U.heap.size < V.heap.size := by omega
    have hc0 : (V.pushCell (arrV cB k.toNatClampNeg (fun _ => defaultValue ty))).heap[U.heap.size]? = some (mq_top cA n.toNatClampNeg U.heap.size x) := by
      rw [State.heap_pushCell_of_lt (h := hlt0)]
      exact htop
    simp only [wp_bind', W.writeLoc, wp_pure']
    refine ⟨mq_top cA n.toNatClampNeg U.heap.size x, hc0, by simp [mq_top, arrV], by show _ < (arrV _ _ _).slots.size; rw [arrV_size]; exact hlt, ?_, hnext _ _ _ ⟨x + 1, (V.pushCell (arrV cB k.toNatClampNeg (fun _ => defaultValue ty))).setCell U.heap.size ((mq_top cA n.toNatClampNeg U.heap.size x).setSlot x (.ref (U.heap.size + 1 + x))), L ++ [⟨U.heap.size, x⟩], hlt, hrest, ?_, ?_, ?_, ?_, ?_, ?_, fun j hj => ?_, fun q hq => ?_⟩⟩
    · show State.fitsSlot _ (mq_top cA n.toNatClampNeg U.heap.size x).cls (mq_top cA n.toNatClampNeg U.heap.size x).vm x _ = true
      have hcls : V.vm.classes[cA]? = some kA := by
        rw [hvm]
        exact hkA
      simp [State.fitsSlot, State.slotType?, mq_top, arrV, hcls, hA, mq_ref _ (Or.inr ⟨_, rfl⟩)]
    · show ((V.pushCell (arrV cB k.toNatClampNeg (fun _ => defaultValue ty))).setCell U.heap.size ((mq_top cA n.toNatClampNeg U.heap.size x).setSlot x (.ref V.heap.size))).setTop g = _
      rw [hsz']
    · have h := (XV.pushed (arrV cB k.toNatClampNeg (fun _ => defaultValue ty))).stored hc0 x (.ref (U.heap.size + 1 + x))
      rw [arrV_size] at h
      rw [List.append_assoc] at h
      have e1 : slots + n.toNatClampNeg + (x + 1) * k.toNatClampNeg = slots + n.toNatClampNeg + x * k.toNatClampNeg + k.toNatClampNeg := by rw [Nat.succ_mul]; omega
      rw [e1]
      exact h
    · intro z hz
      rcases List.mem_append.mp hz with h | h
      · exact hL z h
      · rw [List.mem_singleton.mp h]
    · show V.vm = U.vm
      exact hvm
    · simp [State.setCell, hsz']
      omega
    · rw [mq_step]
      exact State.heap_setCell_self hc0
    · rw [State.heap_setCell_other (show U.heap.size ≠ U.heap.size + 1 + j by omega)]
      by_cases hj2 : j < x
      · rw [State.heap_pushCell_of_lt (h := show U.heap.size + 1 + j < V.heap.size by omega)]
        exact hrow j hj2
      · have : U.heap.size + 1 + j = V.heap.size := by omega
        rw [this]
        exact State.heap_pushCell_size _ _
    · rw [State.heap_setCell_other (show U.heap.size ≠ q by omega), State.heap_pushCell_of_lt (h := show q < V.heap.size by omega)]
      exact hold q hq
  · rintro s' d' acts' hI
    simp only [wp_pure']
    exact hq _ _ _ hI
end MQX
