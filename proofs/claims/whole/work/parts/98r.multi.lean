/-! two dimensions at once: an instruction that the kit has no row for -/
def mq_top (cA : ClassId) (n o i : Nat) : Cell := arrV cA n (fun j => if j < i then .ref (o + 1 + j) else .null)
theorem mq_step (cA : ClassId) (n o i : Nat) : (mq_top cA n o i).setSlot i (.ref (o + 1 + i)) = mq_top cA n o (i + 1) := by
  unfold mq_top
  rw [arrV_store]
  congr 1
  funext j
  unfold updV
  by_cases h : j = i
  · subst h
    simp
  · by_cases h2 : j < i
    · have h3 : j < i + 1 := by omega
      simp [h, h2, h3]
    · have h3 : ¬ j < i + 1 := by omega
      simp [h, h2, h3]
/-- the machine with the rows 0 .. i made -/
def mq_V (U : State) (cA cB : ClassId) (n k : Nat) (v : Value) : Nat → State
  | 0 => U.pushCell (mq_top cA n U.heap.size 0)
  | i + 1 => ((mq_V U cA cB n k v i).pushCell (arrV cB k (fun _ => v))).setCell U.heap.size (mq_top cA n U.heap.size (i + 1))
section MQX
variable {p : Program} {l : Launch} {e : Env} {R : Room} {s : State} {m : MethodId} {args : Array Value} {below : List Frame} {meth : Method} {c : Code} {locs : List Loc} {cells slots : Nat}
def mq_F (U V : State) (cA cB : ClassId) (n k : Nat) (v : Value) (i : Nat) : Prop := V.vm = U.vm ∧ V.heap.size = U.heap.size + 1 + i ∧ V.heap[U.heap.size]? = some (mq_top cA n U.heap.size i) ∧ (∀ j, j < i → V.heap[U.heap.size + 1 + j]? = some (arrV cB k (fun _ => v))) ∧ ∀ q, q < U.heap.size → V.heap[q]? = U.heap[q]?
theorem mq_facts (U : State) (cA cB : ClassId) (n k : Nat) (v : Value) : ∀ i, mq_F U (mq_V U cA cB n k v i) cA cB n k v i
  | 0 => ⟨rfl, by simp [mq_V], State.heap_pushCell_size _ _, fun j hj => by omega, fun q hq => State.heap_pushCell_of_lt _ _ hq⟩
  | i + 1 => by
    obtain ⟨hvm, hsz, htop, hrow, hold⟩ := mq_facts U cA cB n k v i
    have hlt0 : U.heap.size < (mq_V U cA cB n k v i).heap.size := by omega
    have hc0 : ((mq_V U cA cB n k v i).pushCell (arrV cB k (fun _ => v))).heap[U.heap.size]? = some (mq_top cA n U.heap.size i) := by
      rw [State.heap_pushCell_of_lt (h := hlt0)]
      exact htop
    refine ⟨hvm, ?_, State.heap_setCell_self hc0, fun j hj => ?_, fun q hq => ?_⟩
    · simp [mq_V, State.setCell, hsz]
      omega
    · show (((mq_V U cA cB n k v i).pushCell (arrV cB k (fun _ => v))).setCell U.heap.size _).heap[U.heap.size + 1 + j]? = _
      rw [State.heap_setCell_other (show U.heap.size ≠ U.heap.size + 1 + j by omega)]
      by_cases hj2 : j < i
      · rw [State.heap_pushCell_of_lt (h := show U.heap.size + 1 + j < (mq_V U cA cB n k v i).heap.size by omega)]
        exact hrow j hj2
      · have : U.heap.size + 1 + j = (mq_V U cA cB n k v i).heap.size := by omega
        rw [this]
        exact State.heap_pushCell_size _ _
    · show (((mq_V U cA cB n k v i).pushCell (arrV cB k (fun _ => v))).setCell U.heap.size _).heap[q]? = _
      rw [State.heap_setCell_other (show U.heap.size ≠ q by omega), State.heap_pushCell_of_lt (h := show q < (mq_V U cA cB n k v i).heap.size by omega)]
      exact hold q hq
def mq_L (o : Nat) : Nat → List Loc
  | 0 => []
  | i + 1 => mq_L o i ++ [⟨o, i⟩]
theorem mq_Lb (o : Nat) : ∀ i, ∀ z ∈ mq_L o i, z.base = o
  | 0, z, hz => by cases hz
  | i + 1, z, hz => by
    rcases List.mem_append.mp hz with h | h
    · exact mq_Lb o i z h
    · rw [List.mem_singleton.mp h]
theorem mq_stand {U : State} (X : Stand p l e R s m args below meth c U locs cells slots) (cA cB : ClassId) (n k : Nat) (v : Value) : ∀ i, Stand p l e R s m args below meth c (mq_V U cA cB n k v i) (locs ++ mq_L U.heap.size i) (cells + 1 + i) (slots + n + i * k)
  | 0 => by
    have h := X.pushed (mq_top cA n U.heap.size 0)
    unfold mq_top at h
    rw [arrV_size] at h
    simpa [mq_V, mq_L, mq_top] using h
  | i + 1 => by
    have XV := mq_stand X cA cB n k v i
    obtain ⟨hvm, hsz, htop, hrow, hold⟩ := mq_facts U cA cB n k v i
    have hlt0 : U.heap.size < (mq_V U cA cB n k v i).heap.size := by omega
    have hc0 : ((mq_V U cA cB n k v i).pushCell (arrV cB k (fun _ => v))).heap[U.heap.size]? = some (mq_top cA n U.heap.size i) := by
      rw [State.heap_pushCell_of_lt (h := hlt0)]
      exact htop
    have h := (XV.pushed (arrV cB k (fun _ => v))).stored hc0 i (.ref (U.heap.size + 1 + i))
    rw [arrV_size, mq_step, List.append_assoc] at h
    have e1 : slots + n + (i + 1) * k = slots + n + i * k + k := by rw [Nat.succ_mul]; omega
    rw [e1]
    exact h
theorem mq_ref {t : FieldType} (v : Value) (hv : v = .null ∨ ∃ a, v = .ref a) : fits (.array t) v = true := by
  rcases hv with rfl | ⟨a, rfl⟩ <;> rfl
theorem mq_one {E : CtlPost} {d : Bool} {acts : List Action} {V : State} {cB cc : ClassId} {kB : Class} {ty : FieldType} {k : Int32} (hkB : V.vm.classes[cB]? = some kB) (hB : kB.kind = .array cc ty) (hk : ¬ k < 0)
    (h1 : ¬ k.toNatClampNeg > e.platform.arrayLengthLimit) (h2 : ¬ k.toNatClampNeg * componentBytes ty > e.platform.maxHeapBytes) (h3 : V.heap.size < e.platform.maxCells) (h4 : V.slotsUsed + k.toNatClampNeg ≤ e.platform.maxSlots) (hdf : fits ty (defaultValue ty) = true)
    {Q : Addr → Pre} (hq : ∀ acts', Q V.heap.size d acts' (V.pushCell (arrV cB k.toNatClampNeg (fun _ => defaultValue ty)))) : wp (multianewarray.make cB [k]) Q E e d acts V := by
  rw [multianewarray.make]
  simp only [wp_bind', W.ite, hk, if_false, wp_pure', W.theClass, hkB, hB, Option.some.injEq, exists_eq_left']
  exact W.newArray_of hkB hB h1 h2 h3 h4 hdf (fun acts' => by rw [arrV_new]; exact hq acts')
set_option maxHeartbeats 1000000 in
theorem mq_make {E : CtlPost} {d : Bool} {acts : List Action} {U : State} {g : JFrame} (X : Stand p l e R s m args below meth c U locs cells slots) {cA cB cc : ClassId} {kA kB : Class} {ty : FieldType} {n k : Int32}
    (hkA : U.vm.classes[cA]? = some kA) (hA : kA.kind = .array cB (.array ty)) (hkB : U.vm.classes[cB]? = some kB) (hB : kB.kind = .array cc ty) (hn : ¬ n < 0) (hk : ¬ k < 0)
    (hl1 : ¬ n.toNatClampNeg > e.platform.arrayLengthLimit) (hh1 : ¬ n.toNatClampNeg * componentBytes (.array ty) > e.platform.maxHeapBytes) (hl2 : ¬ k.toNatClampNeg > e.platform.arrayLengthLimit) (hh2 : ¬ k.toNatClampNeg * componentBytes ty > e.platform.maxHeapBytes) (hdf : fits ty (defaultValue ty) = true)
    (hcells : cells + (1 + n.toNatClampNeg) ≤ R.cells) (hslots : slots + (n.toNatClampNeg + n.toNatClampNeg * k.toNatClampNeg) ≤ R.slots) {Q : Addr → Pre}
    (hq : ∀ d' acts', Q U.heap.size d' acts' ((mq_V U cA cB n.toNatClampNeg k.toNatClampNeg (defaultValue ty) n.toNatClampNeg).setTop g)) : wp (multianewarray.make cA [n, k]) Q E e d acts (U.setTop g) := by
  have hfind : ([k].find? (· < 0)) = none := by simp [hk]
  obtain ⟨hr1, hr2⟩ := X.roomAbove hcells hslots
  rw [multianewarray.make]
  have hkA' : (U.setTop g).vm.classes[cA]? = some kA := hkA
  simp only [wp_bind', W.ite, hn, if_false, wp_pure', W.theClass, hkA', hA, Option.some.injEq, exists_eq_left']
  refine W.newArray_of hkA' hA hl1 hh1 (by show U.heap.size < _; omega) (by show U.slotsUsed + _ ≤ _; omega) (mq_ref _ (Or.inl rfl)) (fun acts1 => ?_)
  simp only [hfind]
  rw [ite_self, wp_bind', Std.Legacy.Range.forIn_eq_forIn_range']
  have hsz : ([:n.toNatClampNeg] : Std.Legacy.Range).size = n.toNatClampNeg := by simp [Std.Legacy.Range.size]
  rw [hsz]
  show wp (forIn (List.range' 0 n.toNatClampNeg 1) PUnit.unit _) _ E e d acts1 _
  have hN : ∀ i, i ≤ n.toNatClampNeg → i * k.toNatClampNeg ≤ n.toNatClampNeg * k.toNatClampNeg := fun i hi => Nat.mul_le_mul_right _ hi
  refine wp_forIn_inv (fun rest s' => ∃ i, i ≤ n.toNatClampNeg ∧ rest = List.range' i (n.toNatClampNeg - i) ∧ s' = (mq_V U cA cB n.toNatClampNeg k.toNatClampNeg (defaultValue ty) i).setTop g) _ _ ⟨0, Nat.zero_le _, rfl, ?_⟩ ?_ ?_
  · show (U.pushCell { cls := cA, slots := Array.replicate n.toNatClampNeg .null, vm := .none }).setTop g = _
    rw [arrV_new]
    unfold mq_V mq_top
    simp
  · rintro x rest s' d' acts' Q' ⟨i, hi, hl, rfl⟩ hnext
    have hlt : i < n.toNatClampNeg := by
      rcases Nat.lt_or_ge i n.toNatClampNeg with h | h
      · exact h
      · rw [show n.toNatClampNeg - i = 0 by omega] at hl
        simp at hl
    rw [show n.toNatClampNeg - i = (n.toNatClampNeg - (i + 1)) + 1 by omega, List.range'_succ] at hl
    obtain ⟨rfl, hrest⟩ : x = i ∧ rest = List.range' (i + 1) (n.toNatClampNeg - (i + 1)) := ⟨(List.cons.inj hl).1, (List.cons.inj hl).2⟩
    have hm := hN (x + 1) hlt
    rw [Nat.succ_mul] at hm
    have XV := mq_stand X cA cB n.toNatClampNeg k.toNatClampNeg (defaultValue ty) x
    obtain ⟨hvm, hsz', htop, hrow, hold⟩ := mq_facts U cA cB n.toNatClampNeg k.toNatClampNeg (defaultValue ty) x
    have eV : mq_V U cA cB n.toNatClampNeg k.toNatClampNeg (defaultValue ty) (x + 1) = ((mq_V U cA cB n.toNatClampNeg k.toNatClampNeg (defaultValue ty) x).pushCell (arrV cB k.toNatClampNeg (fun _ => (defaultValue ty)))).setCell U.heap.size (mq_top cA n.toNatClampNeg U.heap.size (x + 1)) := rfl
    generalize mq_V U cA cB n.toNatClampNeg k.toNatClampNeg (defaultValue ty) x = V at *
    obtain ⟨q1, q2⟩ := XV.roomAbove (a := 1) (b := k.toNatClampNeg) (by omega) (by omega)
    simp only [wp_bind']
    refine mq_one (V := V.setTop g) (by show V.vm.classes[cB]? = _; rw [hvm]; exact hkB) hB hk hl2 hh2 (by show V.heap.size < _; omega) (by show V.slotsUsed + _ ≤ _; exact q2) hdf (fun acts2 => ?_)
    have hlt0 : U.heap.size < V.heap.size := by omega
    have hc0 : (V.pushCell (arrV cB k.toNatClampNeg (fun _ => defaultValue ty))).heap[U.heap.size]? = some (mq_top cA n.toNatClampNeg U.heap.size x) := by
      rw [State.heap_pushCell_of_lt (h := hlt0)]
      exact htop
    simp only [wp_bind', W.writeLoc, wp_pure']
    refine ⟨mq_top cA n.toNatClampNeg U.heap.size x, hc0, by simp [mq_top, arrV], by show _ < (arrV _ _ _).slots.size; rw [arrV_size]; exact hlt, ?_, hnext _ _ _ ⟨x + 1, hlt, hrest, ?_⟩⟩
    · show State.fitsSlot _ (mq_top cA n.toNatClampNeg U.heap.size x).cls (mq_top cA n.toNatClampNeg U.heap.size x).vm x _ = true
      have hcls : V.vm.classes[cA]? = some kA := by
        rw [hvm]
        exact hkA
      simp [State.fitsSlot, State.slotType?, mq_top, arrV, hcls, hA, mq_ref _ (Or.inr ⟨_, rfl⟩)]
    · show ((V.pushCell (arrV cB k.toNatClampNeg (fun _ => defaultValue ty))).setCell U.heap.size ((mq_top cA n.toNatClampNeg U.heap.size x).setSlot x (.ref V.heap.size))).setTop g = _
      rw [hsz', mq_step, eV]
  · rintro s' d' acts' ⟨i, hi, hl, rfl⟩
    have hiN : i = n.toNatClampNeg := by
      rcases Nat.lt_or_ge i n.toNatClampNeg with h | h
      · rw [show n.toNatClampNeg - i = (n.toNatClampNeg - (i + 1)) + 1 by omega, List.range'_succ] at hl
        cases hl
      · omega
    subst hiN
    simp only [wp_pure']
    exact hq _ _
/-- what the tables say of the classes of an array of arrays -/
theorem mq_over {ty : FieldType} (h : (Cond.arrayOver (.array ty)).before args s = true) : ∃ (cB cA : ClassId) (kA : Class), s.vm.findClass (FieldType.array ty).toString = some cB ∧ s.vm.classes[cA]? = some kA ∧ kA.kind = .array cB (.array ty) ∧ s.vm.findClass ("[" ++ (FieldType.array ty).toString) = some cA := by
  simp only [Cond.before, Cond.holds, Cond.value, beq_iff_eq] at h
  cases hc : s.vm.findClass (FieldType.array ty).toString with
  | none => simp [hc] at h
  | some cB =>
    simp only [hc, Option.bind_some, Option.bind_eq_some_iff, Option.map_eq_some_iff] at h
    obtain ⟨cA, hi, kA, hk, hb⟩ := h
    obtain ⟨hlt, hp, -⟩ := Array.findIdx?_eq_some_iff_getElem.mp hi
    rw [(Array.getElem?_eq_some_iff.mp hk).2] at hp
    cases hkind : kA.kind with
    | array z t =>
      rw [hkind] at hb hp
      simp at hb hp
      exact ⟨cB, cA, kA, rfl, hk, by rw [hkind, hp, hb.1], hb.2⟩
    | _ => rw [hkind] at hb; simp at hb
variable {H : Heap} {Q : State → Prop} {cc : ByteArray} {pc : Nat} {ls : Array Slot} {rest : List Value}
set_option maxHeartbeats 1000000 in
/-- the instruction: an array of n rows of k -/
theorem mq_W (hexec : p.tables.exec = Jvm.exec) (hb : c.code = cc) {own : String} {index : Nat} {ty : FieldType} (hown : s.vm.findClass own = some m.cls) (hclink : (Cond.classLink own index ("[" ++ (FieldType.array ty).toString)).before args s = true)
    {cA cB : ClassId} {kA : Class} (hnB : s.vm.findClass (FieldType.array ty).toString = some cB) (hkA : s.vm.classes[cA]? = some kA) (hkindA : kA.kind = .array cB (.array ty)) (hnA : s.vm.findClass ("[" ++ (FieldType.array ty).toString) = some cA) (harr : (Cond.arrayClass ty).before args s = true) {n k : Int32} (hdg : decode cc pc = .ok (.multianewarray index 2, 4)) (hn : ¬ n < 0) (hk : ¬ k < 0)
    (hb1 : n.toNatClampNeg * 4 ≤ 536870912) (hb2 : k.toNatClampNeg * componentBytes ty ≤ 536870912) (hb3 : k.toNatClampNeg ≤ 536870912) (hdf : fits ty (defaultValue ty) = true)
    (hcells : cells + (1 + n.toNatClampNeg) ≤ R.cells) (hslots : slots + (n.toNatClampNeg + n.toNatClampNeg * k.toNatClampNeg) ≤ R.slots)
    (kk : ∀ (H1 : Heap) (L : List Loc), (∀ z ∈ L, z.base = H.size) → H1.size = H.size + 1 + n.toNatClampNeg → H1[H.size]? = some (mq_top cA n.toNatClampNeg H.size n.toNatClampNeg) → (∀ j, j < n.toNatClampNeg → H1[H.size + 1 + j]? = some (arrV cB k.toNatClampNeg (fun _ => defaultValue ty))) → (∀ q, q < H.size → H1[q]? = H[q]?) →
      W p l e R s m args below meth c H1 (locs ++ L) (cells + 1 + n.toNatClampNeg) (slots + n.toNatClampNeg + n.toNatClampNeg * k.toNatClampNeg) Q (F0 m (pc + 4) ls (.ref H.size :: rest))) : W p l e R s m args below meth c H locs cells slots Q (F0 m pc ls (.int k :: .int n :: rest)) := by
  intro T hT X
  subst hT; subst hb
  obtain ⟨cB', kB, cc, hnB', hkB, hkindB⟩ := Cond.arrayClass_spec harr
  have eB : cB' = cB := Option.some.inj (hnB'.symm.trans hnB)
  subst eB
  have hpl : e.platform.magicAccessors = ({} : Platform).magicAccessors := by rw [X.admits.platform]
  obtain ⟨c0, hfc0, hcl⟩ := Cond.classLink_spec hown hclink e.platform hpl
  cases hnA.symm.trans hfc0
  obtain ⟨hg₁, hwarm₁, -⟩ := State.classEntry (e := e) X.warmed hcl
  generalize T.vm.noted m.cls index (.cls cA) = vm₁ at hg₁ hwarm₁
  obtain ⟨kA₁, hkA₁, heA⟩ := hwarm₁.alike.2.2 _ _ hkA
  obtain ⟨kB₁, hkB₁, heB⟩ := hwarm₁.alike.2.2 _ _ hkB
  have X₁ := X.noted hwarm₁
  have XF := mq_stand X₁ cA cB' n.toNatClampNeg k.toNatClampNeg (defaultValue ty) n.toNatClampNeg
  obtain ⟨-, f2, f3, f4, f5⟩ := mq_facts (T.setVm vm₁) cA cB' n.toNatClampNeg k.toNatClampNeg (defaultValue ty) n.toNatClampNeg
  obtain ⟨t, a1, b1⟩ := kk _ _ (fun z hz => mq_Lb _ _ z hz) f2 f3 f4 f5 _ rfl XF
  refine ⟨t, ?_, b1⟩
  jvm_step X.here [hexec, hdg]
  simp only [multianewarray.sem, wp_bind', W.resolveClassAt_links (mm := m) (vm' := vm₁) (State.method?_setTop (F0 m pc ls (.int k :: .int n :: rest)) X.here.top) hg₁]
  rw [W.popN, if_neg (by decide)]
  refine ⟨F0 m pc ls (.int k :: .int n :: rest), State.topJava?_setTop' (s := T.setVm vm₁) _ X.here.top, [.int n, .int k], rest, rfl, rfl, ?_⟩
  simp only [List.mapM_cons, List.mapM_nil, wp_bind', wp_pure']
  have eS : ((T.setTop (F0 m pc ls (.int k :: .int n :: rest))).setVm vm₁).setTop { (F0 m pc ls (.int k :: .int n :: rest)) with stack := rest } = (T.setVm vm₁).setTop { (F0 m pc ls (.int k :: .int n :: rest)) with stack := rest } := by
    show ((T.setVm vm₁).setTop _).setTop _ = _
    rw [State.setTop_setTop]
  rw [eS]
  refine mq_make X₁ hkA₁ (by rw [heA]; exact hkindA) hkB₁ (by rw [heB]; exact hkindB) hn hk (by rw [Launch.admits_arrayLengthLimit X.admits]; omega) (by rw [Launch.admits_maxHeapBytes X.admits]; show ¬ n.toNatClampNeg * 4 > 536870912; omega) (by rw [Launch.admits_arrayLengthLimit X.admits]; omega) (by rw [Launch.admits_maxHeapBytes X.admits]; omega) hdf hcells hslots (fun d' acts' => ?_)
  simp only [wp_bind', W.mark, W.pushRef, State.topJava?_setTop' _ XF.here.top, Option.some.injEq, exists_eq_left', State.setTop_setTop, State.heap_setTop]
  intro acts
  simp [jvm, XF.here.top]
  exact a1
end MQX
