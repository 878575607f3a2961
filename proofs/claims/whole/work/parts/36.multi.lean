/-! new int[2][300], as the machine makes it: an outer array and two rows -/
/-- the two array classes, and how they hang together -/
def AO (G : Gd) (U : State) : Prop := ∃ (kA kI : Class) (cc : ClassId), U.vm.classes[G.2.2.1]? = some kA ∧ kA.kind = .array G.2.1 (.array .int) ∧ U.vm.classes[G.2.1]? = some kI ∧ kI.kind = .array cc .int ∧ U.vm.findClass "[[I" = some G.2.2.1
theorem AO.moved {G : Gd} {u U : State} (hvm : u.vm.Alike U.vm) (h : AO G u) : AO G U := by
  obtain ⟨kA, kI, cc, h1, h2, h3, h4, h5⟩ := h
  obtain ⟨kA', hA, eA⟩ := hvm.2.2 _ _ h1
  obtain ⟨kI', hI, eI⟩ := hvm.2.2 _ _ h3
  exact ⟨kA', kI', cc, hA, by rw [eA]; exact h2, hI, by rw [eI]; exact h4, by rw [hvm.findClass]; exact h5⟩
section MU
variable {E : CtlPost} {e : Env} {d : Bool} {acts : List Action} {s : State}
theorem mu_arr {c comp : ClassId} {k : Class} {ty : FieldType} {len : Nat} {v : Value} (hk : s.vm.classes[c]? = some k) (hkind : k.kind = .array comp ty) (hl : ¬ len > e.platform.arrayLengthLimit) (hh : ¬ len * componentBytes ty > e.platform.maxHeapBytes) (hf : fits ty v = true) (hd : v.isDefault = true)
    (h1 : s.heap.size < e.platform.maxCells) (h2 : s.slotsUsed + len ≤ e.platform.maxSlots) {Q : Addr → Pre} (hq : Q s.heap.size d acts (s.pushCell { cls := c, slots := Array.replicate len v, vm := .none })) : wp (Jvm.newArray c len v) Q E e d acts s := by
  have a1 : ∀ i x, (Array.replicate len v)[i]? = some x → s.fitsSlot c .none i x = true := fun i x hx => by
    rw [Array.getElem?_replicate] at hx
    split at hx
    · cases hx
      simp [State.fitsSlot, State.slotType?, hk, hkind, hf]
    · cases hx
  have a2 : allocActs (Array.replicate len v) s.heap.size acts = acts := by
    have a3 : ((Array.replicate len v).all (·.isDefault)) = true := by
      rw [Array.all_replicate]
      split <;> simp [hd]
    unfold allocActs
    rw [if_pos a3]
  simp only [Jvm.newArray, Jvm.arrayFits, wp_bind', W.ask, W.ite, hl, if_false, wp_pure', W.theClass, hk, hkind, hh, W.alloc, W.stop, Option.some.injEq, exists_eq_left', Array.size_replicate, a2]
  rw [if_neg (by omega)]
  exact ⟨h1, h2, a1, hq⟩
/-- a row -/
def muR (c : ClassId) : Cell := { cls := c, slots := Array.replicate 300 (.int 0), vm := .none }
/-- the outer array, with none, one or both of its rows -/
def muO (c : ClassId) : Cell := { cls := c, slots := Array.replicate 2 .null, vm := .none }
def muF (s : State) (c comp : ClassId) : State :=
  ((((s.pushCell (muO c)).pushCell (muR comp)).setCell s.heap.size ((muO c).setSlot 0 (.ref (s.heap.size + 1)))).pushCell (muR comp)).setCell s.heap.size (((muO c).setSlot 0 (.ref (s.heap.size + 1))).setSlot 1 (.ref (s.heap.size + 2)))
theorem mu_row {comp cc : ClassId} {kc : Class} {k : Int32} (hkc : s.vm.classes[comp]? = some kc) (hkind : kc.kind = .array cc .int) (hk : ¬ k < 0) (hK : k.toNatClampNeg = 300) (hl : ¬ 300 > e.platform.arrayLengthLimit) (hh : ¬ 300 * componentBytes .int > e.platform.maxHeapBytes)
    (h1 : s.heap.size < e.platform.maxCells) (h2 : s.slotsUsed + 300 ≤ e.platform.maxSlots) {Q : Addr → Pre} (hq : Q s.heap.size d acts (s.pushCell (muR comp))) : wp (multianewarray.make comp [k]) Q E e d acts s := by
  rw [multianewarray.make]
  simp only [wp_bind', W.ite, hk, if_false, wp_pure', W.theClass, hkc, hkind, Option.some.injEq, exists_eq_left', hK]
  exact mu_arr hkc hkind hl hh rfl rfl h1 h2 hq
theorem mu_all {c comp cc : ClassId} {kA kc : Class} {n k : Int32} (hkA : s.vm.classes[c]? = some kA) (hkindA : kA.kind = .array comp (.array .int)) (hkc : s.vm.classes[comp]? = some kc) (hkind : kc.kind = .array cc .int) (hn : ¬ n < 0) (hN : n.toNatClampNeg = 2) (hk : ¬ k < 0) (hK : k.toNatClampNeg = 300)
    (hl : ¬ 300 > e.platform.arrayLengthLimit) (hh : ¬ 300 * componentBytes .int > e.platform.maxHeapBytes) (hl2 : ¬ 2 > e.platform.arrayLengthLimit) (hh2 : ¬ 2 * componentBytes (.array .int) > e.platform.maxHeapBytes)
    (h1 : s.heap.size + 3 ≤ e.platform.maxCells) (h2 : s.slotsUsed + 602 ≤ e.platform.maxSlots) {Q : Addr → Pre} (hq : ∀ d' acts', Q s.heap.size d' acts' (muF s c comp)) : wp (multianewarray.make c [n, k]) Q E e d acts s := by
  have hfind : ([k].find? (· < 0)) = none := by simp [hk]
  rw [multianewarray.make]
  simp only [wp_bind', W.ite, hn, if_false, wp_pure', W.theClass, hkA, hkindA, Option.some.injEq, exists_eq_left', hN]
  refine mu_arr hkA hkindA hl2 hh2 rfl rfl (by omega) (by omega) ?_
  simp only [hfind]
  rw [ite_self, wp_bind', Std.Legacy.Range.forIn_eq_forIn_range']
  show wp (forIn [0, 1] PUnit.unit _) _ E e d acts _
  simp only [List.forIn_cons, List.forIn_nil, wp_bind']
  have z1 : (s.pushCell (muO c)).heap.size = s.heap.size + 1 := by simp
  have u1 : (s.pushCell (muO c)).slotsUsed = s.slotsUsed + 2 := by simp [muO]
  refine mu_row (s := s.pushCell (muO c)) hkc hkind hk hK hl hh (by rw [z1]; omega) (by rw [u1]; omega) ?_
  simp only [wp_bind', W.writeLoc, wp_pure']
  have o1 : ((s.pushCell (muO c)).pushCell (muR comp)).heap[s.heap.size]? = some (muO c) := by
    have l1 : s.heap.size < (s.pushCell (muO c)).heap.size := by rw [z1]; omega
    rw [State.heap_pushCell_of_lt (h := l1)]
    exact State.heap_pushCell_size _ _
  refine ⟨muO c, o1, by simp [muO], by simp [muO], by simp [muO, State.fitsSlot, State.slotType?, hkA, hkindA, fits], ?_⟩
  rw [z1]
  obtain ⟨s2, e2⟩ : ∃ z, z = ((s.pushCell (muO c)).pushCell (muR comp)).setCell s.heap.size ((muO c).setSlot 0 (.ref (s.heap.size + 1))) := ⟨_, rfl⟩
  have z2 : s2.heap.size = s.heap.size + 2 := by rw [e2]; simp [State.setCell]
  have u2 : s2.slotsUsed = s.slotsUsed + 302 := by rw [e2]; simp [muO, muR]
  have v2 : s2.vm = s.vm := by rw [e2]; simp
  have w2 : s2.heap[s.heap.size]? = some ((muO c).setSlot 0 (.ref (s.heap.size + 1))) := by rw [e2]; exact State.heap_setCell_self o1
  rw [← e2]
  refine mu_row (s := s2) (by rw [v2]; exact hkc) hkind hk hK hl hh (by rw [z2]; omega) (by rw [u2]; omega) ?_
  simp only [wp_bind', W.writeLoc, wp_pure']
  have o2 : (s2.pushCell (muR comp)).heap[s.heap.size]? = some ((muO c).setSlot 0 (.ref (s.heap.size + 1))) := by
    have l2 : s.heap.size < s2.heap.size := by rw [z2]; omega
    rw [State.heap_pushCell_of_lt (h := l2)]
    exact w2
  refine ⟨_, o2, by simp [muO, Cell.setSlot], by simp [muO, Cell.setSlot], by simp [muO, Cell.setSlot, State.fitsSlot, State.slotType?, v2, hkA, hkindA, fits], ?_⟩
  rw [z2, e2]
  exact hq _ _
end MU
theorem muF_top (s : State) (f : JFrame) (c comp : ClassId) : muF (s.setTop f) c comp = (muF s c comp).setTop f := by
  simp only [muF, State.heap_setTop, State.pushCell_setTop, State.setCell_setTop]
section MV
variable {p : Program} {l : Launch} {e : Env} {R : Room} {s : State} {m : MethodId} {args : Array Value} {below : List Frame} {meth : Method} {c : Code} {H : Heap} {locs : List Loc} {cells slots : Nat} {Q : State → Prop}
theorem mu_stand {T : State} (X : Stand p l e R s m args below meth c T locs cells slots) (cA comp : ClassId) : Stand p l e R s m args below meth c (muF T cA comp) ((locs ++ [⟨T.heap.size, 0⟩]) ++ [⟨T.heap.size, 1⟩]) (cells + 3) (slots + 602) := by
  have z1 : (T.pushCell (muO cA)).heap.size = T.heap.size + 1 := by simp
  have X1 := X.pushed (muO cA)
  have X2 := X1.pushed (muR comp)
  have o1 : ((T.pushCell (muO cA)).pushCell (muR comp)).heap[T.heap.size]? = some (muO cA) := by
    have l1 : T.heap.size < (T.pushCell (muO cA)).heap.size := by rw [z1]; omega
    rw [State.heap_pushCell_of_lt (h := l1)]
    exact State.heap_pushCell_size _ _
  have X3 := X2.stored o1 0 (.ref (T.heap.size + 1))
  have X4 := X3.pushed (muR comp)
  have o2 : ((((T.pushCell (muO cA)).pushCell (muR comp)).setCell T.heap.size ((muO cA).setSlot 0 (.ref (T.heap.size + 1)))).pushCell (muR comp)).heap[T.heap.size]? = some ((muO cA).setSlot 0 (.ref (T.heap.size + 1))) := by
    have l2 : T.heap.size < (((T.pushCell (muO cA)).pushCell (muR comp)).setCell T.heap.size ((muO cA).setSlot 0 (.ref (T.heap.size + 1)))).heap.size := by simp [State.setCell]; omega
    rw [State.heap_pushCell_of_lt (h := l2)]
    exact State.heap_setCell_self o1
  have X5 := X4.stored o2 1 (.ref (T.heap.size + 2))
  have e1 : (muO cA).slots.size = 2 := by simp [muO]
  have e2 : (muR comp).slots.size = 300 := by simp [muR]
  rw [e1, e2] at X5
  exact X5
end MV
