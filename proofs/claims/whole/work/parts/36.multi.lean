/-! new int[2][300], as the machine makes it: an outer array and two rows -/
/-- the two array classes, and how they hang together -/
def AO (G : Gd) (U : State) : Prop := ∃ (kA kI : Class) (cc : ClassId), U.vm.classes[G.2.2.1]? = some kA ∧ kA.kind = .array G.2.1 (.array .int) ∧ U.vm.classes[G.2.1]? = some kI ∧ kI.kind = .array cc .int ∧ U.vm.findClass "[[I" = some G.2.2.1
theorem AO.moved {G : Gd} {u U : State} (hvm : u.vm.Alike U.vm) (h : AO G u) : AO G U := by
  obtain ⟨kA, kI, cc, h1, h2, h3, h4, h5⟩ := h
  obtain ⟨kA', hA, eA⟩ := hvm.2.2 _ _ h1
  obtain ⟨kI', hI, eI⟩ := hvm.2.2 _ _ h3
  exact ⟨kA', kI', cc, hA, by rw [eA]; exact h2, hI, by rw [eI]; exact h4, by rw [hvm.findClass]; exact h5⟩
section MU
variable {E : CtlPost} {e : Env} {d : Bool} {acts : List Action} {s : State}
theorem mu_arr {c comp : ClassId} {k : Class} {ty : FieldType} {len : Nat} {v : Value} (hk : s.vm.classes[c]? = some k) (hkind : k.kind = .array comp ty) (hl : ¬ len > e.platform.arrayLengthLimit) (hh : ¬ len * componentBytes ty > e.platform.maxHeapBytes) (hf : fits ty v = true) (hd : v.isDefault = true)
    (h1 : s.heap.size < e.platform.maxCells) (h2 : s.slotsUsed + len ≤ e.platform.maxSlots) {Q : Addr → Pre} (hq : Q s.heap.size d acts (s.pushCell { cls := c, slots := Array.replicate len v, vm := .none })) : wp (Jvm.newArray c len v) Q E e d acts s := by
  have a1 : ∀ i x, (Array.replicate len v)[i]? = some x → s.fitsSlot c .none i x = true := fun i x hx => by
    rw [Array.getElem?_replicate] at hx
    split at hx
    · cases hx
      simp [State.fitsSlot, State.slotType?, hk, hkind, hf]
    · cases hx
  have a2 : allocActs (Array.replicate len v) s.heap.size acts = acts := by
    have a3 : ((Array.replicate len v).all (·.isDefault)) = true := by
      rw [Array.all_replicate]
      split <;> simp [hd]
    unfold allocActs
    rw [if_pos a3]
  simp only [Jvm.newArray, Jvm.arrayFits, wp_bind', W.ask, W.ite, hl, if_false, wp_pure', W.theClass, hk, hkind, hh, W.alloc, W.stop, Option.some.injEq, exists_eq_left', Array.size_replicate, a2]
  rw [if_neg (by omega)]
  exact ⟨h1, h2, a1, hq⟩
/-- a row -/
def muR (c : ClassId) : Cell := { cls := c, slots := Array.replicate 300 (.int 0), vm := .none }
/-- the outer array, with none, one or both of its rows -/
def muO (c : ClassId) : Cell := { cls := c, slots := Array.replicate 2 .null, vm := .none }
def muF (s : State) (c comp : ClassId) : State :=
  ((((s.pushCell (muO c)).pushCell (muR comp)).setCell s.heap.size ((muO c).setSlot 0 (.ref (s.heap.size + 1)))).pushCell (muR comp)).setCell s.heap.size (((muO c).setSlot 0 (.ref (s.heap.size + 1))).setSlot 1 (.ref (s.heap.size + 2)))
theorem mu_row {comp cc : ClassId} {kc : Class} {k : Int32} (hkc : s.vm.classes[comp]? = some kc) (hkind : kc.kind = .array cc .int) (hk : ¬ k < 0) (hK : k.toNatClampNeg = 300) (hl : ¬ 300 > e.platform.arrayLengthLimit) (hh : ¬ 300 * componentBytes .int > e.platform.maxHeapBytes)
    (h1 : s.heap.size < e.platform.maxCells) (h2 : s.slotsUsed + 300 ≤ e.platform.maxSlots) {Q : Addr → Pre} (hq : Q s.heap.size d acts (s.pushCell (muR comp))) : wp (multianewarray.make comp [k]) Q E e d acts s := by
  rw [multianewarray.make]
  simp only [wp_bind', W.ite, hk, if_false, wp_pure', W.theClass, hkc, hkind, Option.some.injEq, exists_eq_left', hK]
  exact mu_arr hkc hkind hl hh rfl rfl h1 h2 hq
theorem mu_all {c comp cc : ClassId} {kA kc : Class} {n k : Int32} (hkA : s.vm.classes[c]? = some kA) (hkindA : kA.kind = .array comp (.array .int)) (hkc : s.vm.classes[comp]? = some kc) (hkind : kc.kind = .array cc .int) (hn : ¬ n < 0) (hN : n.toNatClampNeg = 2) (hk : ¬ k < 0) (hK : k.toNatClampNeg = 300)
    (hl : ¬ 300 > e.platform.arrayLengthLimit) (hh : ¬ 300 * componentBytes .int > e.platform.maxHeapBytes) (hl2 : ¬ 2 > e.platform.arrayLengthLimit) (hh2 : ¬ 2 * componentBytes (.array .int) > e.platform.maxHeapBytes)
    (h1 : s.heap.size + 3 ≤ e.platform.maxCells) (h2 : s.slotsUsed + 602 ≤ e.platform.maxSlots) {Q : Addr → Pre} (hq : ∀ d' acts', Q s.heap.size d' acts' (muF s c comp)) : wp (multianewarray.make c [n, k]) Q E e d acts s := by
  have hfind : ([k].find? (· < 0)) = none := by simp [hk]
  rw [multianewarray.make]
  simp only [wp_bind', W.ite, hn, if_false, wp_pure', W.theClass, hkA, hkindA, Option.some.injEq, exists_eq_left', hN]
  refine mu_arr hkA hkindA hl2 hh2 rfl rfl (by omega) (by omega) ?_
  simp only [hfind]
  rw [ite_self, wp_bind', Std.Legacy.Range.forIn_eq_forIn_range']
  show wp (forIn [0, 1] PUnit.unit _) _ E e d acts _
  simp only [List.forIn_cons, List.forIn_nil, wp_bind']
  have z1 : (s.pushCell (muO c)).heap.size = s.heap.size + 1 := by simp
  have u1 : (s.pushCell (muO c)).slotsUsed = s.slotsUsed + 2 := by simp [muO]
  refine mu_row (s := s.pushCell (muO c)) hkc hkind hk hK hl hh (by rw [z1]; omega) (by rw [u1]; omega) ?_
  simp only [wp_bind', W.writeLoc, wp_pure']
  have o1 : ((s.pushCell (muO c)).pushCell (muR comp)).heap[s.heap.size]? = some (muO c) := by
    have l1 : s.heap.size < (s.pushCell (muO c)).heap.size := by rw [z1]; omega
    rw [State.heap_pushCell_of_lt (h := l1)]
    exact State.heap_pushCell_size _ _
  refine ⟨muO c, o1, by simp [muO], by simp [muO], by simp [muO, State.fitsSlot, State.slotType?, hkA, hkindA, fits], ?_⟩
  rw [z1]
  obtain ⟨s2, e2⟩ : ∃ z, z = ((s.pushCell (muO c)).pushCell (muR comp)).setCell s.heap.size ((muO c).setSlot 0 (.ref (s.heap.size + 1))) := ⟨_, rfl⟩
  have z2 : s2.heap.size = s.heap.size + 2 := by rw [e2]; simp [State.setCell]
  have u2 : s2.slotsUsed = s.slotsUsed + 302 := by rw [e2]; simp [muO, muR]
  have v2 : s2.vm = s.vm := by rw [e2]; simp
  have w2 : s2.heap[s.heap.size]? = some ((muO c).setSlot 0 (.ref (s.heap.size + 1))) := by rw [e2]; exact State.heap_setCell_self o1
  rw [← e2]
  refine mu_row (s := s2) (by rw [v2]; exact hkc) hkind hk hK hl hh (by rw [z2]; omega) (by rw [u2]; omega) ?_
  simp only [wp_bind', W.writeLoc, wp_pure']
  have o2 : (s2.pushCell (muR comp)).heap[s.heap.size]? = some ((muO c).setSlot 0 (.ref (s.heap.size + 1))) := by
    have l2 : s.heap.size < s2.heap.size := by rw [z2]; omega
    rw [State.heap_pushCell_of_lt (h := l2)]
    exact w2
  refine ⟨_, o2, by simp [muO, Cell.setSlot], by simp [muO, Cell.setSlot], by simp [muO, Cell.setSlot, State.fitsSlot, State.slotType?, v2, hkA, hkindA, fits], ?_⟩
  rw [z2, e2]
  exact hq _ _
end MU
theorem muF_top (s : State) (f : JFrame) (c comp : ClassId) : muF (s.setTop f) c comp = (muF s c comp).setTop f := by
  simp only [muF, State.heap_setTop, State.pushCell_setTop, State.setCell_setTop]
section MV
variable {p : Program} {l : Launch} {e : Env} {R : Room} {s : State} {m : MethodId} {args : Array Value} {below : List Frame} {meth : Method} {c : Code} {H : Heap} {locs : List Loc} {cells slots : Nat} {Q : State → Prop}
theorem mu_stand {T : State} (X : Stand p l e R s m args below meth c T locs cells slots) (cA comp : ClassId) : Stand p l e R s m args below meth c (muF T cA comp) ((locs ++ [⟨T.heap.size, 0⟩]) ++ [⟨T.heap.size, 1⟩]) (cells + 3) (slots + 602) := by
  have z1 : (T.pushCell (muO cA)).heap.size = T.heap.size + 1 := by simp
  have X1 := X.pushed (muO cA)
  have X2 := X1.pushed (muR comp)
  have o1 : ((T.pushCell (muO cA)).pushCell (muR comp)).heap[T.heap.size]? = some (muO cA) := by
    have l1 : T.heap.size < (T.pushCell (muO cA)).heap.size := by rw [z1]; omega
    rw [State.heap_pushCell_of_lt (h := l1)]
    exact State.heap_pushCell_size _ _
  have X3 := X2.stored o1 0 (.ref (T.heap.size + 1))
  have X4 := X3.pushed (muR comp)
  have o2 : ((((T.pushCell (muO cA)).pushCell (muR comp)).setCell T.heap.size ((muO cA).setSlot 0 (.ref (T.heap.size + 1)))).pushCell (muR comp)).heap[T.heap.size]? = some ((muO cA).setSlot 0 (.ref (T.heap.size + 1))) := by
    have l2 : T.heap.size < (((T.pushCell (muO cA)).pushCell (muR comp)).setCell T.heap.size ((muO cA).setSlot 0 (.ref (T.heap.size + 1)))).heap.size := by simp [State.setCell]; omega
    rw [State.heap_pushCell_of_lt (h := l2)]
    exact State.heap_setCell_self o1
  have X5 := X4.stored o2 1 (.ref (T.heap.size + 2))
  have e1 : (muO cA).slots.size = 2 := by simp [muO]
  have e2 : (muR comp).slots.size = 300 := by simp [muR]
  rw [e1, e2] at X5
  exact X5
end MV
theorem muO_full (c : ClassId) (h : Nat) : ((muO c).setSlot 0 (.ref (h + 1))).setSlot 1 (.ref (h + 2)) = arrV c 2 (fun j => va_rf (some (h + 1 + j))) := by
  show (((({ cls := c, slots := Array.replicate 2 .null, vm := .none } : Cell)).setSlot 0 (.ref (h + 1))).setSlot 1 (.ref (h + 2))) = _
  rw [arrV_new, arrV_store, arrV_store]
  refine arrV_congr (fun i hi => ?_)
  rcases (show i = 0 ∨ i = 1 by omega) with rfl | rfl <;> rfl
theorem muR_full (c : ClassId) : muR c = arrV c 300 (fun _ => .int 0) := arrV_new c 300 (.int 0)
theorem mu_heap (s : State) (c comp : ClassId) : (muF s c comp).heap.size = s.heap.size + 3 ∧ (∀ q, q < s.heap.size → (muF s c comp).heap[q]? = s.heap[q]?) ∧ (muF s c comp).heap[s.heap.size]? = some (arrV c 2 (fun j => va_rf (some (s.heap.size + 1 + j)))) ∧
    (muF s c comp).heap[s.heap.size + 1]? = some (arrV comp 300 (fun _ => .int 0)) ∧ (muF s c comp).heap[s.heap.size + 2]? = some (arrV comp 300 (fun _ => .int 0)) := by
  have z1 : (s.pushCell (muO c)).heap.size = s.heap.size + 1 := by simp
  have o1 : ((s.pushCell (muO c)).pushCell (muR comp)).heap[s.heap.size]? = some (muO c) := by
    have l1 : s.heap.size < (s.pushCell (muO c)).heap.size := by rw [z1]; omega
    rw [State.heap_pushCell_of_lt (h := l1)]
    exact State.heap_pushCell_size _ _
  obtain ⟨s2, e2⟩ : ∃ z, z = ((s.pushCell (muO c)).pushCell (muR comp)).setCell s.heap.size ((muO c).setSlot 0 (.ref (s.heap.size + 1))) := ⟨_, rfl⟩
  have z2 : s2.heap.size = s.heap.size + 2 := by rw [e2]; simp [State.setCell]
  have w2 : s2.heap[s.heap.size]? = some ((muO c).setSlot 0 (.ref (s.heap.size + 1))) := by rw [e2]; exact State.heap_setCell_self o1
  have o2 : (s2.pushCell (muR comp)).heap[s.heap.size]? = some ((muO c).setSlot 0 (.ref (s.heap.size + 1))) := by
    have l2 : s.heap.size < s2.heap.size := by rw [z2]; omega
    rw [State.heap_pushCell_of_lt (h := l2)]
    exact w2
  have eF : muF s c comp = (s2.pushCell (muR comp)).setCell s.heap.size (((muO c).setSlot 0 (.ref (s.heap.size + 1))).setSlot 1 (.ref (s.heap.size + 2))) := by rw [e2]; rfl
  rw [eF]
  refine ⟨by simp [State.setCell, z2], fun q hq => ?_, ?_, ?_, ?_⟩
  · have l2 : q < s2.heap.size := by rw [z2]; omega
    rw [State.heap_setCell_other (Nat.ne_of_gt hq), State.heap_pushCell_of_lt (h := l2), e2, State.heap_setCell_other (Nat.ne_of_gt hq)]
    have l1 : q < (s.pushCell (muO c)).heap.size := by rw [z1]; omega
    rw [State.heap_pushCell_of_lt (h := l1), State.heap_pushCell_of_lt (h := hq)]
  · rw [← muO_full]
    exact State.heap_setCell_self o2
  · have l2 : s.heap.size + 1 < s2.heap.size := by rw [z2]; omega
    rw [State.heap_setCell_other (show s.heap.size ≠ s.heap.size + 1 by omega), State.heap_pushCell_of_lt (h := l2), e2, State.heap_setCell_other (show s.heap.size ≠ s.heap.size + 1 by omega), ← muR_full, ← z1]
    exact State.heap_pushCell_size _ _
  · rw [State.heap_setCell_other (show s.heap.size ≠ s.heap.size + 2 by omega), ← muR_full, ← z2]
    exact State.heap_pushCell_size _ _
section MW
variable {p : Program} {l : Launch} {e : Env} {R : Room} {s : State} {m : MethodId} {args : Array Value} {below : List Frame} {meth : Method} {c : Code} {H : Heap} {locs : List Loc} {cells slots : Nat} {Q : State → Prop}
variable {cc : ByteArray} {pc : Nat} {ls : Array Slot} {rest : List Value} {G : Gd} {A : Nat → Prop} {ws : va_W} {H0 : Heap}
theorem mu_W (hx : p.tables.exec = Jvm.exec) (hb : c.code = cc) {own : String} {index : Nat} (hown : s.vm.findClass own = some m.cls) (hclink : (Cond.classLink own index "[[I").before args s = true) (hAO : AO G s) (hcells : cells + 3 ≤ R.cells) (hslots : slots + 602 ≤ R.slots) (hdg : decode cc pc = .ok (.multianewarray index 2, 4))
    (kk : ∀ H' : Heap, H'.size = H.size + 3 → (∀ q, q < H.size → H'[q]? = H[q]?) → H'[H.size]? = some (arrV G.2.2.1 2 (fun j => va_rf (some (H.size + 1 + j)))) → H'[H.size + 1]? = some (arrV G.2.1 300 (fun _ => .int 0)) → H'[H.size + 2]? = some (arrV G.2.1 300 (fun _ => .int 0)) →
      W p l e R s m args below meth c H' ((locs ++ [⟨H.size, 0⟩]) ++ [⟨H.size, 1⟩]) (cells + 3) (slots + 602) Q (F0 m (pc + 4) ls (.ref H.size :: rest))) : W p l e R s m args below meth c H locs cells slots Q (F0 m pc ls (.int (nI 300) :: .int (nI 2) :: rest)) := by
  intro T hT X
  subst hT
  subst hb
  have hpl : e.platform.magicAccessors = ({} : Platform).magicAccessors := by rw [X.admits.platform]
  obtain ⟨kA, kI, ci, a1, a2, a3, a4, a5⟩ := hAO
  obtain ⟨c0, hfc, hcl⟩ := Cond.classLink_spec hown hclink e.platform hpl
  cases a5.symm.trans hfc
  obtain ⟨hg1, hw1, hr1⟩ := State.classEntry (e := e) X.warmed hcl
  generalize T.vm.noted m.cls index (.cls G.2.2.1) = vm1 at hg1 hw1 hr1
  have hal : s.vm.Alike vm1 := hw1.alike
  obtain ⟨kA1, b1, eA⟩ := hal.2.2 _ _ a1
  obtain ⟨kI1, b3, eI⟩ := hal.2.2 _ _ a3
  have X1 := X.noted hw1
  have XF := mu_stand X1 G.2.2.1 G.2.1
  obtain ⟨r1, r2⟩ := X.roomAbove hcells hslots
  obtain ⟨f1, f2, f3, f4, f5⟩ := mu_heap (T.setVm vm1) G.2.2.1 G.2.1
  obtain ⟨t, s1, s2⟩ := kk (muF (T.setVm vm1) G.2.2.1 G.2.1).heap f1 f2 f3 f4 f5 (muF (T.setVm vm1) G.2.2.1 G.2.1) rfl XF
  refine ⟨t, ?_, s2⟩
  jvm_step X.here [hx, hdg]
  simp only [multianewarray.sem, wp_bind', W.resolveClassAt_links (State.method?_setTop (F0 m pc ls (.int (nI 300) :: .int (nI 2) :: rest)) X.here.top) hg1]
  rw [W.popN, if_neg (by decide)]
  refine ⟨_, State.topJava?_setTop' (s := T.setVm vm1) (F0 m pc ls (.int (nI 300) :: .int (nI 2) :: rest)) X.here.top, [.int (nI 2), .int (nI 300)], rest, rfl, rfl, ?_⟩
  simp only [List.mapM_cons, List.mapM_nil, wp_bind', wp_pure']
  refine mu_all (kA := kA1) (kc := kI1) (comp := G.2.1) (cc := ci) b1 (by rw [eA]; exact a2) b3 (by rw [eI]; exact a4) (by decide) (by decide) (by decide) (by decide) (by rw [Launch.admits_arrayLengthLimit X.admits]; decide) (by rw [Launch.admits_maxHeapBytes X.admits]; decide) (by rw [Launch.admits_arrayLengthLimit X.admits]; decide) (by rw [Launch.admits_maxHeapBytes X.admits]; decide) (by show T.heap.size + 3 ≤ _; omega) (by show T.slotsUsed + 602 ≤ _; omega) (fun d' acts' => ?_)
  have eS : ((T.setTop (F0 m pc ls (.int (nI 300) :: .int (nI 2) :: rest))).setVm vm1).setTop { F0 m pc ls (.int (nI 300) :: .int (nI 2) :: rest) with stack := rest } = (T.setVm vm1).setTop { F0 m pc ls (.int (nI 300) :: .int (nI 2) :: rest) with stack := rest } := by
    show ((T.setVm vm1).setTop _).setTop _ = _
    rw [State.setTop_setTop]
  rw [eS, muF_top]
  simp only [wp_bind', W.mark, W.pushRef, State.topJava?_setTop' _ XF.here.top, Option.some.injEq, exists_eq_left', State.setTop_setTop, State.heap_setTop]
  intro acts
  simp [jvm, XF.here.top]
  exact s1
/-- the cells of new int[2][300] -/
def mu3 (G : Gd) (q : Nat) : va_W := [(q, .inl (G.2.2.1, 2, .inr (.inr (.inr (.inr (fun i => some (q + 1 + i))))))), (q + 1, .inl (G.2.1, 300, .inl (fun _ => 0))), (q + 2, .inl (G.2.1, 300, .inl (fun _ => 0)))]
theorem z_mna (hx : p.tables.exec = Jvm.exec) (hb : c.code = cc) {own : String} {index : Nat} (hown : s.vm.findClass own = some m.cls) (hclink : (Cond.classLink own index "[[I").before args s = true) (hAO : AO G s) (hP : va_P G.1 vwCl ws H) (hD : va_D A ws) (hS : va_S A H0 H locs) (hA : ∀ q, H0.size ≤ q → A q) (hcells : cells + 3 ≤ R.cells) (hslots : slots + 602 ≤ R.slots) (hdg : decode cc pc = .ok (.multianewarray index 2, 4))
    (kk : ∀ (q : Nat) (H1 : Heap) (locs1 : List Loc), va_P G.1 vwCl (ws ++ mu3 G q) H1 → va_D A (ws ++ mu3 G q) → va_S A H0 H1 locs1 → W p l e R s m args below meth c H1 locs1 (cells + 3) (slots + 602) Q (F0 m (pc + 4) ls (.ref q :: rest))) : W p l e R s m args below meth c H locs cells slots Q (F0 m pc ls (.int (nI 300) :: .int (nI 2) :: rest)) := by
  refine mu_W hx hb hown hclink hAO hcells hslots hdg (fun H' z o c1 c2 c3 => ?_)
  have hD1 := hD.push (e := .inl (G.2.2.1, 2, .inr (.inr (.inr (.inr (fun i => some (H.size + 1 + i))))))) hP rfl (hA _ hS.1)
  have hPk : va_P G.1 vwCl ws H' := hP.kept (fun k x hx9 => o x.1 ((hP k x hx9).lt))
  have h3 : va_P G.1 vwCl (mu3 G H.size) H' := by
    intro k x hk
    match k, hk with
    | 0, hk => cases hk; exact c1
    | 1, hk => cases hk; exact c2
    | 2, hk => cases hk; exact c3
    | k + 3, hk => simp [mu3] at hk
  refine kk H.size H' _ (hPk.app h3) ?_ ⟨by have := hS.1; omega, fun x h1 h2 => (o x (Nat.lt_of_lt_of_le h1 hS.1)).trans (hS.2.1 x h1 h2), ?_⟩
  · have hm3 : ∀ (k : Nat) (x : Nat × va_E), (mu3 G H.size)[k]? = some x → x.1 = H.size + k := by
      intro k x hk
      match k, hk with
      | 0, hk => cases hk; rfl
      | 1, hk => cases hk; rfl
      | 2, hk => cases hk; rfl
      | k + 3, hk => simp [mu3] at hk
    refine hD.app ⟨fun i j x y hi hj hxy => ?_, fun k x hk => hA _ ?_⟩ (fun i j x y hi hj hxy => ?_)
    · have := hm3 i x hi
      have := hm3 j y hj
      omega
    · have := hm3 k x hk
      have := hS.1
      omega
    · have h5 := (hP i x hi).lt
      have h6 := hm3 j y hj
      omega
  · intro q hq
    rcases List.mem_append.mp hq with h | h
    · rcases List.mem_append.mp h with h | h
      · exact hS.2.2 q h
      · rw [List.mem_singleton.mp h]; exact hA _ hS.1
    · rw [List.mem_singleton.mp h]; exact hA _ hS.1
theorem z_newi (hx : p.tables.exec = Jvm.exec) (hb : c.code = cc) (harr : (Cond.arrayClass .int).before args s = true) (hK : KK G s) (hP : va_P G.1 vwCl ws H) (hD : va_D A ws) (hS : va_S A H0 H locs) (hA : ∀ q, H0.size ≤ q → A q) (hcells : cells + 1 ≤ R.cells) (hslots : slots + 300 ≤ R.slots) (hdg : decode cc pc = .ok (.newarray .int, 2))
    (kk : ∀ (q : Nat) (H1 : Heap), va_P G.1 vwCl (ws ++ [(q, .inl (G.2.1, 300, .inl (fun _ => 0)))]) H1 → va_D A (ws ++ [(q, .inl (G.2.1, 300, .inl (fun _ => 0)))]) → va_S A H0 H1 locs → W p l e R s m args below meth c H1 locs (cells + 1) (slots + 300) Q (F0 m (pc + 2) ls (.ref q :: rest))) : W p l e R s m args below meth c H locs cells slots Q (F0 m pc ls (.int (nI 300) :: rest)) := by
  refine va_newa (atype := .int) (ty := .int) (a0 := (300, .inl (fun _ => 0))) hx hb harr rfl hK.1 hP hD hS hA (fun _ => rfl) (by decide) (by decide) (by decide) hcells hslots hdg (fun q cA H1 k1 k2 k3 k4 => ?_)
  have e1 : s.vm.findClass ("[" ++ FieldType.int.toString) = some cA := (k1.2 3 _ rfl).2
  have e2 : s.vm.findClass ("[" ++ FieldType.int.toString) = some G.2.1 := (hK.1.2 0 _ rfl).2
  have e3 : cA = G.2.1 := Option.some.inj (e1.symm.trans e2)
  subst e3
  exact kk q H1 k2 k3 k4
theorem z_newz (hx : p.tables.exec = Jvm.exec) (hb : c.code = cc) (harr : (Cond.arrayClass .boolean).before args s = true) (hK : KK G s) (hP : va_P G.1 vwCl ws H) (hD : va_D A ws) (hS : va_S A H0 H locs) (hA : ∀ q, H0.size ≤ q → A q) (hcells : cells + 1 ≤ R.cells) (hslots : slots + 300 ≤ R.slots) (hdg : decode cc pc = .ok (.newarray .boolean, 2))
    (kk : ∀ (q : Nat) (H1 : Heap), va_P G.1 vwCl (ws ++ [(q, .inl (G.2.2.2, 300, .inl (fun _ => 0)))]) H1 → va_D A (ws ++ [(q, .inl (G.2.2.2, 300, .inl (fun _ => 0)))]) → va_S A H0 H1 locs → W p l e R s m args below meth c H1 locs (cells + 1) (slots + 300) Q (F0 m (pc + 2) ls (.ref q :: rest))) : W p l e R s m args below meth c H locs cells slots Q (F0 m pc ls (.int (nI 300) :: rest)) := by
  refine va_newa (atype := .boolean) (ty := .boolean) (a0 := (300, .inl (fun _ => 0))) hx hb harr rfl hK.1 hP hD hS hA (fun _ => rfl) (by decide) (by decide) (by decide) hcells hslots hdg (fun q cA H1 k1 k2 k3 k4 => ?_)
  have e1 : s.vm.findClass ("[" ++ FieldType.boolean.toString) = some cA := (k1.2 3 _ rfl).2
  have e2 : s.vm.findClass ("[" ++ FieldType.boolean.toString) = some G.2.2.2 := (hK.1.2 2 _ rfl).2
  have e3 : cA = G.2.2.2 := Option.some.inj (e1.symm.trans e2)
  subst e3
  exact kk q H1 k2 k3 k4
end MW
/-- a constructor's contract: it makes mc cells of ms slots -/
def Mn (l : Launch) (y : MethodName) (wd : List Cond) (fr mc ms lo : Nat) (av : List Value) (G : Gd) (ws : va_W) (sz : Nat) (R' : Heap → Prop) : Prop :=
  Met l y wd { frames := fr, cells := mc, slots := ms, locals := lo } (va_Pc av (fun U => U.heap.size = sz ∧ va_P G.1 vwCl ws U.heap ∧ KK G U ∧ AO G U)) (Qz (va_A ws sz) (fun v h => v = none ∧ R' h)) mc ms (va_A ws sz)
theorem Mn.mk {l : Launch} {y : MethodName} {wd wd' : List Cond} {fr mc ms lo : Nat} {av : List Value} {G : Gd} {ws : va_W} {sz : Nat} {R' : Heap → Prop} (cc : ByteArray) (maxL : Nat)
    (hy : plainName y.cls = true) (hw : wd = Cond.code y cc maxL none :: wd') (hlen : (lg_sl av).length ≤ maxL)
    (body : ∀ (p : Program) (e : Env) (s : State) (m : MethodId) (below : List Frame) (meth : Method) (c : Code) (ls : Array Slot), p.tables.exec = Jvm.exec → c.code = cc → meth.sig.returnType = none → c.maxLocals = maxL → (∀ w ∈ wd, w.before av.toArray s = true) → s.vm.findClass y.cls = some m.cls → meth.locks = false → meth.name = y.name → s.heap.size = sz → va_P G.1 vwCl ws s.heap → KK G s → AO G s → lv_has ls maxL (lv_args 0 av) →
      W p l e { frames := fr, cells := mc, slots := ms, locals := lo } s m av.toArray below meth c s.heap [] 0 0 (MQ below (Qz (va_A ws sz) (fun v h => v = none ∧ R' h)) av.toArray s mc ms (va_A ws sz)) (F0 m 0 ls [])) : Mn l y wd fr mc ms lo av G ws sz R' := by
  refine Met.ofW (cc := cc) (maxL := maxL) (ret := none) hy hw ?_
  intro p e s m args below meth c s₁ B hml hv
  obtain ⟨rfl, hsz, hP, hKK, hAO⟩ := hv
  rw [lg_entry_eq]
  exact body p e s m below meth c _ B.exec B.bytes B.returns hml (atoms_spec (ws := wd) B.pre) (findClass_of_methodNamed B.named) B.notSynchronized (name_of_methodNamed B.named B.method).1 hsz hP hKK hAO (lv_entry av hlen)
theorem Mn.blind {av : List Value} {G : Gd} {ws : va_W} {sz : Nat} : FrameBlind (va_Pc av (fun U => U.heap.size = sz ∧ va_P G.1 vwCl ws U.heap ∧ KK G U ∧ AO G U)) := fun a U g mk h => ⟨h.1, h.2.1, h.2.2.1, h.2.2.2.1.call g mk a, AO.moved (u := U) (U := U.calling g mk a) (Vm.Alike.refl U.vm) h.2.2.2.2⟩
section MC
variable {p : Program} {l : Launch} {e : Env} {R : Room} {s : State} {m : MethodId} {args : Array Value} {below : List Frame} {meth : Method} {c : Code} {H : Heap} {locs : List Loc} {cells slots : Nat} {Q : State → Prop}
variable {cc : ByteArray} {pc : Nat} {ls : Array Slot} {rest : List Value} {G : Gd} {H0 : Heap}
theorem z_backN {st0 : List Value} {av : Array Value} {A0 A1 : Nat → Prop} {mc ms : Nat} {R' : Heap → Prop} (hr : va_Run p l e R s m args below meth c H locs cells slots mc ms (F0 m pc ls st0) rest (Qz A1 (fun v h => v = none ∧ R' h) av) A1) (hS : va_S A0 H0 H locs) (hA : ∀ q, A1 q → A0 q)
    (kk : ∀ (H1 : Heap) (locs1 : List Loc), R' H1 → H.size ≤ H1.size → (∀ q : Nat, q < H.size → ¬ A1 q → H1[q]? = H[q]?) → va_S A0 H0 H1 locs1 → W p l e R s m args below meth c H1 locs1 (cells + mc) (slots + ms) Q (F0 m (pc + 3) ls rest)) : W p l e R s m args below meth c H locs cells slots Q (F0 m pc ls st0) := by
  intro T hT X
  obtain ⟨v, st₀, t, T', L, h0, X', hL, e1, e2, ⟨⟨v', hv, rfl, hR⟩, hz, hk⟩, st⟩ := hr T hT X
  cases hv
  rw [h0] at hz hk
  obtain ⟨t2, a1, b1⟩ := kk T'.heap (locs ++ L) (by rw [e1]; exact hR) (by rw [e1]; exact hz) (fun q h1 h2 => by rw [e1]; exact hk q h1 h2)
    ⟨Nat.le_trans hS.1 (by rw [e1]; exact hz), fun q h1 h2 => by rw [e1, hk q (Nat.lt_of_lt_of_le h1 hS.1) (fun z => h2 (hA q z))]; exact hS.2.1 q h1 h2, fun q hq => by
      rcases List.mem_append.mp hq with h | h
      · exact hS.2.2 q h
      · exact hA _ (hL q h)⟩ T' rfl X'
  exact ⟨t2, st t2 a1, b1⟩
theorem z_callI {As : List Value} {A0 : Nat → Prop} {R' : Heap → Prop} {y : MethodName} {wd wd' Ts : List Cond} {fr mc ms lo b index nL maxL : Nat} {own : String} {bytes : ByteArray} {wc : va_W}
    (n : Nat) (S : CallFix p m c cc nL s args Ts own) (hK : KK G s) (hAO : AO G s) (hM : Mn l y wd fr mc ms lo (.ref b :: As) G wc H.size R') (hG : GoodIn Ts wd) (hw : wd = Cond.code y bytes maxL none :: wd') (hini : (Cond.initialized y.cls).before args s = true) (hl : (Cond.methodLink own index y).before args s = true) (hin : (Cond.instanceMethod y).before args s = true) (hy1 : y.name = "<init>")
    (hd : y.cls ≠ "java/lang/invoke/MethodHandle" ∧ y.cls ≠ "java/lang/invoke/VarHandle" ∧ (parseMethodDescriptor y.desc).map (fun d => d.parameters.length) = some n) (hR : fr + 1 ≤ R.frames ∧ 8 + (maxL + 11) + lo ≤ R.locals)
    (hP : va_P G.1 vwCl wc H) (hn : As.length = n) (hls : ls.size = nL) (hW : (rest.map fun v => v.category).sum ≤ 8) (hdg : decode cc pc = .ok (.invokespecial index, 3)) (hf : cells + mc ≤ R.cells ∧ slots + ms ≤ R.slots) (hS : va_S A0 H0 H locs) (hA : ∀ q, va_A wc H.size q → A0 q)
    (kk : ∀ (H1 : Heap) (locs1 : List Loc), R' H1 → H.size ≤ H1.size → (∀ q : Nat, q < H.size → ¬ va_A wc H.size q → H1[q]? = H[q]?) → va_S A0 H0 H1 locs1 → W p l e R s m args below meth c H1 locs1 (cells + mc) (slots + ms) Q (F0 m (pc + 3) ls rest)) : W p l e R s m args below meth c H locs cells slots Q (F0 m pc ls (As.reverse ++ .ref b :: rest)) :=
  z_backN (va_runI (As := As) (rest := rest) (n := n) S hM (cwI n S.2.2.2.2 hG hw rfl rfl hini hl hin hy1 hd hR) ⟨Mn.blind, fun U hU hWm => ⟨rfl, by rw [hU], by rw [hU]; exact hP, hK.warm hWm, hAO.moved hWm.alike⟩⟩ rfl hn hls rfl (lv_room hW) hdg hf) hS hA kk
theorem z_callIN {As : List Value} {A0 : Nat → Prop} {R' : Heap → Prop} {y : MethodName} {wd wd' Ts : List Cond} {fr mc ms lo b index nL maxL : Nat} {own host : String} {bytes : ByteArray} {wc : va_W}
    (n : Nat) (S : CallFix p m c cc nL s args Ts own) (hK : KK G s) (hAO : AO G s) (hM : Mn l y wd fr mc ms lo (.ref b :: As) G wc H.size R') (hG : GoodIn Ts wd) (hw : wd = Cond.code y bytes maxL none :: wd') (hini : (Cond.initialized y.cls).before args s = true) (hl : va_Nw (.methodLinkNest own index y host) s) (hin : (Cond.instanceMethod y).before args s = true) (hy1 : y.name = "<init>")
    (hd : y.cls ≠ "java/lang/invoke/MethodHandle" ∧ y.cls ≠ "java/lang/invoke/VarHandle" ∧ (parseMethodDescriptor y.desc).map (fun d => d.parameters.length) = some n) (hR : fr + 1 ≤ R.frames ∧ 8 + (maxL + 11) + lo ≤ R.locals)
    (hP : va_P G.1 vwCl wc H) (hn : As.length = n) (hls : ls.size = nL) (hW : (rest.map fun v => v.category).sum ≤ 8) (hdg : decode cc pc = .ok (.invokespecial index, 3)) (hf : cells + mc ≤ R.cells ∧ slots + ms ≤ R.slots) (hS : va_S A0 H0 H locs) (hA : ∀ q, va_A wc H.size q → A0 q)
    (kk : ∀ (H1 : Heap) (locs1 : List Loc), R' H1 → H.size ≤ H1.size → (∀ q : Nat, q < H.size → ¬ va_A wc H.size q → H1[q]? = H[q]?) → va_S A0 H0 H1 locs1 → W p l e R s m args below meth c H1 locs1 (cells + mc) (slots + ms) Q (F0 m (pc + 3) ls rest)) : W p l e R s m args below meth c H locs cells slots Q (F0 m pc ls (As.reverse ++ .ref b :: rest)) :=
  z_backN (va_runIN (As := As) (rest := rest) (n := n) S hM ⟨va_cnB n S.2.2.2.2 hG hw rfl rfl hl hini hd hR, hy1, hin⟩ ⟨Mn.blind, fun U hU hWm => ⟨rfl, by rw [hU], by rw [hU]; exact hP, hK.warm hWm, hAO.moved hWm.alike⟩⟩ rfl hn hls rfl (lv_room hW) hdg hf) hS hA kk
end MC
