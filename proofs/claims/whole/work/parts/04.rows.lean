/-! rows of this claim: ints by their numbers, arrays by functions, contracts by worlds -/
/-- a slot, a place or a number, or NONE -/
def lk (o : Option Nat) : Int32 := match o with
  | none => -1
  | some k => nI k
def fN (f : Nat → Nat) : Nat → Int32 := fun i => nI (f i)
def fO (f : Nat → Option Nat) : Nat → Int32 := fun i => lk (f i)
theorem upd_fN (f : Nat → Nat) (j x : Nat) : upd (fN f) j (nI x) = fN (va_up f j x) := by
  funext i
  unfold upd fN va_up
  by_cases h : i = j <;> simp [h]
theorem upd_fO (f : Nat → Option Nat) (j : Nat) (x : Option Nat) : upd (fO f) j (lk x) = fO (va_up f j x) := by
  funext i
  unfold upd fO va_up
  by_cases h : i = j <;> simp [h]
theorem nI_nm1 {n : Nat} (h : n < 2 ^ 31) : ¬ nI n = -1 := by
  intro q
  have a := nI_toInt h
  rw [q] at a
  have : (-1 : Int32).toInt = -1 := by decide
  omega
/-- one less, or none -/
def pr (n : Nat) : Option Nat := match n with
  | 0 => none
  | k + 1 => some k
theorem lk_pr (n : Nat) : nI n - 1 = lk (pr n) := by
  cases n with
  | zero => rfl
  | succ k => exact nI_pred k
theorem lk_pr' (n : Nat) : nI n + Int32.ofInt (-1) = lk (pr n) := by
  cases n with
  | zero => rfl
  | succ k => exact pk_m1 k
theorem up_s {α : Type} (f : Nat → α) (k : Nat) (v : α) : va_up f k v k = v := by simp [va_up]
theorem up_n {α : Type} {f : Nat → α} {k j : Nat} {v : α} (h : j ≠ k) : va_up f k v j = f j := by simp [va_up, h]
abbrev Gd : Type := va_G × ClassId × ClassId × ClassId
def tys (G : Gd) : List (ClassId × FieldType) := [(G.2.1, .int), (G.2.2.1, .array .int), (G.2.2.2, .boolean)]
/-- what the tables say, and what never changes -/
def KK (G : Gd) (U : State) : Prop := va_K G.1 vwCl (tys G) U ∧ nst U
theorem KK.warm {G : Gd} {s U : State} (hW : s.WarmedH U.vm) (h : KK G s) : KK G U := ⟨va_K.moved hW.alike h.1, h.2.warm hW⟩
theorem KK.call {G : Gd} {U : State} (h : KK G U) (g : JFrame) (mk : MethodId) (a : Array Value) : KK G (U.calling g mk a) := ⟨va_K.moved (u := U) (U := U.calling g mk a) (Vm.Alike.refl U.vm) h.1, h.2.same rfl⟩
/-- a method's end: its answer and the heap, and nothing changed outside A -/
def Qz (A : Nat → Prop) (R' : Option Value → Heap → Prop) : Array Value → State → Outcome → State → Prop := fun _ st oc t => (∃ v, oc = .returned v ∧ R' v t.heap) ∧ va_F A st t
/-- a contract over a world of cells: a method that makes no cell -/
def Mt (l : Launch) (y : MethodName) (wd : List Cond) (fr lo : Nat) (av : List Value) (G : Gd) (ws : va_W) (A : Nat → Prop) (R' : Option Value → Heap → Prop) : Prop :=
  Met l y wd { frames := fr, cells := 0, slots := 0, locals := lo } (va_Pc av (fun U => va_P G.1 vwCl ws U.heap ∧ KK G U)) (Qz A R') 0 0 A
theorem Mt.mk {l : Launch} {y : MethodName} {wd wd' : List Cond} {fr lo : Nat} {av : List Value} {G : Gd} {ws : va_W} {A : Nat → Prop} {R' : Option Value → Heap → Prop} (cc : ByteArray) (maxL : Nat) (ret : Option FieldType)
    (hy : plainName y.cls = true) (hw : wd = Cond.code y cc maxL ret :: wd') (hlen : (lg_sl av).length ≤ maxL)
    (body : ∀ (p : Program) (e : Env) (s : State) (m : MethodId) (below : List Frame) (meth : Method) (c : Code) (ls : Array Slot), p.tables.exec = Jvm.exec → c.code = cc → meth.sig.returnType = ret → c.maxLocals = maxL → (∀ w ∈ wd, w.before av.toArray s = true) → s.vm.findClass y.cls = some m.cls → meth.locks = false → va_P G.1 vwCl ws s.heap → KK G s → lv_has ls maxL (lv_args 0 av) →
      W p l e { frames := fr, cells := 0, slots := 0, locals := lo } s m av.toArray below meth c s.heap [] 0 0 (MQ below (Qz A R') av.toArray s 0 0 A) (F0 m 0 ls [])) : Mt l y wd fr lo av G ws A R' := by
  refine Met.ofW (cc := cc) (maxL := maxL) (ret := ret) hy hw ?_
  intro p e s m args below meth c s₁ B hml hv
  obtain ⟨rfl, hP, hKK⟩ := hv
  rw [lg_entry_eq]
  exact body p e s m below meth c _ B.exec B.bytes B.returns hml (atoms_spec (ws := wd) B.pre) (findClass_of_methodNamed B.named) B.notSynchronized hP hKK (lv_entry av hlen)
/-- the world's addresses are apart and may be written -/
theorem D_of {A : Nat → Prop} {AL : List Nat} (hnd : AL.Nodup) (hA : ∀ q ∈ AL, A q) (ws : va_W) (h : ws.map Prod.fst = AL) : va_D A ws := by
  have hk : ∀ (k : Nat) (q : Nat × va_E), ws[k]? = some q → AL[k]? = some q.1 := fun k q hq => by rw [← h, List.getElem?_map, hq]; rfl
  refine ⟨fun i j p q hi hj hpq => ?_, fun k q hq => hA _ (List.mem_of_getElem? (hk k q hq))⟩
  have h1 := hk i p hi
  have h2 := hk j q hj
  rw [hpq] at h1
  obtain ⟨l1, e1⟩ := List.getElem?_eq_some_iff.mp h1
  obtain ⟨l2, e2⟩ := List.getElem?_eq_some_iff.mp h2
  have hp := List.pairwise_iff_getElem.mp hnd
  rcases Nat.lt_trichotomy i j with z | z | z
  · exact absurd (e1.trans e2.symm) (hp i j l1 l2 z)
  · exact z
  · exact absurd (e2.trans e1.symm) (hp j i l2 l1 z)
/-- cells that a call couldn't change -/
theorem P_keep {D : va_G} {cl : List vw_C} {ws : va_W} {H H1 : Heap} {A1 : Nat → Prop} (hP : va_P D cl ws H) (hk : ∀ q : Nat, q < H.size → ¬ A1 q → H1[q]? = H[q]?) (hn : ∀ q ∈ ws.map Prod.fst, ¬ A1 q) : va_P D cl ws H1 :=
  hP.kept (fun k q hq => hk q.1 (hP k q hq).lt (hn _ (List.mem_map.mpr ⟨q, List.mem_of_getElem? hq, rfl⟩)))
theorem P_keep0 {D : va_G} {cl : List vw_C} {ws : va_W} {H H1 : Heap} (hP : va_P D cl ws H) (hk : ∀ q : Nat, q < H.size → ¬ False → H1[q]? = H[q]?) : va_P D cl ws H1 :=
  hP.kept (fun k q hq => hk q.1 (hP k q hq).lt id)
section ZR
variable {p : Program} {l : Launch} {e : Env} {R : Room} {s : State} {m : MethodId} {args : Array Value} {below : List Frame} {meth : Method} {c : Code} {H : Heap} {locs : List Loc} {cells slots : Nat} {Q : State → Prop}
variable {cc : ByteArray} {pc : Nat} {ls : Array Slot} {rest : List Value} {G : Gd} {A : Nat → Prop} {a : Nat} {ws : va_W} {H0 : Heap}
theorem z_iret {A : Nat → Prop} {R' : Option Value → Heap → Prop} {v : Int32} (hx : p.tables.exec = Jvm.exec) (hb : c.code = cc) (hr : meth.sig.returnType = some .int) (hlocks : meth.locks = false) (hR : R' (some (.int v)) H) (hS : va_S A s.heap H locs) (hdg : decode cc pc = .ok (.ireturn, 1)) :
    W p l e R s m args below meth c H locs cells slots (MQ below (Qz A R') args s cells slots A) (F0 m pc ls [.int v]) :=
  W.iret hx hb hr (fun t ht hW => ⟨⟨_, rfl, by rw [ht]; exact hR⟩, hS.F ht⟩) hS.2.2 hdg hlocks
theorem z_vret {A : Nat → Prop} {R' : Option Value → Heap → Prop} (hx : p.tables.exec = Jvm.exec) (hb : c.code = cc) (hr : meth.sig.returnType = none) (hlocks : meth.locks = false) (hR : R' none H) (hS : va_S A s.heap H locs) (hdg : decode cc pc = .ok (.return_, 1)) :
    W p l e R s m args below meth c H locs cells slots (MQ below (Qz A R') args s cells slots A) (F0 m pc ls []) :=
  W.vret hx hb hr (fun t ht hW => ⟨⟨_, rfl, by rw [ht]; exact hR⟩, hS.F ht⟩) hS.2.2 hdg hlocks
theorem z_zret {A : Nat → Prop} {R' : Option Value → Heap → Prop} {v : Int32} (hx : p.tables.exec = Jvm.exec) (hb : c.code = cc) (hr : meth.sig.returnType = some .boolean) (hn : narrow .boolean (.int v) = .int v) (hlocks : meth.locks = false) (hR : R' (some (.int v)) H) (hS : va_S A s.heap H locs) (hdg : decode cc pc = .ok (.ireturn, 1)) :
    W p l e R s m args below meth c H locs cells slots (MQ below (Qz A R') args s cells slots A) (F0 m pc ls [.int v]) :=
  W.zret hx hb hr hn (fun t ht hW => ⟨⟨_, rfl, by rw [ht]; exact hR⟩, hS.F ht⟩) hS.2.2 hdg hlocks
/-- the top of the stack in other words -/
theorem z_top {x y : Int32} (h : x = y) (k : W p l e R s m args below meth c H locs cells slots Q (F0 m pc ls (.int y :: rest))) : W p l e R s m args below meth c H locs cells slots Q (F0 m pc ls (.int x :: rest)) := by rw [h]; exact k
theorem z_ald (hx : p.tables.exec = Jvm.exec) (hb : c.code = cc) (hK : KK G s) (hP : va_P G.1 vwCl ws H) (q0 : Nat) {n : Nat} {g : Nat → Nat} (ha : ws[q0]? = some (a, .inl (G.2.2.1, n, .inr (.inr (.inr (.inr (fun i => some (g i)))))))) {j : Nat} (hj : j < n) (hn : n < 2 ^ 31) (hdg : decode cc pc = .ok (.aaload, 1))
    (kk : W p l e R s m args below meth c H locs cells slots Q (F0 m (pc + 1) ls (.ref (g j) :: rest))) : W p l e R s m args below meth c H locs cells slots Q (F0 m pc ls (.int (nI j) :: .ref a :: rest)) := by
  have hin : vp_in (nI j) n := vp_in_nI hj hn
  have hcl : (nI j).toNatClampNeg = j := nI_clamp (by omega)
  exact W.aald (v := .ref (g j)) (ty := .array .int) hx hb (hP q0 _ ha) ((hK.1.2 1 _ rfl).1 n (fun j => va_rf (some (g j)))) rfl (fun q => by cases q) (by show ¬ (nI j < 0 ∨ (arrV _ _ _).slots.size ≤ _); rw [arrV_size]; exact hin) (by show (arrV _ _ _).slots[_]? = _; rw [hcl, arrV_read _ _ hj]; rfl) rfl rfl hdg kk
theorem z_iald (hx : p.tables.exec = Jvm.exec) (hb : c.code = cc) (hK : KK G s) (hP : va_P G.1 vwCl ws H) (q0 : Nat) {n : Nat} {f : Nat → Int32} (ha : ws[q0]? = some (a, .inl (G.2.1, n, .inl f))) {j : Nat} (hj : j < n) (hn : n < 2 ^ 31) (hdg : decode cc pc = .ok (.iaload, 1))
    (kk : W p l e R s m args below meth c H locs cells slots Q (F0 m (pc + 1) ls (.int (f j) :: rest))) : W p l e R s m args below meth c H locs cells slots Q (F0 m pc ls (.int (nI j) :: .ref a :: rest)) := by
  refine va_iald hx hb hK.1 hP q0 0 ha rfl (vp_in_nI hj hn) hdg ?_
  rw [nI_clamp (by omega)]
  exact kk
theorem z_iast (hx : p.tables.exec = Jvm.exec) (hb : c.code = cc) (hK : KK G s) (hP : va_P G.1 vwCl ws H) (hD : va_D A ws) (hS : va_S A H0 H locs) (q0 : Nat) {n : Nat} {f : Nat → Int32} (ha : ws[q0]? = some (a, .inl (G.2.1, n, .inl f))) {j : Nat} {x : Int32} (hj : j < n) (hn : n < 2 ^ 31) (hdg : decode cc pc = .ok (.iastore, 1))
    (kk : ∀ (H1 : Heap) (locs1 : List Loc), va_P G.1 vwCl (ws.set q0 (a, .inl (G.2.1, n, .inl (upd f j x)))) H1 → va_S A H0 H1 locs1 → W p l e R s m args below meth c H1 locs1 cells slots Q (F0 m (pc + 1) ls rest)) : W p l e R s m args below meth c H locs cells slots Q (F0 m pc ls (.int x :: .int (nI j) :: .ref a :: rest)) := by
  refine va_iast hx hb hK.1 hP hD hS q0 0 ha rfl (vp_in_nI hj hn) hdg (fun H1 locs1 h1 _ h3 => kk H1 locs1 ?_ h3)
  rw [nI_clamp (by omega)] at h1
  exact h1
theorem z_iinc {i nL k : Nat} {x : Nat} {lv lv' : List (Nat × Value)} (hx : p.tables.exec = Jvm.exec) (hb : c.code = cc) (hdg : decode cc pc = .ok (.iinc i 1, 3)) (h : lv_has ls nL lv) (hk : lv[k]? = some (i, .int (nI x))) (hn : i < nL) (hl : (i, Value.int (nI (x + 1))) :: lv.filter (fun q => !(q.1 == i) && !(q.1 + 1 == i && q.2.category == 2)) = lv')
    (kk : ∀ ls' : Array Slot, lv_has ls' nL lv' → W p l e R s m args below meth c H locs cells slots Q (F0 m (pc + 3) ls' rest)) : W p l e R s m args below meth c H locs cells slots Q (F0 m pc ls rest) :=
  lv_iinc hx hb hdg h hk (by rw [nI_succ]; rfl) hn hl kk
theorem z_icmp_ge (hx : p.tables.exec = Jvm.exec) (hb : c.code = cc) {x y : Nat} {off : Int} {tgt : Nat} (h1 : x < 2 ^ 31) (h2 : y < 2 ^ 31) (hdg : decode cc pc = .ok (.if_icmp .ge off, 3)) (ht : (pc : Int) + off = (tgt : Int))
    (kt : y ≤ x → W p l e R s m args below meth c H locs cells slots Q (F0 m tgt ls rest)) (kf : x < y → W p l e R s m args below meth c H locs cells slots Q (F0 m (pc + 3) ls rest)) : W p l e R s m args below meth c H locs cells slots Q (F0 m pc ls (.int (nI y) :: .int (nI x) :: rest)) :=
  lv_icmp_ge hx hb hdg ht (fun h => kt ((nI_leI h2 h1).mp h)) (fun h => kf (Nat.lt_of_not_le (fun q => h ((nI_leI h2 h1).mpr q))))
theorem z_icmp_lt (hx : p.tables.exec = Jvm.exec) (hb : c.code = cc) {x y : Nat} {off : Int} {tgt : Nat} (h1 : x < 2 ^ 31) (h2 : y < 2 ^ 31) (hdg : decode cc pc = .ok (.if_icmp .lt off, 3)) (ht : (pc : Int) + off = (tgt : Int))
    (kt : x < y → W p l e R s m args below meth c H locs cells slots Q (F0 m tgt ls rest)) (kf : y ≤ x → W p l e R s m args below meth c H locs cells slots Q (F0 m (pc + 3) ls rest)) : W p l e R s m args below meth c H locs cells slots Q (F0 m pc ls (.int (nI y) :: .int (nI x) :: rest)) :=
  lv_icmp_lt hx hb hdg ht (fun h => kt ((nI_ltI h1 h2).mp h)) (fun h => kf (Nat.le_of_not_lt (fun q => h ((nI_ltI h1 h2).mpr q))))
theorem z_icmp_gt (hx : p.tables.exec = Jvm.exec) (hb : c.code = cc) {x y : Nat} {off : Int} {tgt : Nat} (h1 : x < 2 ^ 31) (h2 : y < 2 ^ 31) (hdg : decode cc pc = .ok (.if_icmp .gt off, 3)) (ht : (pc : Int) + off = (tgt : Int))
    (kt : y < x → W p l e R s m args below meth c H locs cells slots Q (F0 m tgt ls rest)) (kf : x ≤ y → W p l e R s m args below meth c H locs cells slots Q (F0 m (pc + 3) ls rest)) : W p l e R s m args below meth c H locs cells slots Q (F0 m pc ls (.int (nI y) :: .int (nI x) :: rest)) :=
  lv_icmp_gt hx hb hdg ht (fun h => kt ((nI_ltI h2 h1).mp h)) (fun h => kf (Nat.le_of_not_lt (fun q => h ((nI_ltI h2 h1).mpr q))))
theorem z_icmp_eq (hx : p.tables.exec = Jvm.exec) (hb : c.code = cc) {x y : Nat} {off : Int} {tgt : Nat} (h1 : x < 2 ^ 31) (h2 : y < 2 ^ 31) (hdg : decode cc pc = .ok (.if_icmp .eq off, 3)) (ht : (pc : Int) + off = (tgt : Int))
    (kt : x = y → W p l e R s m args below meth c H locs cells slots Q (F0 m tgt ls rest)) (kf : x ≠ y → W p l e R s m args below meth c H locs cells slots Q (F0 m (pc + 3) ls rest)) : W p l e R s m args below meth c H locs cells slots Q (F0 m pc ls (.int (nI y) :: .int (nI x) :: rest)) :=
  lv_icmp_eq hx hb hdg ht (fun h => kt ((nI_eq h1 h2).mp h)) (fun h => kf (fun q => h ((nI_eq h1 h2).mpr q)))
theorem z_icmp_ne (hx : p.tables.exec = Jvm.exec) (hb : c.code = cc) {x y : Nat} {off : Int} {tgt : Nat} (h1 : x < 2 ^ 31) (h2 : y < 2 ^ 31) (hdg : decode cc pc = .ok (.if_icmp .ne off, 3)) (ht : (pc : Int) + off = (tgt : Int))
    (kt : x ≠ y → W p l e R s m args below meth c H locs cells slots Q (F0 m tgt ls rest)) (kf : x = y → W p l e R s m args below meth c H locs cells slots Q (F0 m (pc + 3) ls rest)) : W p l e R s m args below meth c H locs cells slots Q (F0 m pc ls (.int (nI y) :: .int (nI x) :: rest)) :=
  lv_icmp_ne hx hb hdg ht (fun h => kt (fun q => h ((nI_eq h1 h2).mpr q))) (fun h => kf ((nI_eq h1 h2).mp h))
/-- against NONE -/
theorem z_none_eq (hx : p.tables.exec = Jvm.exec) (hb : c.code = cc) {o : Option Nat} {off : Int} {tgt : Nat} (h1 : ∀ k, o = some k → k < 2 ^ 31) (hdg : decode cc pc = .ok (.if_icmp .eq off, 3)) (ht : (pc : Int) + off = (tgt : Int))
    (kt : o = none → W p l e R s m args below meth c H locs cells slots Q (F0 m tgt ls rest)) (kf : ∀ k, o = some k → W p l e R s m args below meth c H locs cells slots Q (F0 m (pc + 3) ls rest)) : W p l e R s m args below meth c H locs cells slots Q (F0 m pc ls (.int (-1) :: .int (lk o) :: rest)) := by
  refine lv_icmp_eq hx hb hdg ht (fun h => ?_) (fun h => ?_)
  · cases o with
    | none => exact kt rfl
    | some k => exact absurd h (nI_nm1 (h1 k rfl))
  · cases o with
    | none => exact absurd rfl h
    | some k => exact kf k rfl
theorem z_none_ne (hx : p.tables.exec = Jvm.exec) (hb : c.code = cc) {o : Option Nat} {off : Int} {tgt : Nat} (h1 : ∀ k, o = some k → k < 2 ^ 31) (hdg : decode cc pc = .ok (.if_icmp .ne off, 3)) (ht : (pc : Int) + off = (tgt : Int))
    (kt : ∀ k, o = some k → W p l e R s m args below meth c H locs cells slots Q (F0 m tgt ls rest)) (kf : o = none → W p l e R s m args below meth c H locs cells slots Q (F0 m (pc + 3) ls rest)) : W p l e R s m args below meth c H locs cells slots Q (F0 m pc ls (.int (-1) :: .int (lk o) :: rest)) := by
  refine lv_icmp_ne hx hb hdg ht (fun h => ?_) (fun h => ?_)
  · cases o with
    | none => exact absurd rfl h
    | some k => exact kt k rfl
  · cases o with
    | none => exact kf rfl
    | some k => exact absurd h (nI_nm1 (h1 k rfl))
theorem z_if_ne (hx : p.tables.exec = Jvm.exec) (hb : c.code = cc) {x : Nat} {off : Int} {tgt : Nat} (h1 : x < 2 ^ 31) (hdg : decode cc pc = .ok (.ifCond .ne off, 3)) (ht : (pc : Int) + off = (tgt : Int))
    (kt : x ≠ 0 → W p l e R s m args below meth c H locs cells slots Q (F0 m tgt ls rest)) (kf : x = 0 → W p l e R s m args below meth c H locs cells slots Q (F0 m (pc + 3) ls rest)) : W p l e R s m args below meth c H locs cells slots Q (F0 m pc ls (.int (nI x) :: rest)) :=
  lv_if_ne hx hb hdg ht (fun h => kt (fun q => h (by rw [q]; rfl))) (fun h => kf (by
    rcases Nat.eq_zero_or_pos x with q | q
    · exact q
    · exact absurd h (nI_ne0 q h1)))
theorem z_if_eq (hx : p.tables.exec = Jvm.exec) (hb : c.code = cc) {x : Nat} {off : Int} {tgt : Nat} (h1 : x < 2 ^ 31) (hdg : decode cc pc = .ok (.ifCond .eq off, 3)) (ht : (pc : Int) + off = (tgt : Int))
    (kt : x = 0 → W p l e R s m args below meth c H locs cells slots Q (F0 m tgt ls rest)) (kf : x ≠ 0 → W p l e R s m args below meth c H locs cells slots Q (F0 m (pc + 3) ls rest)) : W p l e R s m args below meth c H locs cells slots Q (F0 m pc ls (.int (nI x) :: rest)) :=
  lv_if_eq hx hb hdg ht (fun h => kt (by
    rcases Nat.eq_zero_or_pos x with q | q
    · exact q
    · exact absurd h (nI_ne0 q h1))) (fun h => kf (fun q => h (by rw [q]; rfl)))
/-- behind a call -/
theorem z_back {st0 : List Value} {av : Array Value} {A0 A1 : Nat → Prop} {R' : Option Value → Heap → Prop} (hr : va_Run p l e R s m args below meth c H locs cells slots 0 0 (F0 m pc ls st0) rest (Qz A1 R' av) A1) (hS : va_S A0 H0 H locs) (hA : ∀ q, A1 q → A0 q)
    (kk : ∀ (v : Option Value) (H1 : Heap) (locs1 : List Loc), R' v H1 → (∀ q : Nat, q < H.size → ¬ A1 q → H1[q]? = H[q]?) → va_S A0 H0 H1 locs1 → W p l e R s m args below meth c H1 locs1 cells slots Q (F0 m (pc + 3) ls (v.toList ++ rest))) : W p l e R s m args below meth c H locs cells slots Q (F0 m pc ls st0) := by
  intro T hT X
  obtain ⟨v, st₀, t, T', L, h0, X', hL, e1, e2, ⟨⟨v', hv, hR⟩, hz, hk⟩, st⟩ := hr T hT X
  cases hv
  rw [h0] at hz hk
  obtain ⟨t2, a1, b1⟩ := kk v T'.heap (locs ++ L) (by rw [e1]; exact hR) (fun q h1 h2 => by rw [e1]; exact hk q h1 h2)
    ⟨Nat.le_trans hS.1 (by rw [e1]; exact hz), fun q h1 h2 => by rw [e1, hk q (Nat.lt_of_lt_of_le h1 hS.1) (fun z => h2 (hA q z))]; exact hS.2.1 q h1 h2, fun q hq => by
      rcases List.mem_append.mp hq with h | h
      · exact hS.2.2 q h
      · exact hA _ (hL q h)⟩ T' rfl X'
  exact ⟨t2, st t2 a1, b1⟩
theorem Mt.blind {av : List Value} {G : Gd} {ws : va_W} : FrameBlind (va_Pc av (fun U => va_P G.1 vwCl ws U.heap ∧ KK G U)) := fun a U g mk h => ⟨h.1, h.2.1, h.2.2.call g mk a⟩
/-- invokevirtual of a method with such a contract -/
theorem z_callV {st0 As : List Value} {A0 A1 : Nat → Prop} {R' : Option Value → Heap → Prop} {y : MethodName} {wd wd' Ts : List Cond} {fr lo b index nL maxL : Nat} {C own : String} {bytes : ByteArray} {ret : Option FieldType} {wc : va_W}
    (n : Nat) (S : CallFix p m c cc nL s args Ts own) (hK : KK G s) (hM : Mt l y wd fr lo (.ref b :: As) G wc A1 R') (hG : GoodIn Ts (wsV own index C y wd)) (hw : wd = Cond.code y bytes maxL ret :: wd')
    (hd : y.cls = C ∧ y.cls ≠ "java/lang/invoke/MethodHandle" ∧ y.cls ≠ "java/lang/invoke/VarHandle" ∧ (parseMethodDescriptor y.desc).map (fun d => d.parameters.length) = some n) (hR : fr + 1 ≤ R.frames ∧ 8 + (maxL + 11) + lo ≤ R.locals)
    (hP : va_P G.1 vwCl wc H) {ci : Nat} {fs : List Value} {q : vw_C} (q0 : Nat) (hq0 : wc[q0]? = some (b, .inr (ci, fs))) (hci : vwCl[ci]? = some q) (hqC : q.1 = C)
    (hn : As.length = n) (hls : ls.size = nL) (hst : st0 = As.reverse ++ .ref b :: rest) (hW : (rest.map fun v => v.category).sum ≤ 8) (hdg : decode cc pc = .ok (.invokevirtual index, 3)) (hf : cells ≤ R.cells ∧ slots ≤ R.slots) (hS : va_S A0 H0 H locs) (hA : ∀ q, A1 q → A0 q)
    (kk : ∀ (v : Option Value) (H1 : Heap) (locs1 : List Loc), R' v H1 → (∀ q : Nat, q < H.size → ¬ A1 q → H1[q]? = H[q]?) → va_S A0 H0 H1 locs1 → W p l e R s m args below meth c H1 locs1 cells slots Q (F0 m (pc + 3) ls (v.toList ++ rest))) : W p l e R s m args below meth c H locs cells slots Q (F0 m pc ls st0) := by
  subst hqC
  subst hst
  exact z_back (va_runV (As := As) (rest := rest) (n := n) S hM (cwV n S.2.2.2.2 hG hw rfl rfl hd hR) ⟨Mt.blind, va_recv hK.1 hP hci hq0, fun U hU hWm => ⟨rfl, by rw [hU]; exact hP, hK.warm hWm⟩⟩ rfl hn hls rfl (lv_room hW) hdg hf) hS hA kk
/-- invokestatic -/
theorem z_callS {st0 As : List Value} {A0 A1 : Nat → Prop} {R' : Option Value → Heap → Prop} {y : MethodName} {wd wd' Ts : List Cond} {fr lo index nL maxL : Nat} {own : String} {bytes : ByteArray} {ret : Option FieldType} {wc : va_W}
    (n : Nat) (S : CallFix p m c cc nL s args Ts own) (hK : KK G s) (hM : Mt l y wd fr lo As G wc A1 R') (hG : GoodIn Ts (va_wsS own index y wd)) (hw : wd = Cond.code y bytes maxL ret :: wd')
    (hd : y.cls ≠ "java/lang/invoke/MethodHandle" ∧ y.cls ≠ "java/lang/invoke/VarHandle" ∧ (parseMethodDescriptor y.desc).map (fun d => d.parameters.length) = some n) (hR : fr + 1 ≤ R.frames ∧ 8 + (maxL + 11) + lo ≤ R.locals)
    (hP : va_P G.1 vwCl wc H) (hn : As.length = n) (hls : ls.size = nL) (hst : st0 = As.reverse ++ rest) (hW : (rest.map fun v => v.category).sum ≤ 8) (hdg : decode cc pc = .ok (.invokestatic index, 3)) (hf : cells ≤ R.cells ∧ slots ≤ R.slots) (hS : va_S A0 H0 H locs) (hA : ∀ q, A1 q → A0 q)
    (kk : ∀ (v : Option Value) (H1 : Heap) (locs1 : List Loc), R' v H1 → (∀ q : Nat, q < H.size → ¬ A1 q → H1[q]? = H[q]?) → va_S A0 H0 H1 locs1 → W p l e R s m args below meth c H1 locs1 cells slots Q (F0 m (pc + 3) ls (v.toList ++ rest))) : W p l e R s m args below meth c H locs cells slots Q (F0 m pc ls st0) := by
  subst hst
  exact z_back (va_runS (As := As) (rest := rest) (n := n) S hM (va_cwS n S.2.2.2.2 hG hw rfl rfl hd hR) ⟨Mt.blind, fun U hU hWm => ⟨rfl, by rw [hU]; exact hP, hK.warm hWm⟩⟩ rfl hn hls rfl (lv_room hW) hdg hf) hS hA kk
theorem z_ialdN (hx : p.tables.exec = Jvm.exec) (hb : c.code = cc) (hK : KK G s) (hP : va_P G.1 vwCl ws H) (q0 : Nat) {n : Nat} {f : Nat → Nat} (ha : ws[q0]? = some (a, .inl (G.2.1, n, .inl (fN f)))) {j : Nat} (hj : j < n) (hn : n < 2 ^ 31) (hdg : decode cc pc = .ok (.iaload, 1))
    (kk : W p l e R s m args below meth c H locs cells slots Q (F0 m (pc + 1) ls (.int (nI (f j)) :: rest))) : W p l e R s m args below meth c H locs cells slots Q (F0 m pc ls (.int (nI j) :: .ref a :: rest)) := z_iald hx hb hK hP q0 ha hj hn hdg kk
theorem z_ialdO (hx : p.tables.exec = Jvm.exec) (hb : c.code = cc) (hK : KK G s) (hP : va_P G.1 vwCl ws H) (q0 : Nat) {n : Nat} {f : Nat → Option Nat} (ha : ws[q0]? = some (a, .inl (G.2.1, n, .inl (fO f)))) {j : Nat} (hj : j < n) (hn : n < 2 ^ 31) (hdg : decode cc pc = .ok (.iaload, 1))
    (kk : W p l e R s m args below meth c H locs cells slots Q (F0 m (pc + 1) ls (.int (lk (f j)) :: rest))) : W p l e R s m args below meth c H locs cells slots Q (F0 m pc ls (.int (nI j) :: .ref a :: rest)) := z_iald hx hb hK hP q0 ha hj hn hdg kk
theorem z_iastN (hx : p.tables.exec = Jvm.exec) (hb : c.code = cc) (hK : KK G s) (hP : va_P G.1 vwCl ws H) (hD : va_D A ws) (hS : va_S A H0 H locs) (q0 : Nat) {n : Nat} {f : Nat → Nat} (ha : ws[q0]? = some (a, .inl (G.2.1, n, .inl (fN f)))) {j x : Nat} (hj : j < n) (hn : n < 2 ^ 31) (hdg : decode cc pc = .ok (.iastore, 1))
    (kk : ∀ (H1 : Heap) (locs1 : List Loc), va_P G.1 vwCl (ws.set q0 (a, .inl (G.2.1, n, .inl (fN (va_up f j x))))) H1 → va_S A H0 H1 locs1 → W p l e R s m args below meth c H1 locs1 cells slots Q (F0 m (pc + 1) ls rest)) : W p l e R s m args below meth c H locs cells slots Q (F0 m pc ls (.int (nI x) :: .int (nI j) :: .ref a :: rest)) := by
  refine z_iast hx hb hK hP hD hS q0 ha hj hn hdg (fun H1 locs1 h1 h3 => kk H1 locs1 ?_ h3)
  rw [upd_fN] at h1
  exact h1
theorem z_iastO (hx : p.tables.exec = Jvm.exec) (hb : c.code = cc) (hK : KK G s) (hP : va_P G.1 vwCl ws H) (hD : va_D A ws) (hS : va_S A H0 H locs) (q0 : Nat) {n : Nat} {f : Nat → Option Nat} (ha : ws[q0]? = some (a, .inl (G.2.1, n, .inl (fO f)))) {j : Nat} {x : Option Nat} (hj : j < n) (hn : n < 2 ^ 31) (hdg : decode cc pc = .ok (.iastore, 1))
    (kk : ∀ (H1 : Heap) (locs1 : List Loc), va_P G.1 vwCl (ws.set q0 (a, .inl (G.2.1, n, .inl (fO (va_up f j x))))) H1 → va_S A H0 H1 locs1 → W p l e R s m args below meth c H1 locs1 cells slots Q (F0 m (pc + 1) ls rest)) : W p l e R s m args below meth c H locs cells slots Q (F0 m pc ls (.int (lk x) :: .int (nI j) :: .ref a :: rest)) := by
  refine z_iast hx hb hK hP hD hS q0 ha hj hn hdg (fun H1 locs1 h1 h3 => kk H1 locs1 ?_ h3)
  rw [upd_fO] at h1
  exact h1
/-- a counter that goes down, below 0 -/
theorem z_iincm {i nL k : Nat} {x : Nat} {lv lv' : List (Nat × Value)} (hx : p.tables.exec = Jvm.exec) (hb : c.code = cc) (hdg : decode cc pc = .ok (.iinc i (-1), 3)) (h : lv_has ls nL lv) (hk : lv[k]? = some (i, .int (nI x))) (hn : i < nL) (hl : (i, Value.int (lk (pr x))) :: lv.filter (fun q => !(q.1 == i) && !(q.1 + 1 == i && q.2.category == 2)) = lv')
    (kk : ∀ ls' : Array Slot, lv_has ls' nL lv' → W p l e R s m args below meth c H locs cells slots Q (F0 m (pc + 3) ls' rest)) : W p l e R s m args below meth c H locs cells slots Q (F0 m pc ls rest) :=
  lv_iinc hx hb hdg h hk (lk_pr' x) hn hl kk
theorem z_if_lt (hx : p.tables.exec = Jvm.exec) (hb : c.code = cc) {o : Option Nat} {off : Int} {tgt : Nat} (h1 : ∀ k, o = some k → k < 2 ^ 31) (hdg : decode cc pc = .ok (.ifCond .lt off, 3)) (ht : (pc : Int) + off = (tgt : Int))
    (kt : o = none → W p l e R s m args below meth c H locs cells slots Q (F0 m tgt ls rest)) (kf : ∀ k, o = some k → W p l e R s m args below meth c H locs cells slots Q (F0 m (pc + 3) ls rest)) : W p l e R s m args below meth c H locs cells slots Q (F0 m pc ls (.int (lk o) :: rest)) := by
  refine lv_if_lt hx hb hdg ht (fun h => ?_) (fun h => ?_)
  · cases o with
    | none => exact kt rfl
    | some k => exact absurd h (nI_pos (h1 k rfl))
  · cases o with
    | none => exact absurd (show (-1 : Int32) < 0 by decide) h
    | some k => exact kf k rfl
end ZR
/-- the judgement inside a method with such a contract -/
abbrev Wz (p : Program) (l : Launch) (e : Env) (fr lo : Nat) (s : State) (m : MethodId) (av : List Value) (below : List Frame) (meth : Method) (c : Code) (A : Nat → Prop) (R' : Option Value → Heap → Prop) (H : Heap) (locs : List Loc) (g : JFrame) : Prop :=
  W p l e { frames := fr, cells := 0, slots := 0, locals := lo } s m av.toArray below meth c H locs 0 0 (MQ below (Qz A R') av.toArray s 0 0 A) g
