/-! filling an array; the state of a Spread -/
def c1 (G : Gd) (x : Nat) (f : Nat → Int32) : va_W := [(x, .inl (G.2.1, 300, .inl f))]
def fl (i : Nat) (v : Int32) (f : Nat → Int32) : Nat → Int32 := fun j => if j < i then v else f j
theorem fl_0 (v : Int32) (f : Nat → Int32) : fl 0 v f = f := by
  funext j
  unfold fl
  rw [if_neg (by omega)]
theorem fl_s (i : Nat) (v : Int32) (f : Nat → Int32) : upd (fl i v f) i v = fl (i + 1) v f := by
  funext j
  unfold upd fl
  by_cases h : j = i
  · rw [if_pos h, if_pos (by omega)]
  · rw [if_neg h]
    by_cases h2 : j < i
    · rw [if_pos h2, if_pos (by omega)]
    · rw [if_neg h2, if_neg (by omega)]
theorem arrV_congr {cA : ClassId} {n : Nat} {f g : Nat → Value} (h : ∀ i, i < n → f i = g i) : arrV cA n f = arrV cA n g := by
  unfold arrV
  congr 2
  funext j
  exact h j.val j.isLt
theorem c1_congr {G : Gd} {x : Nat} {f g : Nat → Int32} {H : Heap} (h : ∀ i, i < 300 → f i = g i) (hP : va_P G.1 vwCl (c1 G x f) H) : va_P G.1 vwCl (c1 G x g) H := by
  intro k q hq
  cases k with
  | zero =>
    cases hq
    have h0 := hP 0 _ rfl
    show H[x]? = some (arrV _ 300 (fun j => .int (g j)))
    rw [← arrV_congr (f := fun j => Value.int (f j)) (fun i hi => by rw [h i hi])]
    exact h0
  | succ k => simp [c1] at hq
/-- one cell of a world has been changed -/
theorem P_one {D : va_G} {cl : List vw_C} {ws : va_W} {H H1 : Heap} {k x : Nat} {e0 e1 : va_E} {AL : List Nat} (hP : va_P D cl ws H) (hnd : AL.Nodup) (ha : ws.map Prod.fst = AL) (hk : ws[k]? = some (x, e0)) (hq : ∀ q : Nat, q < H.size → ¬ q = x → H1[q]? = H[q]?) (h1 : va_P D cl [(x, e1)] H1) : va_P D cl (ws.set k (x, e1)) H1 := by
  have hD := D_of (A := fun _ => True) hnd (fun _ _ => trivial) ws ha
  have hl := (List.getElem?_eq_some_iff.mp hk).1
  intro i q hi
  by_cases hik : i = k
  · subst hik
    rw [List.getElem?_set_self hl] at hi
    cases hi
    exact h1 0 _ rfl
  · rw [List.getElem?_set_ne (Ne.symm hik)] at hi
    exact (hP i q hi).kept (hq q.1 (hP i q hi).lt (fun z => hik (hD.1 i k q (x, e0) hi hk z)))
def aS (a : Nat → Nat) : List Nat := [a 11, a 12, a 13, a 14, a 15, a 16]
def aTS (a : Nat → Nat) : List Nat := aT a ++ aS a
theorem aTS_T {a : Nat → Nat} (h : (aTS a).Nodup) : (aT a).Nodup := (List.nodup_append.mp h).1
theorem aTS_S {a : Nat → Nat} (h : (aTS a).Nodup) : (aS a).Nodup := (List.nodup_append.mp h).2.1
/-- a thread that has been walked has been reached whole -/
def WK (p : Nat → Nat) (L : List Pr) (r : Nat → Nat) (V : Nat → Nat → Nat) : Prop := ∀ d i, d < 2 → i < L.length → V d (p i) ≠ 0 → V d (p i) = 1 ∧ ∀ j, j < L.length → key d L j = key d L i → r (p j) ≠ 0
theorem IsFar_of' {T : Nat → Nat → Prop} {n c0 : Nat} {S O : Nat → Prop} {s0 e : Nat} {q far : Nat → Nat} {b : Nat} (h : BI T n c0 S O s0 e q far b) (hO : ∀ x, x < n → ¬ O x) (hp : Pd T n s0 e q far) (hs : ∀ k, k < n → S k → far k ≠ 0 ∧ far k ≤ 1) : IsFar T n S far := by
  obtain ⟨h1, h2, h3, h4, h5, h6, h7⟩ := h
  refine ⟨fun k a1 a2 => h7 k a1 a2 (hO k a1), hs, fun j k a1 a2 a3 a4 => ?_⟩
  obtain ⟨i, c1, c2, c3⟩ := h4 j a1 a3 (hO j a1)
  subst c3
  exact hp i c1 c2 k a2 a4
/-- far, after a slot has got its row -/
theorem far_up {p r : Nat → Nat} {n j b : Nat} (hinj : ∀ i j, i < 300 → j < 300 → p i = p j → i = j) (hn : n ≤ 300) (hj : j < n) : ∀ i, i < n → va_up r (p j) b (p i) = va_up (fun i => r (p i)) j b i := by
  intro i hi
  by_cases h : i = j
  · rw [h, up_s, up_s]
  · rw [up_n h, up_n (fun e => h (hinj i j (by omega) (by omega) e))]
theorem lnkF_key {p : Nat → Nat} {N : Nat → Nat → Int32} {B F : Nat → Nat → Option Nat} {L : List Pr} {d : Nat} (h : TI p N B F L) (hd : d < 2) : lnkF p (key d L) (F d) L.length := lnkF_to (fun i hi => (h.2.2.2.1 d i hd hi).symm) (h.2.2.2.2 d hd).2
theorem lnkB_key {p : Nat → Nat} {N : Nat → Nat → Int32} {B F : Nat → Nat → Option Nat} {L : List Pr} {d : Nat} (h : TI p N B F L) (hd : d < 2) : lnkB p (key d L) (B d) L.length := lnkB_to (fun i hi => (h.2.2.2.1 d i hd hi).symm) (h.2.2.2.2 d hd).1
theorem aTS_sep {a : Nat → Nat} (h : (aTS a).Nodup) {G : Gd} {p : Nat → Nat} {N : Nat → Nat → Int32} {B F : Nat → Nat → Option Nat} {n : Nat} : ∀ q ∈ (cT G a p N B F n).map Prod.fst, ¬ (fun q => q ∈ aS a) q := by
  intro q hq hm
  have h1 : q ∈ aT a := hq
  exact (List.nodup_append.mp h).2.2 q h1 q hm rfl
