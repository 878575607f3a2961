/-! drop and rename, told by lists -/
theorem take_succ_pr (L : List Pr) {t : Nat} (h : t < L.length) : L.take (t + 1) = L.take t ++ [L.getD t (0, 0)] := by
  rw [List.take_succ, List.getD_eq_getElem?_getD, List.getElem?_eq_getElem h]
  rfl
theorem drop_cons_pr (L : List Pr) {t : Nat} (h : t < L.length) : L.drop t = L.getD t (0, 0) :: L.drop (t + 1) := by
  rw [List.getD_eq_getElem?_getD, List.getElem?_eq_getElem h]
  exact List.drop_eq_getElem_cons h
theorem erase_mid (A B : List Pr) (x : Pr) : (A ++ x :: B).eraseIdx A.length = A ++ B := by
  induction A with
  | nil => rfl
  | cons y A ih => simp [List.eraseIdx, ih]
/-- the pairs without a number -/
def wo (d : Nat) (v : Int32) (L : List Pr) : List Pr := L.filter (fun x => decide (¬ sd d x = v))
theorem wo_app (d : Nat) (v : Int32) (L M : List Pr) : wo d v (L ++ M) = wo d v L ++ wo d v M := List.filter_append ..
theorem wo_hit {d : Nat} {v : Int32} {x : Pr} {L : List Pr} (h : sd d x = v) : wo d v (x :: L) = wo d v L := by simp [wo, h]
theorem wo_miss {d : Nat} {v : Int32} {x : Pr} {L : List Pr} (h : ¬ sd d x = v) : wo d v (x :: L) = x :: wo d v L := by simp [wo, h]
theorem wo_len (d : Nat) (v : Int32) (L : List Pr) : (wo d v L).length ≤ L.length := List.length_filter_le ..
/-- the number that a pair has on the other side, and a pair by a side's number and the other one -/
def od (d : Nat) (x : Pr) : Int32 := if d = 0 then x.2 else x.1
def mkp (d : Nat) (to x : Int32) : Pr := if d = 0 then (to, x) else (x, to)
theorem sd_mkp (d : Nat) (to x : Int32) : sd d (mkp d to x) = to := by unfold sd mkp; split <;> rfl
def renS (d : Nat) (v to : Int32) (M : List Pr) (st : List Pr × Nat) (x : Pr) : List Pr × Nat :=
  if sd d x = v then (if mkp d to (od d x) ∈ M ++ st.1 then st else (st.1 ++ [mkp d to (od d x)], st.2 + 1)) else st
def ren (d : Nat) (v to : Int32) (M L : List Pr) : List Pr × Nat := L.foldl (renS d v to M) ([], 0)
theorem ren_snoc (d : Nat) (v to : Int32) (M L : List Pr) (x : Pr) : ren d v to M (L ++ [x]) = renS d v to M (ren d v to M L) x := by
  unfold ren
  rw [List.foldl_append]
  rfl
theorem mem_wo {d : Nat} {v : Int32} {L : List Pr} {y : Pr} (h : ¬ sd d y = v) : y ∈ wo d v L ↔ y ∈ L := by
  unfold wo
  rw [List.mem_filter]
  simp [h]
/-- a place is found just where the pair is a member -/
theorem placeR_mem {L : List Pr} {K0 K1 : Nat → Int32} {x y : Int32} {o : Option Nat} (h0 : ∀ i, i < L.length → K0 i = key 0 L i) (h1 : ∀ i, i < L.length → K1 i = key 1 L i) (h : placeR K0 K1 L.length x y o) : (o = none ↔ (x, y) ∉ L) := by
  have kx : ∀ i (hi : i < L.length), L[i] = (K0 i, K1 i) := by
    intro i hi
    rw [h0 i hi, h1 i hi]
    unfold key sd
    rw [List.getD_eq_getElem?_getD, List.getElem?_eq_getElem hi]
    rfl
  rcases h with ⟨e, a⟩ | ⟨i, e, a, b, -⟩
  · refine ⟨fun _ hm => ?_, fun _ => e⟩
    obtain ⟨i, hi, he⟩ := List.mem_iff_getElem.mp hm
    rw [kx i hi] at he
    exact a i hi ⟨congrArg Prod.fst he, congrArg Prod.snd he⟩
  · refine ⟨fun q => (by rw [e] at q; cases q), fun q => absurd ?_ q⟩
    have := kx i a
    rw [b.1, b.2] at this
    rw [← this]
    exact List.getElem_mem a
theorem cntK {K K' : Nat → Int32} {v : Int32} {n : Nat} (h : ∀ i, i < n → K i = K' i) : cnt K v n = cnt K' v n := by
  induction n with
  | zero => rfl
  | succ n ih =>
    simp only [cnt]
    rw [ih (fun i hi => h i (by omega)), h n (by omega)]
/-- a pair by its place -/
theorem sd_key (d : Nat) (L : List Pr) (i : Nat) : sd d (L.getD i (0, 0)) = key d L i := rfl
theorem ren_len (d : Nat) (v to : Int32) (M L : List Pr) (t : Nat) (h : t ≤ L.length) : (wo d v (L.take t)).length + (ren d v to M (L.take t)).1.length ≤ t := by
  induction t with
  | zero => simp [wo, ren]
  | succ t ih =>
    have h1 := ih (by omega)
    rw [take_succ_pr L (by omega), wo_app, ren_snoc]
    unfold renS
    by_cases hv : sd d (L.getD t (0, 0)) = v
    · rw [wo_hit hv, if_pos hv]
      split
      · simp [wo]; simp [wo] at h1; omega
      · simp [wo]; simp [wo] at h1; omega
    · rw [wo_miss hv, if_neg hv]
      simp [wo]; simp [wo] at h1; omega
theorem erase_at {A B : List Pr} {x : Pr} {t : Nat} (h : A.length = t) : (A ++ x :: B).eraseIdx t = A ++ B := by
  subst h
  exact erase_mid A B x
theorem wo_split {d t : Nat} {v : Int32} {L : List Pr} (ht : t < L.length) (hx : sd d (L.getD t (0, 0)) = v) : wo d v L = wo d v (L.take t) ++ wo d v (L.drop (t + 1)) := by
  have h := congrArg (wo d v) (List.take_append_drop t L).symm
  rw [wo_app, drop_cons_pr L ht, wo_hit hx] at h
  exact h
theorem move_mem {d t : Nat} {v to : Int32} {L App : List Pr} {y : Pr} (ht : t < L.length) (hx : sd d (L.getD t (0, 0)) = v) (hto : ¬ to = v) (hy : sd d y = to) : y ∈ wo d v (L.take t) ++ (L.drop (t + 1) ++ App) ↔ y ∈ wo d v L ++ App := by
  have hyv : ¬ sd d y = v := by rw [hy]; exact hto
  rw [wo_split ht hx]
  simp only [List.mem_append, mem_wo hyv]
  constructor
  · rintro (h | h | h)
    · exact Or.inl (Or.inl h)
    · exact Or.inl (Or.inr h)
    · exact Or.inr h
  · rintro ((h | h) | h)
    · exact Or.inl h
    · exact Or.inr (Or.inl h)
    · exact Or.inr (Or.inr h)
theorem key_mid {d : Nat} {A B : List Pr} {x : Pr} : key d (A ++ x :: B) A.length = sd d x := by
  unfold key
  rw [List.getD_eq_getElem?_getD, List.getElem?_append_right (Nat.le_refl _)]
  simp
