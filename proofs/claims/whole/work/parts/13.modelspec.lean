/-! the model's state, and sides -/
theorem P_nil {D : va_G} {cl : List vw_C} {H : Heap} : va_P D cl [] H := fun k q h => by simp at h
def sideOf (x : Int32) : Option Nat := if x = nI 0 then some 0 else if x = nI 1 then some 1 else none
theorem sideOf_some {x : Int32} {d : Nat} (h : sideOf x = some d) : d < 2 ∧ x = nI d := by
  unfold sideOf at h
  split at h
  · cases h; exact ⟨by omega, by assumption⟩
  · split at h
    · cases h; exact ⟨by omega, by assumption⟩
    · cases h
theorem sideOf_nI {d : Nat} (h : d < 2) : sideOf (nI d) = some d := by
  rcases (show d = 0 ∨ d = 1 by omega) with rfl | rfl <;> decide
def aR (b : Nat → Nat) : List Nat := [b 0, b 1, b 2, b 3, b 4, b 5, b 6, b 7, b 8, b 9, b 10, b 11, b 12]
def MI (lf rt : Nat → Int32) (L : List Pr) : Prop := L.length ≤ 300 ∧ ∀ i, i < L.length → lf i = key 0 L i ∧ rt i = key 1 L i
def ow (d : Nat) (lf rt : Nat → Int32) (k : Nat) : Int32 := if d = 0 then lf k else rt k
theorem ow_key {lf rt : Nat → Int32} {L : List Pr} {d k : Nat} (h : MI lf rt L) (hd : d < 2) (hk : k < L.length) : ow d lf rt k = key d L k := by
  rcases (show d = 0 ∨ d = 1 by omega) with rfl | rfl
  · exact (h.2 k hk).1
  · exact (h.2 k hk).2
def posR (L : List Pr) (x y : Int32) (o : Option Nat) : Prop := (o = none ∧ (x, y) ∉ L) ∨ ∃ i, o = some i ∧ i < L.length ∧ L[i]? = some (x, y)
theorem getElem_key {L : List Pr} {i : Nat} (h : i < L.length) : L[i]? = some (key 0 L i, key 1 L i) := by
  unfold key sd
  rw [List.getD_eq_getElem?_getD, List.getElem?_eq_getElem h]
  rfl
theorem placeR_pos {L : List Pr} {K0 K1 : Nat → Int32} {x y : Int32} {o : Option Nat} (h0 : ∀ i, i < L.length → K0 i = key 0 L i) (h1 : ∀ i, i < L.length → K1 i = key 1 L i) (h : placeR K0 K1 L.length x y o) : posR L x y o := by
  have hm := placeR_mem h0 h1 h
  rcases h with ⟨e, a⟩ | ⟨i, e, a, b, -⟩
  · exact Or.inl ⟨e, hm.mp e⟩
  · exact Or.inr ⟨i, e, a, by rw [getElem_key a, ← h0 i a, ← h1 i a, b.1, b.2]⟩
theorem posR_uniq {L : List Pr} (hn : L.Nodup) {x y : Int32} {o1 o2 : Option Nat} (h1 : posR L x y o1) (h2 : posR L x y o2) : o1 = o2 := by
  rcases h1 with ⟨e1, a1⟩ | ⟨i, e1, a1, b1⟩ <;> rcases h2 with ⟨e2, a2⟩ | ⟨j, e2, a2, b2⟩
  · rw [e1, e2]
  · exact absurd (List.mem_of_getElem? b2) a1
  · exact absurd (List.mem_of_getElem? b1) a2
  · rw [e1, e2]
    obtain ⟨c1, d1⟩ := List.getElem?_eq_some_iff.mp b1
    obtain ⟨c2, d2⟩ := List.getElem?_eq_some_iff.mp b2
    have hp := List.pairwise_iff_getElem.mp hn
    rcases Nat.lt_trichotomy i j with z | z | z
    · exact absurd (d1.trans d2.symm) (hp i j c1 c2 z)
    · rw [z]
    · exact absurd (d2.trans d1.symm) (hp j i c2 c1 z)
theorem MI_add {lf rt : Nat → Int32} {L : List Pr} {x y : Int32} (h : MI lf rt L) (hl : L.length < 300) : MI (upd lf L.length x) (upd rt L.length y) (L ++ [(x, y)]) := by
  refine ⟨by simp; omega, fun i hi => ?_⟩
  rw [show (L ++ [(x, y)]).length = L.length + 1 by simp] at hi
  rcases Nat.lt_succ_iff_lt_or_eq.mp hi with q | q
  · rw [pk_un (by omega), pk_un (by omega), key_app q, key_app q]
    exact h.2 i q
  · subst q
    rw [pk_us, pk_us, key_new, key_new]
    exact ⟨rfl, rfl⟩
/-- the elements from t on, up to k, moved down by one -/
def sh (t k : Nat) (f : Nat → Int32) : Nat → Int32 := fun i => if t ≤ i ∧ i < k then f (i + 1) else f i
theorem sh_0 (t : Nat) (f : Nat → Int32) : sh t t f = f := by
  funext i
  unfold sh
  rw [if_neg (by omega)]
theorem sh_s {t k : Nat} (h : t ≤ k) (f : Nat → Int32) : upd (sh t k f) k (sh t k f (k + 1)) = sh t (k + 1) f := by
  funext i
  unfold upd sh
  by_cases e : i = k
  · subst e
    rw [if_pos rfl, if_neg (by omega), if_pos (by omega)]
  · rw [if_neg e]
    by_cases e2 : t ≤ i ∧ i < k
    · rw [if_pos e2, if_pos (by omega)]
    · rw [if_neg e2, if_neg (by omega)]
theorem MI_rem {lf rt : Nat → Int32} {L : List Pr} {t : Nat} (h : MI lf rt L) (ht : t < L.length) : MI (sh t (L.length - 1) lf) (sh t (L.length - 1) rt) (L.eraseIdx t) := by
  have hlen : (L.eraseIdx t).length = L.length - 1 := List.length_eraseIdx_of_lt ht
  refine ⟨by have := h.1; omega, fun i hi => ?_⟩
  rw [hlen] at hi
  rw [key_erase, key_erase]
  by_cases e : i < t
  · rw [show sg t i = i by simp [sg, e], show sh t (L.length - 1) lf i = lf i from if_neg (by omega), show sh t (L.length - 1) rt i = rt i from if_neg (by omega)]
    exact h.2 i (by omega)
  · rw [show sg t i = i + 1 by simp [sg, e], show sh t (L.length - 1) lf i = lf (i + 1) from if_pos (by omega), show sh t (L.length - 1) rt i = rt (i + 1) from if_pos (by omega)]
    exact h.2 (i + 1) (by omega)
/-- nthR answers one place -/
theorem nthR_uniq {K : Nat → Int32} {n : Nat} {v x : Int32} {o1 o2 : Option Nat} (hn : n ≤ 300) (h1 : nthR K n v x o1) (h2 : nthR K n v x o2) : o1 = o2 := by
  rcases h1 with ⟨e1, a1⟩ | ⟨i, e1, a1, b1, c1⟩ <;> rcases h2 with ⟨e2, a2⟩ | ⟨j, e2, a2, b2, c2⟩
  · rw [e1, e2]
  · exact absurd c2 (a1 j a2 b2)
  · exact absurd c1 (a2 i a1 b1)
  · rw [e1, e2]
    have l1 := cnt_le K v i
    have l2 := cnt_le K v j
    have hc := (nI_eq (by omega) (by omega)).mp (c1.symm.trans c2)
    rcases Nat.lt_trichotomy i j with z | z | z
    · have := cnt_lt (K := K) z b1; omega
    · rw [z]
    · have := cnt_lt (K := K) z b2; omega
theorem nthR_to {K K' : Nat → Int32} {n : Nat} {v x : Int32} {o : Option Nat} (h : ∀ i, i < n → K i = K' i) (h1 : nthR K n v x o) : nthR K' n v x o := by
  rcases h1 with ⟨e1, a1⟩ | ⟨i, e1, a1, b1, c1⟩
  · exact Or.inl ⟨e1, fun j hj hv => by rw [← cntK (fun i hi => h i (by omega))]; exact a1 j hj (by rw [h j hj]; exact hv)⟩
  · exact Or.inr ⟨i, e1, a1, by rw [← h i a1]; exact b1, by rw [← cntK (fun k hk => h k (by omega))]; exact c1⟩
/-- the answers -/
def degA (L : List Pr) (sx v : Int32) : Int32 := match sideOf sx with
  | none => -1
  | some d => nI (cnt (key d L) v L.length)
def dropL (L : List Pr) (sx v : Int32) : List Pr := match sideOf sx with
  | none => L
  | some d => wo d v L
def renA (L : List Pr) (sx v to : Int32) : Int32 := match sideOf sx with
  | none => -1
  | some d => if v = to then -1 else nI (ren d v to (wo d v L) L).2
def renL (L : List Pr) (sx v to : Int32) : List Pr := match sideOf sx with
  | none => L
  | some d => if v = to then L else wo d v L ++ (ren d v to (wo d v L) L).1
def otherR (L : List Pr) (sx v x r : Int32) : Prop := match sideOf sx with
  | none => r = nI 0
  | some d => ∃ o, nthR (key d L) L.length v x o ∧ r = (match o with | none => nI 0 | some j => key (1 - d) L j)
def atA (L : List Pr) (px sx : Int32) : Int32 := match sideOf sx with
  | none => nI 0
  | some d => if 0 ≤ px.toInt ∧ px.toInt < L.length then key d L px.toInt.toNat else nI 0
/-- what rename keeps in between: the other numbers, in order -/
def keptL (d : Nat) (v : Int32) (L : List Pr) : List Int32 := (L.filter (fun x => decide (sd d x = v))).map (od d)
def renT (d : Nat) (to : Int32) (M : List Pr) (st : List Pr × Nat) (x : Int32) : List Pr × Nat :=
  if mkp d to x ∈ M ++ st.1 then st else (st.1 ++ [mkp d to x], st.2 + 1)
theorem ren_kept_aux (d : Nat) (v to : Int32) (M L : List Pr) : ∀ st, L.foldl (renS d v to M) st = (keptL d v L).foldl (renT d to M) st := by
  induction L with
  | nil => intro st; rfl
  | cons x L ih =>
    intro st
    rw [List.foldl_cons, ih]
    unfold keptL
    by_cases h : sd d x = v
    · rw [List.filter_cons_of_pos (by simpa using h), List.map_cons, List.foldl_cons]
      congr 1
      unfold renS renT
      rw [if_pos h]
    · rw [List.filter_cons_of_neg (by simpa using h)]
      congr 1
      unfold renS
      rw [if_neg h]
theorem ren_kept (d : Nat) (v to : Int32) (M L : List Pr) : ren d v to M L = (keptL d v L).foldl (renT d to M) ([], 0) := ren_kept_aux d v to M L _
theorem kept_snoc {d : Nat} {v : Int32} {L : List Pr} {t : Nat} (ht : t < L.length) : keptL d v (L.take (t + 1)) = keptL d v (L.take t) ++ (if key d L t = v then [key (1 - d) L t] else []) := by
  unfold keptL
  rw [take_succ_pr L ht, List.filter_append, List.map_append]
  congr 1
  by_cases h : key d L t = v
  · rw [if_pos h, List.filter_cons_of_pos (by rw [decide_eq_true_iff]; exact h)]
    unfold key od sd
    rcases Nat.eq_zero_or_pos d with q | q
    · subst q; rfl
    · simp [show ¬ d = 0 by omega, show 1 - d = 0 by omega]
  · rw [if_neg h, List.filter_cons_of_neg (by rw [decide_eq_true_iff]; exact h)]
    rfl
theorem kept_len (d : Nat) (v : Int32) (L : List Pr) : (keptL d v L).length ≤ L.length := by
  unfold keptL
  rw [List.length_map]
  exact List.length_filter_le ..
theorem kept_wo (d : Nat) (v : Int32) (L : List Pr) : (wo d v L).length + (keptL d v L).length = L.length := by
  unfold wo keptL
  rw [List.length_map]
  induction L with
  | nil => rfl
  | cons x L ih =>
    by_cases h : sd d x = v
    · rw [List.filter_cons_of_neg (by simpa using h), List.filter_cons_of_pos (by simpa using h), List.length_cons, List.length_cons]; omega
    · rw [List.filter_cons_of_pos (by simpa using h), List.filter_cons_of_neg (by simpa using h), List.length_cons, List.length_cons]; omega
def linkA (L : List Pr) (x y : Int32) : Int32 := if (x, y) ∈ L then -1 else if 300 ≤ L.length then -2 else nI (L.length + 1)
def linkL (L : List Pr) (x y : Int32) : List Pr := if (x, y) ∈ L then L else if 300 ≤ L.length then L else L ++ [(x, y)]
def unlA (L : List Pr) (o : Option Nat) : Int32 := match o with
  | none => -1
  | some _ => nI (L.length - 1)
def unlL (L : List Pr) (o : Option Nat) : List Pr := match o with
  | none => L
  | some i => L.eraseIdx i
theorem posR_none {L : List Pr} {x y : Int32} {o : Option Nat} (h : posR L x y o) : o = none ↔ (x, y) ∉ L := by
  rcases h with ⟨e, a⟩ | ⟨i, e, a, b⟩
  · exact ⟨fun _ => a, fun _ => e⟩
  · exact ⟨fun q => (by rw [e] at q; cases q), fun q => absurd (List.mem_of_getElem? b) q⟩
theorem posR_lt {L : List Pr} {x y : Int32} {o : Option Nat} (h : posR L x y o) : ∀ i, o = some i → i < L.length := by
  intro i hi
  rcases h with ⟨e, -⟩ | ⟨j, e, a, -⟩
  · rw [e] at hi; cases hi
  · rw [e] at hi; cases hi; exact a
theorem kept_put {KL : List Int32} {kp : Nat → Int32} {x : Int32} (h : ∀ j, j < KL.length → kp j = KL.getD j 0) : ∀ j, j < (KL ++ [x]).length → upd kp KL.length x j = (KL ++ [x]).getD j 0 := by
  intro j hj
  rw [List.length_append, List.length_singleton] at hj
  rcases Nat.lt_succ_iff_lt_or_eq.mp hj with q | q
  · rw [pk_un (by omega), h j q, List.getD_eq_getElem?_getD, List.getD_eq_getElem?_getD, List.getElem?_append_left q]
  · subst q
    rw [pk_us, List.getD_eq_getElem?_getD, List.getElem?_append_right (Nat.le_refl _)]
    simp
theorem take_succ_i (L : List Int32) {t : Nat} (h : t < L.length) : L.take (t + 1) = L.take t ++ [L.getD t 0] := by
  rw [List.take_succ, List.getD_eq_getElem?_getD, List.getElem?_eq_getElem h]
  rfl
theorem renT_len (d : Nat) (to : Int32) (M : List Pr) (K : List Int32) (t : Nat) (h : t ≤ K.length) : ((K.take t).foldl (renT d to M) ([], 0)).1.length ≤ t := by
  induction t with
  | zero => simp
  | succ t ih =>
    have h1 := ih (by omega)
    rw [take_succ_i K (by omega), List.foldl_append]
    generalize (K.take t).foldl (renT d to M) ([], 0) = st at h1 ⊢
    show (renT d to M st _).1.length ≤ t + 1
    unfold renT
    split
    · omega
    · rw [List.length_append]; simp; omega
