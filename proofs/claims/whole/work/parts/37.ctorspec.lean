/-! what the constructors leave -/
def og (i : Nat) : Nat → Nat := fun j => if j < i then j else 0
theorem og_0 : fN (og 0) = fun _ => 0 := by
  funext j
  unfold fN og
  rw [if_neg (by omega)]
  rfl
theorem og_s (i : Nat) : va_up (og i) i i = og (i + 1) := by
  funext j
  unfold va_up og
  by_cases h : j = i
  · rw [if_pos h, if_pos (by omega), h]
  · rw [if_neg h]
    by_cases h2 : j < i
    · rw [if_pos h2, if_pos (by omega)]
    · rw [if_neg h2, if_neg (by omega)]
theorem og_at {i : Nat} (h : i < 300) : og 300 i = i := if_pos h
theorem TI_new (N : Nat → Nat → Int32) (B F : Nat → Nat → Option Nat) : TI (og 300) N B F [] :=
  ⟨fun i hi => by rw [og_at hi]; exact hi, fun i j hi hj e => by rw [og_at hi, og_at hj] at e; exact e, Nat.zero_le _, fun d i _ hi => absurd hi (Nat.not_lt_zero i), fun d _ => ⟨fun i hi => absurd hi (Nat.not_lt_zero i), fun i hi => absurd hi (Nat.not_lt_zero i)⟩⟩
theorem out2 {H : Heap} {q c : Nat} {f g : Nat → Option Nat} (h : H[q]? = some (vp_cell c (2, .inr (.inr (.inr (.inr f)))))) (e0 : f 0 = g 0) (e1 : f 1 = g 1) : H[q]? = some (vp_cell c (2, .inr (.inr (.inr (.inr g))))) := by
  rw [h]
  show some (arrV c 2 (fun j => va_rf (f j))) = some (arrV c 2 (fun j => va_rf (g j)))
  rw [arrV_congr (f := fun j => va_rf (f j)) (g := fun j => va_rf (g j)) (fun i hi => by
    rcases (show i = 0 ∨ i = 1 by omega) with rfl | rfl
    · exact congrArg va_rf e0
    · exact congrArg va_rf e1)]
theorem D_nodup {A : Nat → Prop} {ws : va_W} (h : va_D A ws) : (ws.map Prod.fst).Nodup := by
  rw [List.Nodup, List.pairwise_iff_getElem]
  intro i j hi hj hij he
  rw [List.length_map] at hi hj
  rw [List.getElem_map, List.getElem_map] at he
  have := h.1 i j ws[i] ws[j] (List.getElem?_eq_getElem hi) (List.getElem?_eq_getElem hj) he
  omega
theorem D_mem {A : Nat → Prop} {ws : va_W} (h : va_D A ws) : ∀ x ∈ ws.map Prod.fst, A x := by
  intro x hx
  obtain ⟨q, hq, rfl⟩ := List.mem_map.mp hx
  obtain ⟨k, hk⟩ := List.getElem?_of_mem hq
  exact h.2 k q hk
theorem A_one {h0 sz x : Nat} {e : va_E} (h : va_A [(h0, e)] sz x) : x = h0 ∨ sz ≤ x := by
  rcases h with ⟨k, e', hk⟩ | h
  · cases k with
    | zero => cases hk; exact Or.inl rfl
    | succ k => simp at hk
  · exact Or.inr h
def adT (a : Nat → Nat) (h0 sz : Nat) : Prop := a 0 = h0 ∧ (aT a).Nodup ∧ ∀ x ∈ aT a, x = h0 ∨ sz ≤ x
def adS (a : Nat → Nat) (h0 sz : Nat) : Prop := a 11 = h0 ∧ (aS a).Nodup ∧ ∀ x ∈ aS a, x = h0 ∨ sz ≤ x
def adM (a : Nat → Nat) (h0 sz : Nat) : Prop := a 17 = h0 ∧ (aM a).Nodup ∧ ∀ x ∈ aM a, x = h0 ∨ sz ≤ x
def adR (b : Nat → Nat) (h0 sz : Nat) : Prop := b 0 = h0 ∧ (aR b).Nodup ∧ ∀ x ∈ aR b, x = h0 ∨ sz ≤ x
