/-! the model's numbers for lefts and rights, and its chains -/
theorem dis_le (K : Nat → Int32) (n : Nat) : dis K n ≤ n := by
  induction n with
  | zero => exact Nat.le_refl _
  | succ n ih => simp only [dis]; split <;> omega
def NL (K : Nat → Int32) (k lm : Nat) (lo : Nat → Nat) : Prop := (∀ j, j < k → lo j < lm) ∧ (∀ i j, i < k → j < k → (lo i = lo j ↔ K i = K j)) ∧ (∀ l, l < lm → ∃ j, j < k ∧ lo j = l) ∧ lm = dis K k
theorem NL_new {K : Nat → Int32} {k lm : Nat} {lo : Nat → Nat} (h : NL K k lm lo) (hn : ∀ i, i < k → ¬ K i = K k) : NL K (k + 1) (lm + 1) (va_up lo k lm) := by
  obtain ⟨h1, h2, h3, h4⟩ := h
  have lk9 : ∀ j, j < k → va_up lo k lm j = lo j := fun j hj => up_n (by omega)
  refine ⟨fun j hj => ?_, fun i j hi hj => ?_, fun l hl => ?_, ?_⟩
  · rcases Nat.lt_succ_iff_lt_or_eq.mp hj with z | z
    · rw [lk9 j z]; have := h1 j z; omega
    · rw [z, up_s]; omega
  · rcases Nat.lt_succ_iff_lt_or_eq.mp hi with z | z <;> rcases Nat.lt_succ_iff_lt_or_eq.mp hj with y | y
    · rw [lk9 i z, lk9 j y]; exact h2 i j z y
    · rw [lk9 i z, y, up_s]; exact ⟨fun e => by have := h1 i z; omega, fun e => absurd e (hn i z)⟩
    · rw [lk9 j y, z, up_s]; exact ⟨fun e => by have := h1 j y; omega, fun e => absurd e.symm (hn j y)⟩
    · rw [z, y]; exact ⟨fun _ => rfl, fun _ => rfl⟩
  · rcases Nat.lt_succ_iff_lt_or_eq.mp hl with z | z
    · obtain ⟨j, a, b⟩ := h3 l z
      exact ⟨j, by omega, by rw [lk9 j a]; exact b⟩
    · exact ⟨k, by omega, by rw [up_s, z]⟩
  · simp only [dis]; rw [if_pos hn, h4]
theorem NL_old {K : Nat → Int32} {k lm : Nat} {lo : Nat → Nat} {i0 : Nat} (h : NL K k lm lo) (hi0 : i0 < k) (he : K i0 = K k) : NL K (k + 1) lm (va_up lo k (lo i0)) := by
  obtain ⟨h1, h2, h3, h4⟩ := h
  have lk9 : ∀ j, j < k → va_up lo k (lo i0) j = lo j := fun j hj => up_n (by omega)
  refine ⟨fun j hj => ?_, fun i j hi hj => ?_, fun l hl => ?_, ?_⟩
  · rcases Nat.lt_succ_iff_lt_or_eq.mp hj with z | z
    · rw [lk9 j z]; exact h1 j z
    · rw [z, up_s]; exact h1 i0 hi0
  · rcases Nat.lt_succ_iff_lt_or_eq.mp hi with z | z <;> rcases Nat.lt_succ_iff_lt_or_eq.mp hj with y | y
    · rw [lk9 i z, lk9 j y]; exact h2 i j z y
    · rw [lk9 i z, y, up_s, ← he]; exact h2 i i0 z hi0
    · rw [lk9 j y, z, up_s, ← he]; exact h2 i0 j hi0 y
    · rw [z, y]; exact ⟨fun _ => rfl, fun _ => rfl⟩
  · obtain ⟨j, a, b⟩ := h3 l hl
    exact ⟨j, by omega, by rw [lk9 j a]; exact b⟩
  · simp only [dis]; rw [if_neg (fun z => z i0 hi0 he), h4]; rfl
def NC (k lm : Nat) (lo : Nat → Nat) (fo no : Nat → Option Nat) : Prop :=
  (∀ l, l < lm → ∃ j, fo l = some j ∧ j < k ∧ lo j = l ∧ ∀ i, j < i → i < k → ¬ lo i = l) ∧
  (∀ j, j < k → (no j = none ∧ ∀ i, i < j → ¬ lo i = lo j) ∨ ∃ i, no j = some i ∧ i < j ∧ lo i = lo j ∧ ∀ x, i < x → x < j → ¬ lo x = lo j)
theorem NC_new {k lm : Nat} {lo : Nat → Nat} {fo no : Nat → Option Nat} (h : NC k lm lo fo no) (hl : ∀ j, j < k → lo j < lm) : NC (k + 1) (lm + 1) (va_up lo k lm) (va_up (va_up fo lm none) lm (some k)) (va_up no k (va_up fo lm none lm)) := by
  have lk9 : ∀ j, j < k → va_up lo k lm j = lo j := fun j hj => up_n (by omega)
  refine ⟨fun l hl9 => ?_, fun j hj => ?_⟩
  · rcases Nat.lt_succ_iff_lt_or_eq.mp hl9 with z | z
    · obtain ⟨j, a1, a2, a3, a4⟩ := h.1 l z
      refine ⟨j, by rw [up_n (by omega), up_n (by omega)]; exact a1, by omega, by rw [lk9 j a2]; exact a3, fun i b1 b2 => ?_⟩
      rcases Nat.lt_succ_iff_lt_or_eq.mp b2 with y | y
      · rw [lk9 i y]; exact a4 i b1 y
      · rw [y, up_s]; omega
    · exact ⟨k, by rw [z, up_s], by omega, by rw [up_s, z], fun i b1 b2 => by omega⟩
  · rcases Nat.lt_succ_iff_lt_or_eq.mp hj with z | z
    · rw [up_n (show j ≠ k by omega), lk9 j z]
      rcases h.2 j z with ⟨a1, a2⟩ | ⟨i, a1, a2, a3, a4⟩
      · exact Or.inl ⟨a1, fun i hi => by rw [lk9 i (by omega)]; exact a2 i hi⟩
      · exact Or.inr ⟨i, a1, a2, by rw [lk9 i (by omega)]; exact a3, fun x b1 b2 => by rw [lk9 x (by omega)]; exact a4 x b1 b2⟩
    · subst z
      rw [up_s, up_s, up_s]
      exact Or.inl ⟨rfl, fun i hi => by rw [lk9 i hi]; have := hl i hi; omega⟩
theorem NC_old {k lm l0 : Nat} {lo : Nat → Nat} {fo no : Nat → Option Nat} (h : NC k lm lo fo no) (hl : l0 < lm) : NC (k + 1) lm (va_up lo k l0) (va_up fo l0 (some k)) (va_up no k (fo l0)) := by
  have lk9 : ∀ j, j < k → va_up lo k l0 j = lo j := fun j hj => up_n (by omega)
  refine ⟨fun l hl9 => ?_, fun j hj => ?_⟩
  · by_cases z : l = l0
    · exact ⟨k, by rw [z, up_s], by omega, by rw [up_s, z], fun i b1 b2 => by omega⟩
    · obtain ⟨j, a1, a2, a3, a4⟩ := h.1 l hl9
      refine ⟨j, by rw [up_n z]; exact a1, by omega, by rw [lk9 j a2]; exact a3, fun i b1 b2 => ?_⟩
      rcases Nat.lt_succ_iff_lt_or_eq.mp b2 with y | y
      · rw [lk9 i y]; exact a4 i b1 y
      · rw [y, up_s]; exact fun e => z e.symm
  · rcases Nat.lt_succ_iff_lt_or_eq.mp hj with z | z
    · rw [up_n (show j ≠ k by omega), lk9 j z]
      rcases h.2 j z with ⟨a1, a2⟩ | ⟨i, a1, a2, a3, a4⟩
      · exact Or.inl ⟨a1, fun i hi => by rw [lk9 i (by omega)]; exact a2 i hi⟩
      · exact Or.inr ⟨i, a1, a2, by rw [lk9 i (by omega)]; exact a3, fun x b1 b2 => by rw [lk9 x (by omega)]; exact a4 x b1 b2⟩
    · subst z
      rw [up_s, up_s]
      obtain ⟨i, a1, a2, a3, a4⟩ := h.1 l0 hl
      exact Or.inr ⟨i, a1, a2, by rw [lk9 i a2]; exact a3, fun x b1 b2 => by rw [lk9 x b2]; exact a4 x b1 b2⟩
