/-! what the reading methods of Threads answer: K i is the number of the pair at place i on a side -/
def firstR (K : Nat → Int32) (n : Nat) (v : Int32) (o : Option Nat) : Prop :=
  (o = none ∧ ∀ i, i < n → ¬ K i = v) ∨ ∃ i, o = some i ∧ i < n ∧ K i = v ∧ ∀ j, j < i → ¬ K j = v
def lastR (K : Nat → Int32) (n : Nat) (v : Int32) (o : Option Nat) : Prop :=
  (o = none ∧ ∀ i, i < n → ¬ K i = v) ∨ ∃ i, o = some i ∧ i < n ∧ K i = v ∧ ∀ j, i < j → j < n → ¬ K j = v
def placeR (K0 K1 : Nat → Int32) (n : Nat) (x y : Int32) (o : Option Nat) : Prop :=
  (o = none ∧ ∀ i, i < n → ¬ (K0 i = x ∧ K1 i = y)) ∨ ∃ i, o = some i ∧ i < n ∧ (K0 i = x ∧ K1 i = y) ∧ ∀ j, j < i → ¬ (K0 j = x ∧ K1 j = y)
def prevR (K : Nat → Int32) (i : Nat) (o : Option Nat) : Prop :=
  (o = none ∧ ∀ j, j < i → ¬ K j = K i) ∨ ∃ j, o = some j ∧ j < i ∧ K j = K i ∧ ∀ k, j < k → k < i → ¬ K k = K i
def nextR (K : Nat → Int32) (n i : Nat) (o : Option Nat) : Prop :=
  (o = none ∧ ∀ j, i < j → j < n → ¬ K j = K i) ∨ ∃ j, o = some j ∧ i < j ∧ j < n ∧ K j = K i ∧ ∀ k, i < k → k < j → ¬ K k = K i
/-- the links of a side are those of the order -/
def lnkB (p : Nat → Nat) (K : Nat → Int32) (Bd : Nat → Option Nat) (n : Nat) : Prop := ∀ i, i < n → ∃ o, Bd (p i) = Option.map p o ∧ prevR K i o
def lnkF (p : Nat → Nat) (K : Nat → Int32) (Fd : Nat → Option Nat) (n : Nat) : Prop := ∀ i, i < n → ∃ o, Fd (p i) = Option.map p o ∧ nextR K n i o
/-- how many of the first n have the number -/
def cnt (K : Nat → Int32) (v : Int32) : Nat → Nat
  | 0 => 0
  | n + 1 => cnt K v n + (if K n = v then 1 else 0)
theorem cnt_le (K : Nat → Int32) (v : Int32) (n : Nat) : cnt K v n ≤ n := by
  induction n with
  | zero => exact Nat.le_refl _
  | succ n ih => simp only [cnt]; split <;> omega
theorem cnt_hit {K : Nat → Int32} {v : Int32} {n : Nat} (h : K n = v) : cnt K v (n + 1) = cnt K v n + 1 := by simp [cnt, h]
theorem cnt_miss {K : Nat → Int32} {v : Int32} {n : Nat} (h : ¬ K n = v) : cnt K v (n + 1) = cnt K v n := by simp [cnt, h]
theorem cnt_skip {K : Nat → Int32} {v : Int32} {i j : Nat} (hij : i ≤ j) (h : ∀ k, i ≤ k → k < j → ¬ K k = v) : cnt K v j = cnt K v i := by
  induction j with
  | zero => rw [show i = 0 by omega]
  | succ j ih =>
    rcases Nat.lt_or_ge j i with q | q
    · rw [show i = j + 1 by omega]
    · rw [cnt_miss (h j q (by omega))]
      exact ih q (fun k h1 h2 => h k h1 (by omega))
theorem cnt_mono {K : Nat → Int32} {v : Int32} {i j : Nat} (hij : i ≤ j) : cnt K v i ≤ cnt K v j := by
  induction j with
  | zero => rw [show i = 0 by omega]; exact Nat.le_refl _
  | succ j ih =>
    rcases Nat.lt_or_ge j i with q | q
    · rw [show i = j + 1 by omega]; exact Nat.le_refl _
    · have := ih q
      simp only [cnt]
      omega
theorem cnt_lt {K : Nat → Int32} {v : Int32} {i j : Nat} (hij : i < j) (h : K i = v) : cnt K v i < cnt K v j := by
  have := cnt_mono (K := K) (v := v) (show i + 1 ≤ j by omega)
  rw [cnt_hit h] at this
  omega
/-- on the way along a thread: c pairs are behind, o is the next one -/
def stR (K : Nat → Int32) (n : Nat) (v : Int32) (c : Nat) (o : Option Nat) : Prop :=
  (o = none ∧ c = cnt K v n) ∨ ∃ j, o = some j ∧ j < n ∧ K j = v ∧ c = cnt K v j
theorem stR_first {K : Nat → Int32} {n : Nat} {v : Int32} {o : Option Nat} (h : firstR K n v o) : stR K n v 0 o := by
  rcases h with ⟨h1, h2⟩ | ⟨i, h1, h2, h3, h4⟩
  · exact Or.inl ⟨h1, (cnt_skip (Nat.zero_le n) (fun k _ hk => h2 k hk)).symm⟩
  · exact Or.inr ⟨i, h1, h2, h3, (cnt_skip (Nat.zero_le i) (fun k _ hk => h4 k hk)).symm⟩
theorem stR_next {K : Nat → Int32} {n j : Nat} {v : Int32} {o : Option Nat} (hj : j < n) (hv : K j = v) (h : nextR K n j o) : stR K n v (cnt K v j + 1) o := by
  rcases h with ⟨h1, h2⟩ | ⟨i, h1, h2, h3, h4, h5⟩
  · refine Or.inl ⟨h1, ?_⟩
    rw [← cnt_hit hv]
    exact (cnt_skip hj (fun k a b => by rw [← hv]; exact h2 k (by omega) b)).symm
  · refine Or.inr ⟨i, h1, h3, h4.trans hv, ?_⟩
    rw [← cnt_hit hv]
    exact (cnt_skip h2 (fun k a b => by rw [← hv]; exact h5 k (by omega) b)).symm
/-- pair number x of a thread -/
def nthR (K : Nat → Int32) (n : Nat) (v x : Int32) (o : Option Nat) : Prop :=
  (o = none ∧ ∀ j, j < n → K j = v → ¬ x = nI (cnt K v j)) ∨ ∃ j, o = some j ∧ j < n ∧ K j = v ∧ x = nI (cnt K v j)
/-- how many different ones among the first n -/
def dis (K : Nat → Int32) : Nat → Nat
  | 0 => 0
  | n + 1 => dis K n + (if ∀ j, j < n → ¬ K j = K n then 1 else 0)
theorem mp_lt {p : Nat → Nat} {o : Option Nat} {n k : Nat} (hp : ∀ i, i < 300 → p i < 300) (hn : n ≤ 300) (ho : ∀ j, o = some j → j < n) (h : Option.map p o = some k) : k < 300 := by
  obtain ⟨j, h1, rfl⟩ := Option.map_eq_some_iff.mp h
  exact hp j (by have := ho j h1; omega)
theorem firstR_lt {K : Nat → Int32} {n : Nat} {v : Int32} {o : Option Nat} (h : firstR K n v o) : ∀ j, o = some j → j < n := by
  intro j hj
  rcases h with ⟨h1, -⟩ | ⟨i, h1, h2, -⟩
  · rw [h1] at hj; cases hj
  · rw [h1] at hj; cases hj; exact h2
theorem prevR_lt {K : Nat → Int32} {i : Nat} {o : Option Nat} (h : prevR K i o) : ∀ j, o = some j → j < i := by
  intro j hj
  rcases h with ⟨h1, -⟩ | ⟨k, h1, h2, -⟩
  · rw [h1] at hj; cases hj
  · rw [h1] at hj; cases hj; exact h2
theorem nextR_lt {K : Nat → Int32} {n i : Nat} {o : Option Nat} (h : nextR K n i o) : ∀ j, o = some j → j < n := by
  intro j hj
  rcases h with ⟨h1, -⟩ | ⟨k, h1, h2, h3, -⟩
  · rw [h1] at hj; cases hj
  · rw [h1] at hj; cases hj; exact h3
theorem stR_lt {K : Nat → Int32} {n c : Nat} {v : Int32} {o : Option Nat} (h : stR K n v c o) : ∀ j, o = some j → j < n := by
  intro j hj
  rcases h with ⟨h1, -⟩ | ⟨i, h1, h2, -⟩
  · rw [h1] at hj; cases hj
  · rw [h1] at hj; cases hj; exact h2
