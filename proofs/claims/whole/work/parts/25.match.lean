/-! matchings and covers -/
theorem pig : ∀ (k m : Nat) (h : Nat → Nat), (∀ i, i < m → h i < k) → (∀ i j, i < m → j < m → h i = h j → i = j) → m ≤ k := by
  intro k
  induction k with
  | zero =>
    intro m h h1 _
    rcases Nat.eq_zero_or_pos m with z | z
    · omega
    · exact absurd (h1 0 z) (Nat.not_lt_zero _)
  | succ k ih =>
    intro m h h1 h2
    by_cases hx : ∃ i, i < m ∧ h i = k
    · obtain ⟨t, ht, he⟩ := hx
      have := ih (m - 1) (fun i => h (sg t i)) (fun i hi => by
        have a1 := sg_lt (t := t) (show i + 1 < m by omega)
        have a2 := h1 _ a1
        have a3 : h (sg t i) ≠ k := fun z => sg_ne t i (h2 _ _ a1 ht (z.trans he.symm))
        show h (sg t i) < k
        omega) (fun i j hi hj e => by
        have a1 := sg_lt (t := t) (show i + 1 < m by omega)
        have a2 := sg_lt (t := t) (show j + 1 < m by omega)
        have a3 := congrArg (ds t) (h2 _ _ a1 a2 e)
        rw [ds_sg, ds_sg] at a3
        exact a3)
      omega
    · exact Nat.le_succ_of_le (ih m h (fun i hi => by
        have a1 := h1 i hi
        have a2 : h i ≠ k := fun z => hx ⟨i, hi, z⟩
        omega) h2)
def isMat (L : List Pr) (k : Nat) : Prop := ∃ f : Nat → Nat, (∀ i, i < k → f i < L.length) ∧ ∀ i j, i < k → j < k → tch L (f i) (f j) → i = j
def isCov (L : List Pr) (k : Nat) : Prop := ∃ (c : Nat → Nat) (v : Nat → Int32), (∀ i, i < k → c i < 2) ∧ ∀ x, x < L.length → ∃ i, i < k ∧ key (c i) L x = v i
def isMM (L : List Pr) (k : Nat) : Prop := isMat L k ∧ isCov L k
theorem mm_le {L : List Pr} {m k : Nat} (hm : isMat L m) (hc : isCov L k) : m ≤ k := by
  obtain ⟨f, f1, f2⟩ := hm
  obtain ⟨c, v, c1, c2⟩ := hc
  have hx : ∀ i, ∃ j, i < m → j < k ∧ key (c j) L (f i) = v j := by
    intro i
    by_cases hi : i < m
    · obtain ⟨j, a, b⟩ := c2 (f i) (f1 i hi)
      exact ⟨j, fun _ => ⟨a, b⟩⟩
    · exact ⟨0, fun z => absurd z hi⟩
  refine pig k m (fun i => Classical.choose (hx i)) (fun i hi => (Classical.choose_spec (hx i) hi).1) (fun i j hi hj e => ?_)
  have a := Classical.choose_spec (hx i) hi
  have b := Classical.choose_spec (hx j) hj
  have e' : Classical.choose (hx i) = Classical.choose (hx j) := e
  rw [e'] at a
  exact f2 i j hi hj (tch_d (c1 _ b.1) (a.2.trans b.2.symm))
theorem isMM_uniq {L : List Pr} {m k : Nat} (h1 : isMM L m) (h2 : isMM L k) : m = k := Nat.le_antisymm (mm_le h1.1 h2.2) (mm_le h2.1 h1.2)
theorem enum_cz (P : Nat → Nat) (m : Nat) : ∃ e : Nat → Nat, (∀ i, i < cz P m → e i < m ∧ P (e i) ≠ 0) ∧ (∀ i j, i < cz P m → j < cz P m → e i = e j → i = j) ∧ ∀ r, r < m → P r ≠ 0 → ∃ i, i < cz P m ∧ e i = r := by
  induction m with
  | zero => exact ⟨fun _ => 0, fun i hi => absurd hi (Nat.not_lt_zero i), fun i _ hi => absurd hi (Nat.not_lt_zero i), fun r hr => absurd hr (Nat.not_lt_zero r)⟩
  | succ m ih =>
    obtain ⟨e, h1, h2, h3⟩ := ih
    by_cases hp : P m = 0
    · have hc : cz P (m + 1) = cz P m := by simp [cz, hp]
      rw [hc]
      refine ⟨e, fun i hi => ⟨by have := (h1 i hi).1; omega, (h1 i hi).2⟩, h2, fun r hr h0 => ?_⟩
      rcases Nat.lt_succ_iff_lt_or_eq.mp hr with z | z
      · exact h3 r z h0
      · rw [z] at h0; exact absurd hp h0
    · have hc : cz P (m + 1) = cz P m + 1 := by simp [cz, hp]
      rw [hc]
      have eo : ∀ i, i < cz P m → va_up e (cz P m) m i = e i := fun i hi => up_n (by omega)
      refine ⟨va_up e (cz P m) m, fun i hi => ?_, fun i j hi hj he => ?_, fun r hr h0 => ?_⟩
      · rcases Nat.lt_succ_iff_lt_or_eq.mp hi with z | z
        · rw [eo i z]; exact ⟨by have := (h1 i z).1; omega, (h1 i z).2⟩
        · rw [z, up_s]; exact ⟨by omega, hp⟩
      · rcases Nat.lt_succ_iff_lt_or_eq.mp hi with z | z <;> rcases Nat.lt_succ_iff_lt_or_eq.mp hj with y | y
        · rw [eo i z, eo j y] at he; exact h2 i j z y he
        · rw [eo i z, y, up_s] at he; have := (h1 i z).1; omega
        · rw [eo j y, z, up_s] at he; have := (h1 j y).1; omega
        · omega
      · rcases Nat.lt_succ_iff_lt_or_eq.mp hr with z | z
        · obtain ⟨i, a, b⟩ := h3 r z h0
          exact ⟨i, by omega, by rw [eo i a]; exact b⟩
        · exact ⟨cz P m, by omega, by rw [up_s, z]⟩
/-- a matching with a cover of the same size -/
theorem MM_of {L : List Pr} {m : Nat} (mk E : Nat → Nat) (D : Nat → Prop) (h1 : ∀ r, r < m → mk r ≠ 0 → E r < L.length) (h2 : ∀ r t, r < m → t < m → mk r ≠ 0 → mk t ≠ 0 → tch L (E r) (E t) → r = t)
    (h3 : ∀ x, x < L.length → ∃ r, r < m ∧ mk r ≠ 0 ∧ ((D r ∧ key 1 L x = key 1 L (E r)) ∨ (¬ D r ∧ key 0 L x = key 0 L (E r)))) : isMM L (cz mk m) := by
  obtain ⟨e, a1, a2, a3⟩ := enum_cz mk m
  refine ⟨⟨fun i => E (e i), fun i hi => h1 _ (a1 i hi).1 (a1 i hi).2, fun i j hi hj ht => a2 i j hi hj (h2 _ _ (a1 i hi).1 (a1 j hj).1 (a1 i hi).2 (a1 j hj).2 ht)⟩, fun i => @ite Nat (D (e i)) (Classical.propDecidable _) 1 0, fun i => @ite Int32 (D (e i)) (Classical.propDecidable _) (key 1 L (E (e i))) (key 0 L (E (e i))), fun i _ => ?_, fun x hx => ?_⟩
  · show @ite Nat (D (e i)) (Classical.propDecidable _) 1 0 < 2
    split <;> omega
  · obtain ⟨r, b1, b2, b3⟩ := h3 x hx
    obtain ⟨i, c1, c2⟩ := a3 r b1 b2
    refine ⟨i, c1, ?_⟩
    show key (@ite Nat (D (e i)) (Classical.propDecidable _) 1 0) L x = @ite Int32 (D (e i)) (Classical.propDecidable _) (key 1 L (E (e i))) (key 0 L (E (e i)))
    rw [c2]
    rcases b3 with ⟨d1, d2⟩ | ⟨d1, d2⟩
    · rw [if_pos d1, if_pos d1]; exact d2
    · rw [if_neg d1, if_neg d1]; exact d2
def om (o : Option Nat) : Nat := match o with
  | none => 0
  | some _ => 1
theorem om_0 {o : Option Nat} : om o = 0 ↔ o = none := by
  cases o with
  | none => exact ⟨fun _ => rfl, fun _ => rfl⟩
  | some k => exact ⟨fun h => absurd h (by simp [om]), fun h => by cases h⟩
/-- one more of them is there -/
theorem cz_one {f g : Nat → Nat} {m k : Nat} (hk : k < m) (h0 : f k = 0) (h1 : g k ≠ 0) (h : ∀ i, i < m → i ≠ k → (f i = 0 ↔ g i = 0)) : cz g m = cz f m + 1 := by
  rw [← cz_set hk h0 h1]
  refine cz_congr (fun i hi => ?_)
  by_cases z : i = k
  · rw [z, up_s]
  · rw [up_n z]; exact (h i hi z).symm
