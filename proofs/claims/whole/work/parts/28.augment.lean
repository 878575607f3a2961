/-! the model's matching: partner by right, searched by lefts -/
theorem lk_eq {o : Option Nat} {l : Nat} (h1 : ∀ k, o = some k → k < 2 ^ 31) (h2 : l < 2 ^ 31) : lk o = nI l ↔ o = some l := by
  cases o with
  | none => exact ⟨fun h => absurd h.symm (nI_nm1 h2), fun h => by cases h⟩
  | some k => exact ⟨fun h => by rw [(nI_eq (h1 k rfl) h2).mp h], fun h => by cases h; rfl⟩
def Ed (n : Nat) (lo ro : Nat → Nat) (l r : Nat) : Prop := ∃ k, k < n ∧ lo k = l ∧ ro k = r
def MT (n rm : Nat) (lo ro : Nat → Nat) (pa : Nat → Option Nat) : Prop := (∀ r l, r < rm → pa r = some l → Ed n lo ro l r) ∧ ∀ r t l, r < rm → t < rm → pa r = some l → pa t = some l → r = t
def GB (n lm rm : Nat) (lo ro : Nat → Nat) (pa : Nat → Option Nat) (st e : Nat) (q : Nat → Nat) (cf : Nat → Option Nat) : Prop :=
  0 < e ∧ q 0 = st ∧ (∀ i, i < e → q i < lm) ∧ (∀ i j, i < e → j < e → q i = q j → i = j) ∧ (∀ r l, r < rm → cf r = some l → Ed n lo ro l r ∧ ∃ i, i < e ∧ q i = l) ∧
  (∀ r, r < rm → cf r ≠ none → ∃ i, i < e ∧ pa r = some (q i)) ∧ (∀ i, 0 < i → i < e → ∃ r j, r < rm ∧ j < i ∧ cf r = some (q j) ∧ pa r = some (q i))
theorem GB_le {n lm rm : Nat} {lo ro : Nat → Nat} {pa : Nat → Option Nat} {st e : Nat} {q : Nat → Nat} {cf : Nat → Option Nat} (h : GB n lm rm lo ro pa st e q cf) : e ≤ lm := pig lm e q h.2.2.1 h.2.2.2.1
theorem GB_add {n lm rm : Nat} {lo ro : Nat → Nat} {pa : Nat → Option Nat} {st e t r l : Nat} {q : Nat → Nat} {cf : Nat → Option Nat} (h : GB n lm rm lo ro pa st e q cf) (hM : MT n rm lo ro pa) (hu : ∀ x, x < rm → ¬ pa x = some st) (ht : t < e) (hr : r < rm) (h0 : cf r = none) (hE : Ed n lo ro (q t) r) (hp : pa r = some l) (hl : l < lm) :
    GB n lm rm lo ro pa st (e + 1) (va_up q e l) (va_up cf r (some (q t))) := by
  obtain ⟨h1, h2, h3, h4, h5, h6, h7⟩ := h
  have qe : ∀ i, i < e → va_up q e l i = q i := fun i hi => up_n (by omega)
  have hnew : ∀ i, i < e → ¬ q i = l := by
    intro i hi he
    rcases Nat.eq_zero_or_pos i with z | z
    · subst z
      exact hu r hr (by rw [hp, ← he, h2])
    · obtain ⟨r', j, a1, a2, a3, a4⟩ := h7 i z hi
      rw [he] at a4
      have := hM.2 r' r l a1 hr a4 hp
      rw [this, h0] at a3
      cases a3
  refine ⟨by omega, by rw [qe 0 h1]; exact h2, fun i hi => ?_, fun i j hi hj he => ?_, fun x y hx hxy => ?_, fun x hx hxn => ?_, fun i hi hie => ?_⟩
  · rcases Nat.lt_succ_iff_lt_or_eq.mp hi with z | z
    · rw [qe i z]; exact h3 i z
    · rw [z, up_s]; exact hl
  · rcases Nat.lt_succ_iff_lt_or_eq.mp hi with z | z <;> rcases Nat.lt_succ_iff_lt_or_eq.mp hj with w | w
    · rw [qe i z, qe j w] at he; exact h4 i j z w he
    · rw [qe i z, w, up_s] at he; exact absurd he (hnew i z)
    · rw [qe j w, z, up_s] at he; exact absurd he.symm (hnew j w)
    · omega
  · by_cases e1 : x = r
    · subst e1
      rw [up_s] at hxy
      cases hxy
      exact ⟨hE, t, by omega, qe t ht⟩
    · rw [up_n e1] at hxy
      obtain ⟨a1, i, a2, a3⟩ := h5 x y hx hxy
      exact ⟨a1, i, by omega, by rw [qe i a2]; exact a3⟩
  · by_cases e1 : x = r
    · exact ⟨e, by omega, by rw [e1, up_s]; exact hp⟩
    · rw [up_n e1] at hxn
      obtain ⟨i, a2, a3⟩ := h6 x hx hxn
      exact ⟨i, by omega, by rw [qe i a2]; exact a3⟩
  · rcases Nat.lt_succ_iff_lt_or_eq.mp hie with z | z
    · obtain ⟨x, j, a1, a2, a3, a4⟩ := h7 i hi z
      exact ⟨x, j, a1, a2, by rw [up_n (fun e1 => by rw [e1, h0] at a3; cases a3), qe j (by omega)]; exact a3, by rw [qe i z]; exact a4⟩
    · exact ⟨r, t, hr, by omega, by rw [up_s, qe t ht], by rw [z, up_s]; exact hp⟩
/-- a closed set: what it touches is matched inside it -/
def CD (n rm : Nat) (lo ro : Nat → Nat) (pa : Nat → Option Nat) (DL DR : Nat → Prop) : Prop := (∀ k, k < n → DL (lo k) → DR (ro k)) ∧ ∀ r, r < rm → DR r → ∃ l, pa r = some l ∧ DL l
/-- on the way back along a row -/
def IV (n rm : Nat) (lo ro : Nat → Nat) (pa0 : Nat → Option Nat) (last e : Nat) (q : Nat → Nat) (cf : Nat → Option Nat) (DR : Nat → Prop) (pa : Nat → Option Nat) (r c : Nat) : Prop :=
  r < rm ∧ c < e ∧ cf r = some (q c) ∧ (∀ x, x < rm → pa x = pa0 x ∨ ∃ m, c < m ∧ m < e ∧ pa x = some (q m)) ∧ pa r = pa0 r ∧ (∀ x y l, x < rm → y < rm → x ≠ r → y ≠ r → pa x = some l → pa y = some l → x = y) ∧
  (∀ l x, x < rm → pa0 x = some l → ∃ y, y < rm ∧ y ≠ r ∧ pa y = some l) ∧ (∀ x l, x < rm → pa x = some l → Ed n lo ro l x) ∧ (∀ x, x < rm → x ≠ last → (pa x = none ↔ pa0 x = none)) ∧ (r ≠ last → pa last ≠ none) ∧ ¬ DR r ∧ (∀ x, x < rm → DR x → pa x = pa0 x) ∧ ¬ pa r = some (q c)
def FN (n rm : Nat) (lo ro : Nat → Nat) (pa0 : Nat → Option Nat) (st last : Nat) (DR : Nat → Prop) (pa : Nat → Option Nat) : Prop :=
  MT n rm lo ro pa ∧ (∀ l x, x < rm → pa0 x = some l → ∃ y, y < rm ∧ pa y = some l) ∧ (∃ y, y < rm ∧ pa y = some st) ∧ (∀ x, x < rm → x ≠ last → (pa x = none ↔ pa0 x = none)) ∧ pa last ≠ none ∧ (∀ x, x < rm → DR x → pa x = pa0 x) ∧ ∀ x l, x < rm → pa x = some l → l = st ∨ ∃ y, y < rm ∧ pa0 y = some l
theorem IV_0 {n lm rm : Nat} {lo ro : Nat → Nat} {pa0 : Nat → Option Nat} {st last e t : Nat} {q : Nat → Nat} {cf0 cf : Nat → Option Nat} {DL DR : Nat → Prop} (hG : GB n lm rm lo ro pa0 st e q cf0) (hM : MT n rm lo ro pa0) (hD : CD n rm lo ro pa0 DL DR) (hcf : cf = va_up cf0 last (some (q t))) (ht : t < e) (hl : last < rm) (hn : pa0 last = none) :
    IV n rm lo ro pa0 last e q cf DR pa0 last t := by
  refine ⟨hl, ht, by rw [hcf, up_s], fun x _ => Or.inl rfl, rfl, fun x y l hx hy _ _ a b => hM.2 x y l hx hy a b, fun l x hx a => ⟨x, hx, fun z => (by rw [z, hn] at a; cases a), a⟩, fun x l hx a => hM.1 x l hx a, fun x _ _ => Iff.rfl, fun z => absurd rfl z, fun z => ?_, fun x _ _ => rfl, by rw [hn]; exact fun z => by cases z⟩
  obtain ⟨l, a, -⟩ := hD.2 last hl z
  rw [hn] at a; cases a
theorem IV_s {n lm rm : Nat} {lo ro : Nat → Nat} {pa0 : Nat → Option Nat} {st last e t : Nat} {q : Nat → Nat} {cf0 cf : Nat → Option Nat} {DL DR : Nat → Prop} {pa : Nat → Option Nat} {r c x : Nat} (hG : GB n lm rm lo ro pa0 st e q cf0) (hM : MT n rm lo ro pa0) (hD : CD n rm lo ro pa0 DL DR) (hcf : cf = va_up cf0 last (some (q t))) (hn : pa0 last = none) (hE : ∀ y l, y < rm → cf y = some l → Ed n lo ro l y)
    (h : IV n rm lo ro pa0 last e q cf DR pa r c) (hc : 0 < c) (hx : x < rm) (hpx : pa x = some (q c)) : ∃ j, j < c ∧ IV n rm lo ro pa0 last e q cf DR (va_up pa r (some (q c))) x j := by
  obtain ⟨i1, i2, i3, i4, i5, i6, i7, i8, i9, i10, i11, i12, i13⟩ := h
  obtain ⟨r0, j, b1, b2, b3, b4⟩ := hG.2.2.2.2.2.2 c hc i2
  have hxr : x ≠ r := fun z => i13 (by rw [← z]; exact hpx)
  have hx0 : pa0 x = some (q c) := by
    rcases i4 x hx with z | ⟨m, m1, m2, m3⟩
    · rw [← z]; exact hpx
    · rw [hpx] at m3
      have := hG.2.2.2.1 c m i2 m2 (Option.some.inj m3)
      omega
  have hxr0 : x = r0 := hM.2 x r0 (q c) hx b1 hx0 b4
  subst hxr0
  have hxl : x ≠ last := fun z => by rw [z, hn] at hx0; cases hx0
  have hcfx : cf x = some (q j) := by rw [hcf, up_n hxl]; exact b3
  have hjq : ¬ q j = q c := fun z => by have := hG.2.2.2.1 j c (by omega) i2 z; omega
  refine ⟨j, b2, hx, by omega, hcfx, fun y hy => ?_, ?_, fun y z l hy hz hyx hzx a b => ?_, fun l y hy a => ?_, fun y l hy a => ?_, fun y hy hyl => ?_, fun _ => ?_, fun z => ?_, fun y hy z => ?_, ?_⟩
  · by_cases e1 : y = r
    · exact Or.inr ⟨c, b2, i2, by rw [e1, up_s]⟩
    · rw [up_n e1]
      rcases i4 y hy with z | ⟨m, m1, m2, m3⟩
      · exact Or.inl z
      · exact Or.inr ⟨m, by omega, m2, m3⟩
  · rw [up_n hxr, hpx, hx0]
  · by_cases e1 : y = r <;> by_cases e2 : z = r
    · rw [e1, e2]
    · rw [e1, up_s] at a
      rw [up_n e2] at b
      rw [← Option.some.inj a] at b
      exact absurd (i6 z x (q c) hz hx e2 hxr b hpx) hzx
    · rw [e2, up_s] at b
      rw [up_n e1] at a
      rw [← Option.some.inj b] at a
      exact absurd (i6 y x (q c) hy hx e1 hxr a hpx) hyx
    · rw [up_n e1] at a
      rw [up_n e2] at b
      exact i6 y z l hy hz e1 e2 a b
  · obtain ⟨w, w1, w2, w3⟩ := i7 l y hy a
    by_cases e1 : w = x
    · rw [e1, hpx] at w3
      exact ⟨r, i1, fun z => hxr z.symm, by rw [up_s]; exact w3⟩
    · exact ⟨w, w1, e1, by rw [up_n w2]; exact w3⟩
  · by_cases e1 : y = r
    · rw [e1, up_s] at a
      rw [← Option.some.inj a, e1]
      exact hE r (q c) i1 i3
    · rw [up_n e1] at a
      exact i8 y l hy a
  · by_cases e1 : y = r
    · rw [e1, up_s]
      rw [e1] at hyl
      refine ⟨fun z => (by cases z), fun z => ?_⟩
      rw [i9 r i1 hyl |>.mpr z] at i5
      have := (i9 r i1 hyl).mpr z
      have hg := hG.2.2.2.2.2.1 r i1 (by have h3 := i3; rw [hcf, up_n hyl] at h3; rw [h3]; exact fun z => by cases z)
      obtain ⟨i, g1, g2⟩ := hg
      rw [z] at g2; cases g2
    · rw [up_n e1]
      exact i9 y hy hyl
  · by_cases e1 : last = r
    · rw [e1, up_s]; exact fun z => by cases z
    · rw [up_n e1]; exact i10 (fun z => e1 z.symm)
  · obtain ⟨l, a1, a2⟩ := hD.2 x hx z
    rw [hx0] at a1
    cases a1
    obtain ⟨k, k1, k2, k3⟩ := hE r (q c) i1 i3
    apply i11
    rw [← k3]
    exact hD.1 k k1 (by rw [k2]; exact a2)
  · rw [up_n (fun e1 => i11 (by rw [← e1]; exact z))]
    exact i12 y hy z
  · rw [up_n hxr, hpx]
    exact fun z => hjq (Option.some.inj z).symm
theorem IV_f {n lm rm : Nat} {lo ro : Nat → Nat} {pa0 : Nat → Option Nat} {st last e t : Nat} {q : Nat → Nat} {cf0 cf : Nat → Option Nat} {DR : Nat → Prop} {pa : Nat → Option Nat} {r : Nat} (hG : GB n lm rm lo ro pa0 st e q cf0) (hu : ∀ x, x < rm → ¬ pa0 x = some st) (hcf : cf = va_up cf0 last (some (q t))) (hE : ∀ y l, y < rm → cf y = some l → Ed n lo ro l y)
    (h : IV n rm lo ro pa0 last e q cf DR pa r 0) : FN n rm lo ro pa0 st last DR (va_up pa r (some st)) := by
  obtain ⟨i1, i2, i3, i4, i5, i6, i7, i8, i9, i10, i11, i12, i13⟩ := h
  have hq0 := hG.2.1
  have hns : ∀ x, x < rm → x ≠ r → ¬ pa x = some st := by
    intro x hx _ hs
    rcases i4 x hx with z | ⟨m, m1, m2, m3⟩
    · exact hu x hx (by rw [← z]; exact hs)
    · rw [hs] at m3
      have := hG.2.2.2.1 0 m i2 m2 (by rw [hq0]; exact Option.some.inj m3)
      omega
  refine ⟨⟨fun x l hx a => ?_, fun x y l hx hy a b => ?_⟩, fun l x hx a => ?_, ⟨r, i1, up_s _ _ _⟩, fun x hx hxl => ?_, ?_, fun x hx z => ?_, fun x l hx a => ?_⟩
  · by_cases e1 : x = r
    · rw [e1, up_s] at a
      rw [← Option.some.inj a, e1, ← hq0]
      exact hE r (q 0) i1 i3
    · rw [up_n e1] at a; exact i8 x l hx a
  · by_cases e1 : x = r <;> by_cases e2 : y = r
    · rw [e1, e2]
    · rw [e1, up_s] at a
      rw [up_n e2, ← Option.some.inj a] at b
      exact absurd b (hns y hy e2)
    · rw [e2, up_s] at b
      rw [up_n e1, ← Option.some.inj b] at a
      exact absurd a (hns x hx e1)
    · rw [up_n e1] at a
      rw [up_n e2] at b
      exact i6 x y l hx hy e1 e2 a b
  · obtain ⟨y, y1, y2, y3⟩ := i7 l x hx a
    exact ⟨y, y1, by rw [up_n y2]; exact y3⟩
  · by_cases e1 : x = r
    · rw [e1, up_s]
      rw [e1] at hxl
      refine ⟨fun z => (by cases z), fun z => ?_⟩
      obtain ⟨i, g1, g2⟩ := hG.2.2.2.2.2.1 r i1 (by have h3 := i3; rw [hcf, up_n hxl] at h3; rw [h3]; exact fun z => by cases z)
      rw [z] at g2; cases g2
    · rw [up_n e1]; exact i9 x hx hxl
  · by_cases e1 : last = r
    · rw [e1, up_s]; exact fun z => by cases z
    · rw [up_n e1]; exact i10 (fun z => e1 z.symm)
  · rw [up_n (fun e1 => i11 (by rw [← e1]; exact z))]; exact i12 x hx z
  · by_cases e1 : x = r
    · rw [e1, up_s] at a
      exact Or.inl (Option.some.inj a).symm
    · rw [up_n e1] at a
      rcases i4 x hx with z | ⟨m, m1, m2, m3⟩
      · exact Or.inr ⟨x, hx, by rw [← z]; exact a⟩
      · rw [a] at m3
        obtain ⟨r0, j, b1, b2, b3, b4⟩ := hG.2.2.2.2.2.2 m m1 m2
        exact Or.inr ⟨r0, b1, by rw [b4]; exact m3.symm⟩
def zo (k : Nat) (f : Nat → Option Nat) : Nat → Option Nat := fun j => if j < k then none else f j
theorem zo_0 (f : Nat → Option Nat) : zo 0 f = f := by
  funext j
  unfold zo
  rw [if_neg (by omega)]
theorem zo_s (k : Nat) (f : Nat → Option Nat) : va_up (zo k f) k none = zo (k + 1) f := by
  funext j
  unfold va_up zo
  by_cases h : j = k
  · rw [if_pos h, if_pos (by omega)]
  · rw [if_neg h]
    by_cases h2 : j < k
    · rw [if_pos h2, if_pos (by omega)]
    · rw [if_neg h2, if_neg (by omega)]
