/-! breadth first, over n places with a relation T between them: S the places to begin with, O old ones -/
def rch (T : Nat → Nat → Prop) (n : Nat) (S : Nat → Prop) : Nat → Nat → Prop
  | 0, k => k < n ∧ S k
  | m + 1, k => k < n ∧ (rch T n S m k ∨ ∃ j, rch T n S m j ∧ T j k)
theorem rch_lt {T : Nat → Nat → Prop} {n m k : Nat} {S : Nat → Prop} (h : rch T n S m k) : k < n := by
  cases m with
  | zero => exact h.1
  | succ m => exact h.1
def cz (far : Nat → Nat) : Nat → Nat
  | 0 => 0
  | n + 1 => cz far n + (if far n = 0 then 0 else 1)
theorem cz_le (far : Nat → Nat) (n : Nat) : cz far n ≤ n := by
  induction n with
  | zero => exact Nat.le_refl _
  | succ n ih => simp only [cz]; split <;> omega
theorem cz_congr {far far' : Nat → Nat} {n : Nat} (h : ∀ i, i < n → (far i = 0 ↔ far' i = 0)) : cz far n = cz far' n := by
  induction n with
  | zero => rfl
  | succ n ih =>
    simp only [cz]
    rw [ih (fun i hi => h i (by omega))]
    by_cases q : far n = 0
    · rw [if_pos q, if_pos ((h n (by omega)).mp q)]
    · rw [if_neg q, if_neg (fun z => q ((h n (by omega)).mpr z))]
theorem cz_lt {far : Nat → Nat} {n k : Nat} (hk : k < n) (h0 : far k = 0) : cz far n < n := by
  induction n with
  | zero => omega
  | succ n ih =>
    simp only [cz]
    by_cases q : k = n
    · subst q
      have := cz_le far k
      rw [if_pos h0]; omega
    · have := ih (by omega)
      split <;> omega
theorem cz_set {far : Nat → Nat} {n k v : Nat} (hk : k < n) (h0 : far k = 0) (hv : v ≠ 0) : cz (va_up far k v) n = cz far n + 1 := by
  induction n with
  | zero => omega
  | succ n ih =>
    simp only [cz]
    by_cases q : k = n
    · subst q
      rw [up_s, if_neg hv, if_pos h0, cz_congr (far := va_up far k v) (far' := far) (fun i hi => by rw [up_n (by omega)])]
    · rw [up_n (fun z => q z.symm), ih (by omega)]
      split <;> omega
def BI (T : Nat → Nat → Prop) (n c0 : Nat) (S O : Nat → Prop) (s0 e : Nat) (q far : Nat → Nat) (b : Nat) : Prop :=
  s0 ≤ e ∧ e + c0 = cz far n ∧ (∀ i, s0 ≤ i → i < e → q i < n ∧ far (q i) ≠ 0 ∧ ¬ O (q i) ∧ far (q i) ≤ b) ∧ (∀ k, k < n → far k ≠ 0 → ¬ O k → ∃ i, s0 ≤ i ∧ i < e ∧ q i = k) ∧ (∀ k, k < n → O k → far k ≠ 0) ∧
  (∀ i j, s0 ≤ i → i ≤ j → j < e → far (q i) ≤ far (q j)) ∧ (∀ k, k < n → far k ≠ 0 → ¬ O k → rch T n S (far k - 1) k)
theorem BI_add {T : Nat → Nat → Prop} {n c0 : Nat} {S O : Nat → Prop} {s0 e : Nat} {q far : Nat → Nat} {b k : Nat} (h : BI T n c0 S O s0 e q far b) (hk : k < n) (h0 : far k = 0) (hb : 0 < b) (hr : rch T n S (b - 1) k) :
    BI T n c0 S O s0 (e + 1) (va_up q e k) (va_up far k b) b := by
  obtain ⟨h1, h2, h3, h4, h5, h6, h7⟩ := h
  have hOk : ¬ O k := fun z => h5 k hk z h0
  have qe : ∀ i, i < e → va_up q e k i = q i := fun i hi => up_n (by omega)
  have fe : ∀ x, x ≠ k → va_up far k b x = far x := fun x hx => up_n hx
  have qk : ∀ i, s0 ≤ i → i < e → q i ≠ k := fun i a1 a2 z => (h3 i a1 a2).2.1 (by rw [z]; exact h0)
  refine ⟨by omega, by rw [cz_set hk h0 (by omega)]; omega, fun i a1 a2 => ?_, fun x a1 a2 a3 => ?_, fun x a1 a2 => ?_, fun i j a1 a2 a3 => ?_, fun x a1 a2 a3 => ?_⟩
  · rcases Nat.lt_succ_iff_lt_or_eq.mp a2 with z | z
    · rw [qe i z, fe _ (qk i a1 z)]
      exact h3 i a1 z
    · subst z
      rw [up_s, up_s]
      exact ⟨hk, by omega, hOk, Nat.le_refl _⟩
  · by_cases z : x = k
    · exact ⟨e, h1, by omega, by rw [up_s, z]⟩
    · rw [fe x z] at a2
      obtain ⟨i, c1, c2, c3⟩ := h4 x a1 a2 a3
      exact ⟨i, c1, by omega, by rw [qe i c2]; exact c3⟩
  · by_cases z : x = k
    · rw [z, up_s]; omega
    · rw [fe x z]; exact h5 x a1 a2
  · rcases Nat.lt_succ_iff_lt_or_eq.mp a3 with z | z
    · rw [qe i (by omega), qe j z, fe _ (qk i a1 (by omega)), fe _ (qk j (by omega) z)]
      exact h6 i j a1 a2 z
    · subst z
      rw [up_s, up_s]
      rcases Nat.lt_or_ge i j with y | y
      · rw [qe i y, fe _ (qk i a1 y)]
        exact (h3 i a1 y).2.2.2
      · rw [show i = j by omega, up_s, up_s]
        exact Nat.le_refl _
  · by_cases z : x = k
    · rw [z, up_s]; exact hr
    · rw [fe x z]
      rw [fe x z] at a2
      exact h7 x a1 a2 a3
theorem BI_wk {T : Nat → Nat → Prop} {n c0 : Nat} {S O : Nat → Prop} {s0 e : Nat} {q far : Nat → Nat} {b b' : Nat} (hb : b ≤ b') (h : BI T n c0 S O s0 e q far b) : BI T n c0 S O s0 e q far b' := by
  obtain ⟨h1, h2, h3, h4⟩ := h
  exact ⟨h1, h2, fun i a1 a2 => ⟨(h3 i a1 a2).1, (h3 i a1 a2).2.1, (h3 i a1 a2).2.2.1, Nat.le_trans (h3 i a1 a2).2.2.2 hb⟩, h4⟩
theorem BI_to {T : Nat → Nat → Prop} {n c0 : Nat} {S O : Nat → Prop} {s0 e : Nat} {q far far' : Nat → Nat} {b : Nat} (hf : ∀ i, i < n → far' i = far i) (h : BI T n c0 S O s0 e q far b) : BI T n c0 S O s0 e q far' b := by
  obtain ⟨h1, h2, h3, h4, h5, h6, h7⟩ := h
  refine ⟨h1, by rw [h2]; exact cz_congr (fun i hi => by rw [hf i hi]), fun i a1 a2 => ?_, fun k a1 a2 => ?_, fun k a1 a2 => ?_, fun i j a1 a2 a3 => ?_, fun k a1 a2 a3 => ?_⟩
  · have := h3 i a1 a2
    rw [hf _ this.1]; exact this
  · rw [hf k a1] at a2; exact h4 k a1 a2
  · rw [hf k a1]; exact h5 k a1 a2
  · rw [hf _ (h3 i a1 (by omega)).1, hf _ (h3 j (by omega) a3).1]; exact h6 i j a1 a2 a3
  · rw [hf k a1]; rw [hf k a1] at a2; exact h7 k a1 a2 a3
def Ext (n e : Nat) (q far : Nat → Nat) (e' : Nat) (q' far' : Nat → Nat) : Prop := e ≤ e' ∧ (∀ i, i < e → q' i = q i) ∧ ∀ k, k < n → far k ≠ 0 → far' k = far k
theorem Ext_rf {n e : Nat} {q far : Nat → Nat} : Ext n e q far e q far := ⟨Nat.le_refl _, fun _ _ => rfl, fun _ _ _ => rfl⟩
theorem Ext_tr {n e e1 e2 : Nat} {q far q1 far1 q2 far2 : Nat → Nat} (h1 : Ext n e q far e1 q1 far1) (h2 : Ext n e1 q1 far1 e2 q2 far2) : Ext n e q far e2 q2 far2 :=
  ⟨Nat.le_trans h1.1 h2.1, fun i hi => (h2.2.1 i (Nat.lt_of_lt_of_le hi h1.1)).trans (h1.2.1 i hi), fun k hk h => by rw [h2.2.2 k hk (by rw [h1.2.2 k hk h]; exact h), h1.2.2 k hk h]⟩
theorem Ext_add {n e k b : Nat} {q far : Nat → Nat} (h0 : far k = 0) : Ext n e q far (e + 1) (va_up q e k) (va_up far k b) :=
  ⟨by omega, fun i hi => up_n (by omega), fun x _ h => up_n (fun z => h (by rw [z]; exact h0))⟩
theorem Ext_to {n e e' : Nat} {q far q' far' far2 : Nat → Nat} (hf : ∀ i, i < n → far2 i = far' i) (h : Ext n e q far e' q' far') : Ext n e q far e' q' far2 :=
  ⟨h.1, h.2.1, fun k hk h0 => by rw [hf k hk]; exact h.2.2 k hk h0⟩
/-- the neighbours of those before t have been reached -/
def Pd (T : Nat → Nat → Prop) (n s0 t : Nat) (q far : Nat → Nat) : Prop := ∀ i, s0 ≤ i → i < t → ∀ k, k < n → T (q i) k → far k ≠ 0 ∧ far k ≤ far (q i) + 1
theorem Pd_ext {T : Nat → Nat → Prop} {n s0 t e e' : Nat} {q far q' far' : Nat → Nat} (ht : t ≤ e) (hq : ∀ i, s0 ≤ i → i < e → q i < n ∧ far (q i) ≠ 0) (h : Pd T n s0 t q far) (hx : Ext n e q far e' q' far') : Pd T n s0 t q' far' := by
  intro i a1 a2 k hk hT
  rw [hx.2.1 i (by omega)] at hT ⊢
  obtain ⟨b1, b2⟩ := h i a1 a2 k hk hT
  obtain ⟨c1, c2⟩ := hq i a1 (by omega)
  rw [hx.2.2 k hk b1, hx.2.2 _ c1 c2]
  exact ⟨b1, b2⟩
def IsFar (T : Nat → Nat → Prop) (n : Nat) (S : Nat → Prop) (far : Nat → Nat) : Prop :=
  (∀ k, k < n → far k ≠ 0 → rch T n S (far k - 1) k) ∧ (∀ k, k < n → S k → far k ≠ 0 ∧ far k ≤ 1) ∧ ∀ j k, j < n → k < n → far j ≠ 0 → T j k → far k ≠ 0 ∧ far k ≤ far j + 1
theorem IsFar_of {T : Nat → Nat → Prop} {n c0 : Nat} {S : Nat → Prop} {s0 e : Nat} {q far : Nat → Nat} {b : Nat} (h : BI T n c0 S (fun _ => False) s0 e q far b) (hp : Pd T n s0 e q far) (hs : ∀ k, k < n → S k → far k ≠ 0 ∧ far k ≤ 1) : IsFar T n S far := by
  obtain ⟨h1, h2, h3, h4, h5, h6, h7⟩ := h
  refine ⟨fun k a1 a2 => h7 k a1 a2 id, hs, fun j k a1 a2 a3 a4 => ?_⟩
  obtain ⟨i, c1, c2, c3⟩ := h4 j a1 a3 id
  subst c3
  exact hp i c1 c2 k a2 a4
theorem IsFar_le {T : Nat → Nat → Prop} {n : Nat} {S : Nat → Prop} {far : Nat → Nat} (h : IsFar T n S far) : ∀ m k, rch T n S m k → far k ≠ 0 ∧ far k ≤ m + 1 := by
  intro m
  induction m with
  | zero => intro k hk; exact h.2.1 k hk.1 hk.2
  | succ m ih =>
    intro k hk
    rcases hk with ⟨a, b | ⟨j, b, c⟩⟩
    · have := ih k b
      exact ⟨this.1, by omega⟩
    · have h1 := ih j b
      have h2 := h.2.2 j k (rch_lt b) a h1.1 c
      exact ⟨h2.1, by omega⟩
theorem IsFar_uniq {T : Nat → Nat → Prop} {n : Nat} {S : Nat → Prop} {far far' : Nat → Nat} (h : IsFar T n S far) (h' : IsFar T n S far') : ∀ k, k < n → far k = far' k := by
  intro k hk
  by_cases h0 : far k = 0
  · by_cases h1 : far' k = 0
    · rw [h0, h1]
    · exact absurd h0 (IsFar_le h _ k (h'.1 k hk h1)).1
  · have a := IsFar_le h' _ k (h.1 k hk h0)
    have b := IsFar_le h _ k (h'.1 k hk a.1)
    omega
theorem IsFar_to {T : Nat → Nat → Prop} {n : Nat} {S : Nat → Prop} {far far' : Nat → Nat} (hf : ∀ i, i < n → far' i = far i) (h : IsFar T n S far) : IsFar T n S far' :=
  ⟨fun k a1 a2 => by rw [hf k a1]; rw [hf k a1] at a2; exact h.1 k a1 a2, fun k a1 a2 => by rw [hf k a1]; exact h.2.1 k a1 a2, fun j k a1 a2 a3 a4 => by rw [hf j a1] at a3 ⊢; rw [hf k a2]; exact h.2.2 j k a1 a2 a3 a4⟩
/-- parts -/
def conn (T : Nat → Nat → Prop) (n j k : Nat) : Prop := ∃ m, rch T n (fun x => x = j) m k
noncomputable def pcn (T : Nat → Nat → Prop) (n : Nat) : Nat → Nat
  | 0 => 0
  | k + 1 => pcn T n k + @ite Nat (∃ j, j < k ∧ conn T n j k) (Classical.propDecidable _) 0 1
theorem pcn_old {T : Nat → Nat → Prop} {n k : Nat} (h : ∃ j, j < k ∧ conn T n j k) : pcn T n (k + 1) = pcn T n k := by
  show pcn T n k + _ = _
  rw [if_pos h, Nat.add_zero]
theorem pcn_new {T : Nat → Nat → Prop} {n k : Nat} (h : ¬ ∃ j, j < k ∧ conn T n j k) : pcn T n (k + 1) = pcn T n k + 1 := by
  show pcn T n k + _ = _
  rw [if_neg h]
theorem conn_step {T : Nat → Nat → Prop} {n j k x : Nat} (h : conn T n j k) (hx : x < n) (hT : T k x) : conn T n j x := by
  obtain ⟨m, h⟩ := h
  exact ⟨m + 1, hx, Or.inr ⟨k, h, hT⟩⟩
theorem conn_from {T : Nat → Nat → Prop} {n k : Nat} {S : Nat → Prop} (hS : ∀ x, x < n → S x → conn T n k x) : ∀ m x, rch T n S m x → conn T n k x := by
  intro m
  induction m with
  | zero => intro x h; exact hS x h.1 h.2
  | succ m ih =>
    intro x h
    rcases h with ⟨a, b | ⟨j, b, c⟩⟩
    · exact ih x b
    · exact conn_step (ih j b) a c
/-- what has been reached, when the places below k have been gone through -/
def PI (T : Nat → Nat → Prop) (n k : Nat) (far : Nat → Nat) : Prop := ∀ x, x < n → (far x ≠ 0 ↔ ∃ j, j < k ∧ conn T n j x)
theorem PI_0 {T : Nat → Nat → Prop} {n : Nat} {far : Nat → Nat} (h : ∀ x, x < n → far x = 0) : PI T n 0 far := fun x hx => ⟨fun z => absurd (h x hx) z, fun ⟨j, a, _⟩ => absurd a (Nat.not_lt_zero j)⟩
theorem PI_old {T : Nat → Nat → Prop} {n k : Nat} {far : Nat → Nat} (hk : k < n) (h : PI T n k far) (h0 : far k ≠ 0) : PI T n (k + 1) far := by
  intro x hx
  rw [h x hx]
  refine ⟨fun ⟨j, a, b⟩ => ⟨j, by omega, b⟩, fun ⟨j, a, b⟩ => ?_⟩
  rcases Nat.lt_succ_iff_lt_or_eq.mp a with z | z
  · exact ⟨j, z, b⟩
  · subst z
    obtain ⟨i, c1, c2⟩ := (h j hk).mp h0
    obtain ⟨m, b⟩ := b
    exact ⟨i, c1, conn_from (S := fun x => x = j) (fun y _ hy => by rw [hy]; exact c2) m x b⟩
theorem PI_new {T : Nat → Nat → Prop} {n k c0 : Nat} {S : Nat → Prop} {s0 e : Nat} {q far far' : Nat → Nat} {b : Nat} (hsym : ∀ x y, T x y → T y x) (hk : k < n) (h : PI T n k far) (h0 : far k = 0) (hSk : S k) (hS : ∀ x, x < n → S x → conn T n k x)
    (hB : BI T n c0 S (fun x => far x ≠ 0) s0 e q far' b) (hp : Pd T n s0 e q far') (hs : ∀ x, x < n → S x → far' x ≠ 0) (hx : ∀ x, x < n → far x ≠ 0 → far' x = far x) : PI T n (k + 1) far' := by
  obtain ⟨h1, h2, h3, h4, h5, h6, h7⟩ := hB
  have hcl : ∀ x y, x < n → y < n → far x ≠ 0 → T x y → far y ≠ 0 := fun x y a1 a2 a3 a4 => by
    obtain ⟨j, b1, b2⟩ := (h x a1).mp a3
    exact (h y a2).mpr ⟨j, b1, conn_step b2 a2 a4⟩
  have key : ∀ m x, rch T n (fun x => x = k) m x → far' x ≠ 0 ∧ ¬ far x ≠ 0 := by
    intro m
    induction m with
    | zero =>
      intro x hx'
      rw [hx'.2]
      exact ⟨hs k hk hSk, fun z => z h0⟩
    | succ m ih =>
      intro x hx'
      rcases hx' with ⟨a, b | ⟨j, b, c⟩⟩
      · exact ih x b
      · obtain ⟨d1, d2⟩ := ih j b
        obtain ⟨i, e1, e2, e3⟩ := h4 j (rch_lt b) d1 d2
        subst e3
        exact ⟨(hp i e1 e2 x a c).1, fun z => d2 (hcl x (q i) a (rch_lt b) z (hsym _ _ c))⟩
  intro x hx'
  constructor
  · intro z
    by_cases ho : far x ≠ 0
    · obtain ⟨j, a1, a2⟩ := (h x hx').mp ho
      exact ⟨j, by omega, a2⟩
    · exact ⟨k, by omega, conn_from hS _ x (h7 x hx' z ho)⟩
  · rintro ⟨j, a1, a2⟩
    rcases Nat.lt_succ_iff_lt_or_eq.mp a1 with z | z
    · have := (h x hx').mpr ⟨j, z, a2⟩
      rw [hx x hx' this]; exact this
    · subst z
      obtain ⟨m, a2⟩ := a2
      exact (key m x a2).1
/-- two pairs have a number in common -/
def tch (L : List Pr) (i j : Nat) : Prop := key 0 L i = key 0 L j ∨ key 1 L i = key 1 L j
theorem tch_sym (L : List Pr) : ∀ x y, tch L x y → tch L y x := fun _ _ h => h.imp Eq.symm Eq.symm
theorem tch_d {L : List Pr} {d i j : Nat} (hd : d < 2) (h : key d L i = key d L j) : tch L i j := by
  rcases (show d = 0 ∨ d = 1 by omega) with rfl | rfl
  · exact Or.inl h
  · exact Or.inr h
/-- the answers -/
def partR (L : List Pr) (sx v : Int32) (r : Nat) : Prop := match sideOf sx with
  | none => r = 0
  | some d => ∃ far, IsFar (tch L) L.length (fun i => key d L i = v) far ∧ r = cz far L.length
def wayR (L : List Pr) (sx v ox w : Int32) (r : Nat) : Prop := match sideOf sx, sideOf ox with
  | some d, some o => ∃ far, IsFar (tch L) L.length (fun i => key d L i = v) far ∧ ((r = 0 ∧ ∀ k, k < L.length → key o L k = w → far k = 0) ∨ (∃ k, k < L.length ∧ key o L k = w ∧ far k ≠ 0 ∧ r = far k ∧ ∀ j, j < L.length → key o L j = w → far j ≠ 0 → far k ≤ far j))
  | _, _ => r = 0
theorem partR_uniq {L : List Pr} {sx v : Int32} {r r' : Nat} (h : partR L sx v r) (h' : partR L sx v r') : r = r' := by
  unfold partR at h h'
  cases hs : sideOf sx with
  | none => rw [hs] at h h'; exact h.trans h'.symm
  | some d =>
    rw [hs] at h h'
    obtain ⟨f, a1, a2⟩ := h
    obtain ⟨f', b1, b2⟩ := h'
    rw [a2, b2]
    exact cz_congr (fun i hi => by rw [IsFar_uniq a1 b1 i hi])
theorem wayR_uniq {L : List Pr} {sx v ox w : Int32} {r r' : Nat} (h : wayR L sx v ox w r) (h' : wayR L sx v ox w r') : r = r' := by
  unfold wayR at h h'
  cases hs : sideOf sx with
  | none => rw [hs] at h h'; exact h.trans h'.symm
  | some d =>
    cases ho : sideOf ox with
    | none => rw [hs, ho] at h h'; exact h.trans h'.symm
    | some o =>
      rw [hs, ho] at h h'
      obtain ⟨f, a1, a2⟩ := h
      obtain ⟨f', b1, b2⟩ := h'
      have e := IsFar_uniq a1 b1
      rcases a2 with ⟨c1, c2⟩ | ⟨k, c1, c2, c3, c4, c5⟩ <;> rcases b2 with ⟨d1, d2⟩ | ⟨j, d1, d2, d3, d4, d5⟩
      · rw [c1, d1]
      · exact absurd (by rw [← e j d1]; exact c2 j d1 d2) d3
      · exact absurd (by rw [e k c1]; exact d2 k c1 c2) c3
      · have g1 := c5 j d1 d2 (by rw [e j d1]; exact d3)
        have g2 := d5 k c1 c2 (by rw [← e k c1]; exact c3)
        have e1 := e j d1
        have e2 := e k c1
        omega
