/-! the same with bounds on the rows -/
def BJ (T : Nat → Nat → Prop) (n c0 : Nat) (S O : Nat → Prop) (s0 e : Nat) (q far : Nat → Nat) (b : Nat) : Prop :=
  BI T n c0 S O s0 e q far b ∧ (∀ i, s0 ≤ i → i < e → far (q i) ≤ i + 1) ∧ (∀ k, k < n → far k ≤ 300) ∧ n ≤ 300
theorem BJ_add {T : Nat → Nat → Prop} {n c0 : Nat} {S O : Nat → Prop} {s0 e : Nat} {q far : Nat → Nat} {b k : Nat} (h : BJ T n c0 S O s0 e q far b) (hk : k < n) (h0 : far k = 0) (hb : 0 < b) (hbe : b ≤ e + 1) (hr : rch T n S (b - 1) k) :
    BJ T n c0 S O s0 (e + 1) (va_up q e k) (va_up far k b) b := by
  obtain ⟨h1, h2, h3, h4⟩ := h
  refine ⟨BI_add h1 hk h0 hb hr, fun i a1 a2 => ?_, fun x hx => ?_, h4⟩
  · rcases Nat.lt_succ_iff_lt_or_eq.mp a2 with z | z
    · rw [up_n (show i ≠ e by omega), up_n (fun y => (h1.2.2.1 i a1 z).2.1 (by rw [y]; exact h0))]
      exact h2 i a1 z
    · subst z
      rw [up_s, up_s]; exact hbe
  · by_cases z : x = k
    · rw [z, up_s]
      have := cz_lt hk h0
      have := h1.2.1
      omega
    · rw [up_n z]; exact h3 x hx
theorem BJ_wk {T : Nat → Nat → Prop} {n c0 : Nat} {S O : Nat → Prop} {s0 e : Nat} {q far : Nat → Nat} {b b' : Nat} (hb : b ≤ b') (h : BJ T n c0 S O s0 e q far b) : BJ T n c0 S O s0 e q far b' := ⟨BI_wk hb h.1, h.2⟩
theorem BJ_to {T : Nat → Nat → Prop} {n c0 : Nat} {S O : Nat → Prop} {s0 e : Nat} {q far far' : Nat → Nat} {b : Nat} (hf : ∀ i, i < n → far' i = far i) (h : BJ T n c0 S O s0 e q far b) : BJ T n c0 S O s0 e q far' b :=
  ⟨BI_to hf h.1, fun i a1 a2 => by rw [hf _ (h.1.2.2.1 i a1 a2).1]; exact h.2.1 i a1 a2, fun k hk => by rw [hf k hk]; exact h.2.2.1 k hk, h.2.2.2⟩
theorem BJ_lt {T : Nat → Nat → Prop} {n c0 : Nat} {S O : Nat → Prop} {s0 e : Nat} {q far : Nat → Nat} {b k : Nat} (h : BJ T n c0 S O s0 e q far b) (hk : k < n) (h0 : far k = 0) : e < n := by
  have := cz_lt hk h0
  have := h.1.2.1
  omega
theorem BJ_le {T : Nat → Nat → Prop} {n c0 : Nat} {S O : Nat → Prop} {s0 e : Nat} {q far : Nat → Nat} {b : Nat} (h : BJ T n c0 S O s0 e q far b) : e ≤ n := by
  have := cz_le far n
  have := h.1.2.1
  omega
/-- nothing reached yet but what is old -/
theorem BJ_0 {T : Nat → Nat → Prop} {n c0 e : Nat} {S : Nat → Prop} {q far : Nat → Nat} {b : Nat} (hn : n ≤ 300) (hf : ∀ k, k < n → far k ≤ 300) (hc : e + c0 = cz far n) : BJ T n c0 S (fun x => far x ≠ 0) e e q far b :=
  ⟨⟨Nat.le_refl _, hc, fun i a1 a2 => absurd a2 (by omega), fun k _ a2 a3 => absurd a2 a3, fun k _ a => a, fun i j a1 a2 a3 => absurd a3 (by omega), fun k _ a2 a3 => absurd a2 a3⟩, fun i a1 a2 => absurd a2 (by omega), hf, hn⟩
theorem cz_0 {far : Nat → Nat} {n : Nat} (h : ∀ k, k < n → far k = 0) : cz far n = 0 := by
  induction n with
  | zero => rfl
  | succ n ih => simp only [cz]; rw [ih (fun k hk => h k (by omega)), if_pos (h n (by omega))]
theorem BJ_F {T : Nat → Nat → Prop} {n : Nat} {S : Nat → Prop} {q far : Nat → Nat} {b : Nat} (hn : n ≤ 300) (h : ∀ k, k < n → far k = 0) : BJ T n 0 S (fun _ => False) 0 0 q far b :=
  ⟨⟨Nat.le_refl _, (cz_0 h).symm, fun i a1 a2 => absurd a2 (by omega), fun k a1 a2 => absurd (h k a1) a2, fun k _ a => a.elim, fun i j a1 a2 a3 => absurd a3 (by omega), fun k a1 a2 => absurd (h k a1) a2⟩, fun i a1 a2 => absurd a2 (by omega), fun k hk => by rw [h k hk]; omega, hn⟩
/-- the next place of the row, and a neighbour of it -/
theorem BJ_nb {T : Nat → Nat → Prop} {n c0 : Nat} {S O : Nat → Prop} {s0 e : Nat} {q far : Nat → Nat} {b t k : Nat} (h : BJ T n c0 S O s0 e q far b) (h1 : s0 ≤ t) (h2 : t < e) (hk : k < n) (hT : T (q t) k) : rch T n S (far (q t) + 1 - 1) k := by
  obtain ⟨a1, a2, a3, -⟩ := h.1.2.2.1 t h1 h2
  have := h.1.2.2.2.2.2.2 _ a1 a2 a3
  rw [show far (q t) + 1 - 1 = (far (q t) - 1) + 1 by omega]
  exact ⟨hk, Or.inr ⟨_, this, hT⟩⟩
/-- a place that has been reached and is not old has a small row -/
theorem BJ_far {T : Nat → Nat → Prop} {n c0 : Nat} {S O : Nat → Prop} {s0 e : Nat} {q far : Nat → Nat} {b k : Nat} (h : BJ T n c0 S O s0 e q far b) (hk : k < n) (h0 : far k ≠ 0) (hO : ¬ O k) : far k ≤ b := by
  obtain ⟨i, a1, a2, a3⟩ := h.1.2.2.2.1 k hk h0 hO
  subst a3
  exact (h.1.2.2.1 i a1 a2).2.2.2
theorem vis_add {n : Nat} {far : Nat → Nat} {k b c : Nat} {P : Nat → Prop} (h0 : far k = 0) (h : ∀ x, x < n → P x → far x ≠ 0 ∧ far x ≤ c) : ∀ x, x < n → P x → va_up far k b x ≠ 0 ∧ va_up far k b x ≤ c := by
  intro x hx hp
  have := h x hx hp
  rw [up_n (fun z => this.1 (by rw [z]; exact h0))]
  exact this
def zr (k : Nat) (f : Nat → Nat) : Nat → Nat := fun j => if j < k then 0 else f j
theorem zr_0 (f : Nat → Nat) : zr 0 f = f := by
  funext j
  unfold zr
  rw [if_neg (by omega)]
theorem zr_s (k : Nat) (f : Nat → Nat) : va_up (zr k f) k 0 = zr (k + 1) f := by
  funext j
  unfold va_up zr
  by_cases h : j = k
  · rw [if_pos h, if_pos (by omega)]
  · rw [if_neg h]
    by_cases h2 : j < k
    · rw [if_pos h2, if_pos (by omega)]
    · rw [if_neg h2, if_neg (by omega)]
section ZR2
variable {p : Program} {l : Launch} {e : Env} {R : Room} {s : State} {m : MethodId} {args : Array Value} {below : List Frame} {meth : Method} {c : Code} {H : Heap} {locs : List Loc} {cells slots : Nat} {Q : State → Prop}
variable {cc : ByteArray} {pc : Nat} {ls : Array Slot} {rest : List Value}
theorem z_if_le (hx : p.tables.exec = Jvm.exec) (hb : c.code = cc) {x : Nat} {off : Int} {tgt : Nat} (h1 : x < 2 ^ 31) (hdg : decode cc pc = .ok (.ifCond .le off, 3)) (ht : (pc : Int) + off = (tgt : Int))
    (kt : x = 0 → W p l e R s m args below meth c H locs cells slots Q (F0 m tgt ls rest)) (kf : x ≠ 0 → W p l e R s m args below meth c H locs cells slots Q (F0 m (pc + 3) ls rest)) : W p l e R s m args below meth c H locs cells slots Q (F0 m pc ls (.int (nI x) :: rest)) :=
  lv_if_le hx hb hdg ht (fun h => kt (by
    rcases Nat.eq_zero_or_pos x with q | q
    · exact q
    · exact absurd h (nI_nle q h1))) (fun h => kf (fun q => h (by rw [q]; decide)))
end ZR2
