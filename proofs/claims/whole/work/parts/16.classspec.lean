/-! the class itself: its cells beside those of its Threads -/
def aP (a : Nat → Nat) : List Nat := aT a ++ [a 27]
def cPL (G : Gd) (a : Nat → Nat) (L : List Pr) (h : Heap) : Prop := ∃ (p : Nat → Nat) (N : Nat → Nat → Int32) (B F : Nat → Nat → Option Nat), TI p N B F L ∧ va_P G.1 vwCl (cT G a p N B F L.length ++ cP a) h
theorem aP_T {a : Nat → Nat} (h : (aP a).Nodup) : (aT a).Nodup := (List.nodup_append.mp h).1
theorem aP_sep {a : Nat → Nat} (h : (aP a).Nodup) : ∀ q ∈ (cP a).map Prod.fst, ¬ (fun q => q ∈ aT a) q := by
  intro q hq hm
  have h1 : q ∈ [a 27] := hq
  exact (List.nodup_append.mp h).2.2 q hm q h1 rfl
theorem TI_clear {p : Nat → Nat} {N : Nat → Nat → Int32} {B F : Nat → Nat → Option Nat} {L : List Pr} (h : TI p N B F L) : TI p N B F [] :=
  ⟨h.1, h.2.1, Nat.zero_le _, fun d i _ hi => absurd hi (Nat.not_lt_zero i), fun d _ => ⟨fun i hi => absurd hi (Nat.not_lt_zero i), fun i hi => absurd hi (Nat.not_lt_zero i)⟩⟩
