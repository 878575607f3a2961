/-! count -/
def cRL (G : Gd) (b : Nat → Nat) (L : List Pr) (h : Heap) : Prop := ∃ (lf rt : Nat → Int32) (lo ro : Nat → Nat) (fo no : Nat → Option Nat) (lm rm : Nat) (pa : Nat → Option Nat) (mt : Nat → Int32) (q : Nat → Nat) (cf : Nat → Option Nat) (fa : Nat → Nat) (kp : Nat → Int32), MI lf rt L ∧ va_P G.1 vwCl (cR G b L.length lf rt lo ro fo no lm rm pa mt q cf fa kp) h
def countR (L : List Pr) (w z : Int32) : Prop :=
  if w = nI 0 then z = nI L.length else if w = nI 1 then z = nI (dis (key 0 L) L.length) else if w = nI 2 then z = nI (dis (key 1 L) L.length)
  else if w = nI 3 then (∃ k, isMM L k ∧ z = nI k) else if w = nI 4 then z = nI (pcn (tch L) L.length L.length) else z = -1
theorem countR_uniq {L : List Pr} {w z z' : Int32} (h : countR L w z) (h' : countR L w z') : z = z' := by
  unfold countR at h h'
  by_cases e0 : w = nI 0
  · rw [if_pos e0] at h h'; exact h.trans h'.symm
  · rw [if_neg e0] at h h'
    by_cases e1 : w = nI 1
    · rw [if_pos e1] at h h'; exact h.trans h'.symm
    · rw [if_neg e1] at h h'
      by_cases e2 : w = nI 2
      · rw [if_pos e2] at h h'; exact h.trans h'.symm
      · rw [if_neg e2] at h h'
        by_cases e3 : w = nI 3
        · rw [if_pos e3] at h h'
          obtain ⟨k, a, b⟩ := h
          obtain ⟨k', a', b'⟩ := h'
          rw [b, b', isMM_uniq a a']
        · rw [if_neg e3] at h h'
          by_cases e4 : w = nI 4
          · rw [if_pos e4] at h h'; exact h.trans h'.symm
          · rw [if_neg e4] at h h'; exact h.trans h'.symm
theorem sw_out {w : Int32} (h0 : ¬ w = nI 0) (h1 : ¬ w = nI 1) (h2 : ¬ w = nI 2) (h3 : ¬ w = nI 3) (h4 : ¬ w = nI 4) : w.toInt < 0 ∨ 4 < w.toInt := by
  rcases Int.lt_or_le w.toInt 0 with a | a
  · exact Or.inl a
  · rcases Int.lt_or_le 4 w.toInt with b | b
    · exact Or.inr b
    · obtain ⟨j, hj, he⟩ := vp_in_of (n := 5) (vp_in_iff.mpr ⟨a, by omega⟩) (by decide)
      rcases (show j = 0 ∨ j = 1 ∨ j = 2 ∨ j = 3 ∨ j = 4 by omega) with rfl | rfl | rfl | rfl | rfl
      · exact absurd he h0
      · exact absurd he h1
      · exact absurd he h2
      · exact absurd he h3
      · exact absurd he h4
theorem co0 {L : List Pr} {z : Int32} (h : z = nI L.length) : countR L (nI 0) z := by unfold countR; rw [if_pos rfl]; exact h
theorem co1 {L : List Pr} {z : Int32} (h : z = nI (dis (key 0 L) L.length)) : countR L (nI 1) z := by unfold countR; rw [if_neg (by decide), if_pos rfl]; exact h
theorem co2 {L : List Pr} {z : Int32} (h : z = nI (dis (key 1 L) L.length)) : countR L (nI 2) z := by unfold countR; rw [if_neg (by decide), if_neg (by decide), if_pos rfl]; exact h
theorem co3 {L : List Pr} {z : Int32} (h : ∃ k, isMM L k ∧ z = nI k) : countR L (nI 3) z := by unfold countR; rw [if_neg (by decide), if_neg (by decide), if_neg (by decide), if_pos rfl]; exact h
theorem co4 {L : List Pr} {z : Int32} (h : z = nI (pcn (tch L) L.length L.length)) : countR L (nI 4) z := by unfold countR; rw [if_neg (by decide), if_neg (by decide), if_neg (by decide), if_neg (by decide), if_pos rfl]; exact h
theorem co5 {L : List Pr} {w z : Int32} (h0 : ¬ w = nI 0) (h1 : ¬ w = nI 1) (h2 : ¬ w = nI 2) (h3 : ¬ w = nI 3) (h4 : ¬ w = nI 4) (h : z = -1) : countR L w z := by unfold countR; rw [if_neg h0, if_neg h1, if_neg h2, if_neg h3, if_neg h4]; exact h
/-- the model's matching, at its end -/
theorem MM_model {L : List Pr} {lm rm : Nat} {lo ro : Nat → Nat} {pa : Nat → Option Nat} {DL DR : Nat → Prop} (hL : NL (key 0 L) L.length lm lo) (hR : NL (key 1 L) L.length rm ro) (hM : MT L.length rm lo ro pa) (hD : CD L.length rm lo ro pa DL DR) (hd : ∀ l, l < lm → (∀ r, r < rm → ¬ pa r = some l) → DL l) : isMM L (cz (fun r => om (pa r)) rm) := by
  have hx : ∀ r, ∃ k, r < rm → ∀ l, pa r = some l → k < L.length ∧ lo k = l ∧ ro k = r := by
    intro r
    by_cases h : r < rm ∧ ∃ l, pa r = some l
    · obtain ⟨a, l, b⟩ := h
      obtain ⟨k, c1, c2, c3⟩ := hM.1 r l a b
      exact ⟨k, fun _ l' hl' => ⟨c1, by rw [b] at hl'; cases hl'; exact c2, c3⟩⟩
    · exact ⟨0, fun a l hl => absurd ⟨a, l, hl⟩ h⟩
  have hsome : ∀ r, om (pa r) ≠ 0 → ∃ l, pa r = some l := fun r h => by
    cases e : pa r with
    | none => rw [e] at h; exact absurd rfl h
    | some l => exact ⟨l, rfl⟩
  have sp : ∀ r l, r < rm → pa r = some l → Classical.choose (hx r) < L.length ∧ lo (Classical.choose (hx r)) = l ∧ ro (Classical.choose (hx r)) = r := fun r l a b => Classical.choose_spec (hx r) a l b
  refine MM_of (fun r => om (pa r)) (fun r => Classical.choose (hx r)) DR (fun r hr h => ?_) (fun r t hr ht h1 h2 ht9 => ?_) (fun x hx9 => ?_)
  · obtain ⟨l, e⟩ := hsome r h
    exact (sp r l hr e).1
  · obtain ⟨l, e⟩ := hsome r h1
    obtain ⟨l', e'⟩ := hsome t h2
    obtain ⟨a1, a2, a3⟩ := sp r l hr e
    obtain ⟨b1, b2, b3⟩ := sp t l' ht e'
    rcases ht9 with z | z
    · have := (hL.2.1 _ _ a1 b1).mpr z
      rw [a2, b2] at this
      subst this
      exact hM.2 r t l hr ht e e'
    · have := (hR.2.1 _ _ a1 b1).mpr z
      rw [a3, b3] at this
      exact this
  · have hlx := hL.1 x hx9
    have hrx := hR.1 x hx9
    by_cases h : DL (lo x)
    · have hdr := hD.1 x hx9 h
      obtain ⟨l, e, -⟩ := hD.2 _ hrx hdr
      obtain ⟨a1, a2, a3⟩ := sp _ l hrx e
      exact ⟨ro x, hrx, by show om (pa (ro x)) ≠ 0; rw [e]; exact Nat.one_ne_zero, Or.inl ⟨hdr, (hR.2.1 _ _ hx9 a1).mp a3.symm⟩⟩
    · have hex : ∃ r, r < rm ∧ pa r = some (lo x) := by
        apply Classical.byContradiction
        intro hn
        exact h (hd _ hlx (fun r hr e => hn ⟨r, hr, e⟩))
      obtain ⟨r, hr, e⟩ := hex
      obtain ⟨a1, a2, a3⟩ := sp r _ hr e
      refine ⟨r, hr, by show om (pa r) ≠ 0; rw [e]; exact Nat.one_ne_zero, Or.inr ⟨fun hdr => ?_, (hL.2.1 _ _ hx9 a1).mp a2.symm⟩⟩
      obtain ⟨l, e', hl⟩ := hD.2 r hr hdr
      rw [e] at e'
      cases e'
      exact h hl
