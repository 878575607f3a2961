/-! the law's numbers, and what keeps the pairs different -/
theorem lp_ok {L i : Nat} (hL : L < 2 ^ 30) (hi : i < 2 ^ 30) (h : ¬ nI L - nI 5 < nI i) : i + 5 ≤ L := by
  rw [Int32.lt_iff_toInt_lt, pk_sub_toInt hL (by decide), nI_toInt (by omega)] at h
  omega
theorem otherR_uniq {L : List Pr} {sx v x z z' : Int32} (hn : L.length ≤ 300) (h : otherR L sx v x z) (h' : otherR L sx v x z') : z = z' := by
  unfold otherR at h h'
  cases hs : sideOf sx with
  | none => rw [hs] at h h'; exact h.trans h'.symm
  | some d =>
    rw [hs] at h h'
    obtain ⟨o, a1, a2⟩ := h
    obtain ⟨o', b1, b2⟩ := h'
    rw [a2, b2, nthR_uniq hn a1 b1]
theorem nd_link {L : List Pr} (h : L.Nodup) (x y : Int32) : (linkL L x y).Nodup := by
  unfold linkL
  split
  · exact h
  · split
    · exact h
    · refine List.nodup_append.mpr ⟨h, by simp, fun a ha b hb e => ?_⟩
      rw [List.mem_singleton.mp hb] at e
      rw [e] at ha
      contradiction
theorem nd_unl {L : List Pr} (h : L.Nodup) (o : Option Nat) : (unlL L o).Nodup := by
  cases o with
  | none => exact h
  | some i => exact h.sublist (List.eraseIdx_sublist L i)
theorem nd_wo {L : List Pr} (h : L.Nodup) (d : Nat) (v : Int32) : (wo d v L).Nodup := h.sublist (List.filter_sublist)
theorem nd_drop {L : List Pr} (h : L.Nodup) (sx v : Int32) : (dropL L sx v).Nodup := by
  unfold dropL
  cases sideOf sx with
  | none => exact h
  | some d => exact nd_wo h d v
theorem nd_ren_aux (d : Nat) (v to : Int32) (M L : List Pr) : ∀ st : List Pr × Nat, (M ++ st.1).Nodup → (M ++ (L.foldl (renS d v to M) st).1).Nodup := by
  induction L with
  | nil => intro st h; exact h
  | cons x L ih =>
    intro st h
    refine ih _ ?_
    unfold renS
    split
    · split
      · exact h
      · rw [← List.append_assoc]
        refine List.nodup_append.mpr ⟨h, by simp, fun a ha b hb e => ?_⟩
        rw [List.mem_singleton.mp hb] at e
        rw [e] at ha
        contradiction
    · exact h
theorem nd_ren {L : List Pr} (h : L.Nodup) (sx v to : Int32) : (renL L sx v to).Nodup := by
  unfold renL
  cases sideOf sx with
  | none => exact h
  | some d =>
    dsimp only
    split
    · exact h
    · exact nd_ren_aux d v to _ L ([], 0) (by rw [List.append_nil]; exact nd_wo h d v)
theorem sw13 {x : Int32} : ∃ j : Nat, j < 16 ∧ x &&& nI 15 = nI j := by
  obtain ⟨j, h1, h2⟩ := pk_andE x (m := nI 15) 4 (by decide)
  exact ⟨j, h1, h2⟩
