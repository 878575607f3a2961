/-! which cells are apart -/
theorem aA_1 {a : Nat → Nat} (h : (aA a).Nodup) : (aTS a).Nodup := by
  unfold aA at h
  rw [← List.append_assoc] at h
  exact (List.nodup_append.mp h).1
theorem aA_T {a : Nat → Nat} (h : (aA a).Nodup) : (aT a).Nodup := (List.nodup_append.mp h).1
theorem aA_2 {a : Nat → Nat} (h : (aA a).Nodup) : ∀ q ∈ aM a ++ [a 27], ¬ q ∈ aTS a := by
  unfold aA at h
  rw [← List.append_assoc] at h
  intro q h1 h2
  exact (List.nodup_append.mp h).2.2 q h2 q h1 rfl
theorem aA_perm (a : Nat → Nat) : (aA a).Perm ((aT a ++ aM a) ++ (aS a ++ [a 27])) := by
  unfold aA
  rw [List.append_assoc]
  refine List.Perm.append_left _ ?_
  rw [← List.append_assoc, ← List.append_assoc]
  exact List.Perm.append_right _ List.perm_append_comm
theorem aA_3 {a : Nat → Nat} (h : (aA a).Nodup) : (aTM a).Nodup := (List.nodup_append.mp ((aA_perm a).nodup_iff.mp h)).1
theorem aA_4 {a : Nat → Nat} (h : (aA a).Nodup) : ∀ q ∈ aS a ++ [a 27], ¬ q ∈ aTM a := by
  intro q h1 h2
  exact (List.nodup_append.mp ((aA_perm a).nodup_iff.mp h)).2.2 q h2 q h1 rfl
theorem aA_perm2 (a : Nat → Nat) : (aA a).Perm (aP a ++ (aS a ++ aM a)) := by
  unfold aA aP
  rw [List.append_assoc]
  refine List.Perm.append_left _ ?_
  rw [← List.append_assoc]
  exact List.perm_append_comm
theorem aA_5 {a : Nat → Nat} (h : (aA a).Nodup) : (aP a).Nodup := (List.nodup_append.mp ((aA_perm2 a).nodup_iff.mp h)).1
theorem aA_6 {a : Nat → Nat} (h : (aA a).Nodup) : ∀ q ∈ aS a ++ aM a, ¬ q ∈ aP a := by
  intro q h1 h2
  exact (List.nodup_append.mp ((aA_perm2 a).nodup_iff.mp h)).2.2 q h2 q h1 rfl
theorem aTS_in {a : Nat → Nat} : ∀ q, q ∈ aTS a → q ∈ aA a := fun q h => by
  unfold aA
  rw [← List.append_assoc]
  exact List.mem_append_left _ h
theorem aTM_in {a : Nat → Nat} : ∀ q, q ∈ aTM a → q ∈ aA a := fun q h => (aA_perm a).mem_iff.mpr (List.mem_append_left _ h)
theorem aP_in {a : Nat → Nat} : ∀ q, q ∈ aP a → q ∈ aA a := fun q h => (aA_perm2 a).mem_iff.mpr (List.mem_append_left _ h)
