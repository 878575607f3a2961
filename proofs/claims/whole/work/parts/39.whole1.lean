/-! the object, whole -/
theorem lt_all {D : va_G} {cl : List vw_C} {ws : va_W} {H : Heap} (h : va_P D cl ws H) : ∀ x ∈ ws.map Prod.fst, x < H.size := by
  intro x hx
  obtain ⟨q, hq, rfl⟩ := List.mem_map.mp hx
  obtain ⟨k, hk⟩ := List.getElem?_of_mem hq
  exact (h k q hk).lt
theorem nd_join {AL AL' : List Nat} {q sz : Nat} (h1 : (AL ++ [q]).Nodup) (h2 : ∀ x ∈ AL, x < sz) (h3 : AL'.Nodup) (h4 : ∀ x ∈ AL', x = q ∨ sz ≤ x) : (AL ++ AL').Nodup := by
  obtain ⟨a1, -, a3⟩ := List.nodup_append.mp h1
  refine List.nodup_append.mpr ⟨a1, h3, fun x hx y hy e => ?_⟩
  subst e
  rcases h4 x hy with z | z
  · exact a3 x hx q (by simp) z
  · have := h2 x hx
    omega
theorem A_not {AL : List Nat} {q sz : Nat} {e : va_E} (h1 : (AL ++ [q]).Nodup) (h2 : ∀ x ∈ AL, x < sz) : ∀ x ∈ AL, ¬ va_A [(q, e)] sz x := by
  obtain ⟨-, -, a3⟩ := List.nodup_append.mp h1
  intro x hx hA
  rcases A_one hA with z | z
  · exact a3 x hx q (by simp) z
  · have := h2 x hx
    omega
theorem cT_cg {G : Gd} {a a1 p : Nat → Nat} {N : Nat → Nat → Int32} {B F : Nat → Nat → Option Nat} {n : Nat} {H : Heap} (h : ∀ i, i < 11 → a i = a1 i) (hP : va_P G.1 vwCl (cT G a1 p N B F n ++ []) H) : va_P G.1 vwCl (cT G a p N B F n) H := by
  intro k x hk
  match k, hk with
  | 0, hk => cases hk; rw [h 0 (by omega), h 1 (by omega), h 2 (by omega), h 3 (by omega), h 4 (by omega)]; exact hP 0 _ rfl
  | 1, hk => cases hk; rw [h 1 (by omega)]; exact hP 1 _ rfl
  | 2, hk => cases hk; rw [h 2 (by omega)]; exact out2 (hP 2 _ rfl) (congrArg some (h 5 (by omega)).symm) (congrArg some (h 6 (by omega)).symm)
  | 3, hk => cases hk; rw [h 3 (by omega)]; exact out2 (hP 3 _ rfl) (congrArg some (h 7 (by omega)).symm) (congrArg some (h 8 (by omega)).symm)
  | 4, hk => cases hk; rw [h 4 (by omega)]; exact out2 (hP 4 _ rfl) (congrArg some (h 9 (by omega)).symm) (congrArg some (h 10 (by omega)).symm)
  | 5, hk => cases hk; rw [h 5 (by omega)]; exact hP 5 _ rfl
  | 6, hk => cases hk; rw [h 6 (by omega)]; exact hP 6 _ rfl
  | 7, hk => cases hk; rw [h 7 (by omega)]; exact hP 7 _ rfl
  | 8, hk => cases hk; rw [h 8 (by omega)]; exact hP 8 _ rfl
  | 9, hk => cases hk; rw [h 9 (by omega)]; exact hP 9 _ rfl
  | 10, hk => cases hk; rw [h 10 (by omega)]; exact hP 10 _ rfl
  | k + 11, hk => simp [cT] at hk
theorem cS_cg {G : Gd} {a a1 q r : Nat → Nat} {V : Nat → Nat → Nat} {n : Nat} {H : Heap} (h : ∀ i, 11 ≤ i → i < 17 → a i = a1 i) (hP : va_P G.1 vwCl (cS G a1 q r V n) H) : va_P G.1 vwCl (cS G a q r V n) H := by
  intro k x hk
  match k, hk with
  | 0, hk => cases hk; rw [h 11 (by omega) (by omega), h 12 (by omega) (by omega), h 13 (by omega) (by omega), h 14 (by omega) (by omega)]; exact hP 0 _ rfl
  | 1, hk => cases hk; rw [h 12 (by omega) (by omega)]; exact hP 1 _ rfl
  | 2, hk => cases hk; rw [h 13 (by omega) (by omega)]; exact hP 2 _ rfl
  | 3, hk => cases hk; rw [h 14 (by omega) (by omega)]; exact out2 (hP 3 _ rfl) (congrArg some (h 15 (by omega) (by omega)).symm) (congrArg some (h 16 (by omega) (by omega)).symm)
  | 4, hk => cases hk; rw [h 15 (by omega) (by omega)]; exact hP 4 _ rfl
  | 5, hk => cases hk; rw [h 16 (by omega) (by omega)]; exact hP 5 _ rfl
  | k + 6, hk => simp [cS] at hk
theorem cM_cg {G : Gd} {a a1 : Nat → Nat} {Hd : Nat → Nat → Nat} {C : Nat → Nat → Option Nat} {w : Nat → Nat} {n : Nat} {cs : Nat → Option Nat} {sn : Nat → Nat} {H : Heap} (h : ∀ i, 17 ≤ i → i < 27 → a i = a1 i) (hP : va_P G.1 vwCl (cM G a1 Hd C w n cs sn) H) : va_P G.1 vwCl (cM G a Hd C w n cs sn) H := by
  intro k x hk
  match k, hk with
  | 0, hk => cases hk; rw [h 17 (by omega) (by omega), h 18 (by omega) (by omega), h 21 (by omega) (by omega), h 24 (by omega) (by omega), h 25 (by omega) (by omega), h 26 (by omega) (by omega)]; exact hP 0 _ rfl
  | 1, hk => cases hk; rw [h 18 (by omega) (by omega)]; exact out2 (hP 1 _ rfl) (congrArg some (h 19 (by omega) (by omega)).symm) (congrArg some (h 20 (by omega) (by omega)).symm)
  | 2, hk => cases hk; rw [h 19 (by omega) (by omega)]; exact hP 2 _ rfl
  | 3, hk => cases hk; rw [h 20 (by omega) (by omega)]; exact hP 3 _ rfl
  | 4, hk => cases hk; rw [h 21 (by omega) (by omega)]; exact out2 (hP 4 _ rfl) (congrArg some (h 22 (by omega) (by omega)).symm) (congrArg some (h 23 (by omega) (by omega)).symm)
  | 5, hk => cases hk; rw [h 22 (by omega) (by omega)]; exact hP 5 _ rfl
  | 6, hk => cases hk; rw [h 23 (by omega) (by omega)]; exact hP 6 _ rfl
  | 7, hk => cases hk; rw [h 24 (by omega) (by omega)]; exact hP 7 _ rfl
  | 8, hk => cases hk; rw [h 25 (by omega) (by omega)]; exact hP 8 _ rfl
  | 9, hk => cases hk; rw [h 26 (by omega) (by omega)]; exact hP 9 _ rfl
  | k + 10, hk => simp [cM] at hk
def aA (a : Nat → Nat) : List Nat := aT a ++ (aS a ++ (aM a ++ [a 27]))
/-- all cells of the class: a world of pairs L -/
def cAL (G : Gd) (a : Nat → Nat) (L : List Pr) (h : Heap) : Prop := ∃ (p : Nat → Nat) (N : Nat → Nat → Int32) (B F : Nat → Nat → Option Nat) (q r : Nat → Nat) (V : Nat → Nat → Nat) (n : Nat) (Hd : Nat → Nat → Nat) (C : Nat → Nat → Option Nat) (w : Nat → Nat) (k : Nat) (cs : Nat → Option Nat) (sn : Nat → Nat),
  TI p N B F L ∧ va_P G.1 vwCl (cT G a p N B F L.length ++ (cS G a q r V n ++ (cM G a Hd C w k cs sn ++ cP a))) h
