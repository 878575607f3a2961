/-! the state of a Threads, told by the list of its pairs in order -/
abbrev Pr : Type := Int32 × Int32
def sd (d : Nat) (x : Pr) : Int32 := if d = 0 then x.1 else x.2
def key (d : Nat) (L : List Pr) (i : Nat) : Int32 := sd d (L.getD i (0, 0))
def aT (a : Nat → Nat) : List Nat := [a 0, a 1, a 2, a 3, a 4, a 5, a 6, a 7, a 8, a 9, a 10]
def TI (p : Nat → Nat) (N : Nat → Nat → Int32) (B F : Nat → Nat → Option Nat) (L : List Pr) : Prop :=
  (∀ i, i < 300 → p i < 300) ∧ (∀ i j, i < 300 → j < 300 → p i = p j → i = j) ∧ L.length ≤ 300 ∧ (∀ d i, d < 2 → i < L.length → N d (p i) = key d L i) ∧ ∀ d, d < 2 → lnkB p (fun i => N d (p i)) (B d) L.length ∧ lnkF p (fun i => N d (p i)) (F d) L.length
def cTL (G : Gd) (a : Nat → Nat) (L : List Pr) (h : Heap) : Prop := ∃ (p : Nat → Nat) (N : Nat → Nat → Int32) (B F : Nat → Nat → Option Nat), TI p N B F L ∧ va_P G.1 vwCl (cT G a p N B F L.length ++ []) h
theorem key_app {d : Nat} {L : List Pr} {x : Pr} {i : Nat} (h : i < L.length) : key d (L ++ [x]) i = key d L i := by
  unfold key
  rw [List.getD_eq_getElem?_getD, List.getD_eq_getElem?_getD, List.getElem?_append_left h]
theorem key_new {d : Nat} {L : List Pr} {x : Pr} : key d (L ++ [x]) L.length = sd d x := by
  unfold key
  rw [List.getD_eq_getElem?_getD, List.getElem?_append_right (Nat.le_refl _)]
  simp
theorem key_erase {d t i : Nat} {L : List Pr} : key d (L.eraseIdx t) i = key d L (sg t i) := by
  unfold key
  rw [List.getD_eq_getElem?_getD, List.getD_eq_getElem?_getD, List.getElem?_eraseIdx]
  unfold sg
  split <;> rfl
theorem TI_append {p : Nat → Nat} {N : Nat → Nat → Int32} {B F : Nat → Nat → Option Nat} {L : List Pr} {x y : Int32} {o0 o1 : Option Nat} (h : TI p N B F L) (hl : L.length < 300) (N1 N2 : Nat → Nat → Int32) (B1 B2 F1 F2 : Nat → Nat → Option Nat)
    (eN1 : N1 = va_up N 0 (upd (N 0) (p L.length) x)) (eB1 : B1 = va_up B 0 (va_up (B 0) (p L.length) (Option.map p o0))) (eF1 : F1 = va_up F 0 (tieFd p (F 0) (p L.length) o0))
    (eN2 : N2 = va_up N1 1 (upd (N1 1) (p L.length) y)) (eB2 : B2 = va_up B1 1 (va_up (B1 1) (p L.length) (Option.map p o1))) (eF2 : F2 = va_up F1 1 (tieFd p (F1 1) (p L.length) o1))
    (h0 : lastR (fun i => N 0 (p i)) L.length x o0) (h1 : lastR (fun i => N1 1 (p i)) L.length y o1) : TI p N2 B2 F2 (L ++ [(x, y)]) := by
  obtain ⟨hp, hinj, hn, hk, hlk⟩ := h
  have a0 : N2 0 = upd (N 0) (p L.length) x := by rw [eN2, up_n (by decide), eN1, up_s]
  have a1 : N2 1 = upd (N 1) (p L.length) y := by rw [eN2, up_s, eN1, up_n (by decide)]
  have b0 : B2 0 = va_up (B 0) (p L.length) (Option.map p o0) := by rw [eB2, up_n (by decide), eB1, up_s]
  have b1 : B2 1 = va_up (B 1) (p L.length) (Option.map p o1) := by rw [eB2, up_s, eB1, up_n (by decide)]
  have f0 : F2 0 = tieFd p (F 0) (p L.length) o0 := by rw [eF2, up_n (by decide), eF1, up_s]
  have f1 : F2 1 = tieFd p (F 1) (p L.length) o1 := by rw [eF2, up_s, eF1, up_n (by decide)]
  have n1 : N1 1 = N 1 := by rw [eN1, up_n (by decide)]
  rw [n1] at h1
  have hij : ∀ i j, i ≤ L.length → j ≤ L.length → p i = p j → i = j := fun i j q1 q2 => hinj i j (by omega) (by omega)
  have hlen : (L ++ [(x, y)]).length = L.length + 1 := by simp
  have kk : ∀ (M : Nat → Int32) (v : Int32) (i : Nat), i < L.length → upd M (p L.length) v (p i) = M (p i) := fun M v i hi => pk_un (fun e => by have := hij i L.length (by omega) (by omega) e; omega)
  refine ⟨hp, hinj, by omega, fun d i hd hi => ?_, fun d hd => ?_⟩
  · rw [hlen] at hi
    rcases (show d = 0 ∨ d = 1 by omega) with rfl | rfl
    · rcases Nat.lt_succ_iff_lt_or_eq.mp hi with q | q
      · rw [a0, kk _ _ i q, key_app q]; exact hk 0 i (by omega) q
      · subst q; rw [a0, key_new]; exact pk_us
    · rcases Nat.lt_succ_iff_lt_or_eq.mp hi with q | q
      · rw [a1, kk _ _ i q, key_app q]; exact hk 1 i (by omega) q
      · subst q; rw [a1, key_new]; exact pk_us
  · rw [hlen]
    rcases (show d = 0 ∨ d = 1 by omega) with rfl | rfl
    · rw [a0, b0, f0]
      exact ⟨tie_B hij (fun i hi => kk _ _ i hi) pk_us (hlk 0 (by omega)).1 h0, tie_F hij (fun i hi => kk _ _ i hi) pk_us (hlk 0 (by omega)).2 h0⟩
    · rw [a1, b1, f1]
      exact ⟨tie_B hij (fun i hi => kk _ _ i hi) pk_us (hlk 1 (by omega)).1 h1, tie_F hij (fun i hi => kk _ _ i hi) pk_us (hlk 1 (by omega)).2 h1⟩
theorem lnkB_to {p : Nat → Nat} {K K' : Nat → Int32} {b : Nat → Option Nat} {n : Nat} (hK : ∀ i, i < n → K' i = K i) (h : lnkB p K b n) : lnkB p K' b n := by
  intro i hi
  obtain ⟨o, h1, h2⟩ := h i hi
  refine ⟨o, h1, ?_⟩
  rcases h2 with ⟨e, a1⟩ | ⟨j, e, a1, a2, a3⟩
  · exact Or.inl ⟨e, fun j hj => by rw [hK j (by omega), hK i hi]; exact a1 j hj⟩
  · exact Or.inr ⟨j, e, a1, by rw [hK j (by omega), hK i hi]; exact a2, fun k h3 h4 => by rw [hK k (by omega), hK i hi]; exact a3 k h3 h4⟩
theorem lnkF_to {p : Nat → Nat} {K K' : Nat → Int32} {f : Nat → Option Nat} {n : Nat} (hK : ∀ i, i < n → K' i = K i) (h : lnkF p K f n) : lnkF p K' f n := by
  intro i hi
  obtain ⟨o, h1, h2⟩ := h i hi
  refine ⟨o, h1, ?_⟩
  rcases h2 with ⟨e, a1⟩ | ⟨j, e, a1, a0, a2, a3⟩
  · exact Or.inl ⟨e, fun j hj hj2 => by rw [hK j hj2, hK i hi]; exact a1 j hj hj2⟩
  · exact Or.inr ⟨j, e, a1, a0, by rw [hK j a0, hK i hi]; exact a2, fun k h3 h4 => by rw [hK k (by omega), hK i hi]; exact a3 k h3 h4⟩
theorem cpy_fN (p : Nat → Nat) (s t n : Nat) : va_cpy (fN p) (fN p) s t n = fN (va_cpy p p s t n) := by
  funext j
  unfold va_cpy fN
  by_cases h : t ≤ j ∧ j < t + n <;> simp [h]
theorem TI_takeOut {p p' : Nat → Nat} {N : Nat → Nat → Int32} {B F : Nat → Nat → Option Nat} {L : List Pr} {t : Nat} {ob0 of0 ob1 of1 : Option Nat} (h : TI p N B F L) (ht : t < L.length) (B1 B2 F1 F2 : Nat → Nat → Option Nat)
    (eB1 : B1 = va_up B 0 (unt p (B 0) of0 ob0)) (eF1 : F1 = va_up F 0 (unt p (F 0) ob0 of0)) (eB2 : B2 = va_up B1 1 (unt p (B1 1) of1 ob1)) (eF2 : F2 = va_up F1 1 (unt p (F1 1) ob1 of1))
    (hb0 : prevR (fun i => N 0 (p i)) t ob0) (hf0 : nextR (fun i => N 0 (p i)) L.length t of0) (hb1 : prevR (fun i => N 1 (p i)) t ob1) (hf1 : nextR (fun i => N 1 (p i)) L.length t of1)
    (ep : p' = va_up (va_cpy p p (t + 1) t (L.length - 1 - t)) (L.length - 1) (p t)) : TI p' N B2 F2 (L.eraseIdx t) := by
  obtain ⟨hp, hinj, hn, hk, hlk⟩ := h
  have hp' : ∀ i, i + 1 < L.length → p' i = p (sg t i) := by
    intro i hi
    rw [ep, up_n (by omega)]
    unfold sg
    split
    · exact pk_cpy_out (Or.inl (by omega))
    · rw [pk_cpy_in (by omega) (by omega)]
      congr 1; omega
  have hpl : p' (L.length - 1) = p t := by rw [ep, up_s]
  have hpo : ∀ i, L.length ≤ i → p' i = p i := by
    intro i hi
    rw [ep, up_n (by omega)]
    exact pk_cpy_out (Or.inr (by omega))
  have hlen : (L.eraseIdx t).length = L.length - 1 := List.length_eraseIdx_of_lt ht
  have hcase : ∀ i, i < 300 → ∃ k, k < 300 ∧ p' i = p k ∧ ((i + 1 < L.length ∧ k = sg t i) ∨ (i + 1 = L.length ∧ k = t) ∨ (L.length ≤ i ∧ k = i)) := by
    intro i hi
    rcases Nat.lt_trichotomy (i + 1) L.length with q | q | q
    · exact ⟨sg t i, by have := sg_lt (t := t) q; omega, hp' i q, Or.inl ⟨q, rfl⟩⟩
    · exact ⟨t, by omega, by rw [show i = L.length - 1 by omega]; exact hpl, Or.inr (Or.inl ⟨q, rfl⟩)⟩
    · exact ⟨i, hi, hpo i (by omega), Or.inr (Or.inr ⟨by omega, rfl⟩)⟩
  have b0 : B2 0 = unt p (B 0) of0 ob0 := by rw [eB2, up_n (by decide), eB1, up_s]
  have b1 : B2 1 = unt p (B 1) of1 ob1 := by rw [eB2, up_s, eB1, up_n (by decide)]
  have f0 : F2 0 = unt p (F 0) ob0 of0 := by rw [eF2, up_n (by decide), eF1, up_s]
  have f1 : F2 1 = unt p (F 1) ob1 of1 := by rw [eF2, up_s, eF1, up_n (by decide)]
  have hij : ∀ i j, i < L.length → j < L.length → p i = p j → i = j := fun i j q1 q2 => hinj i j (by omega) (by omega)
  refine ⟨fun i hi => ?_, fun i j hi hj e => ?_, by omega, fun d i hd hi => ?_, fun d hd => ?_⟩
  · obtain ⟨k, h1, h2, -⟩ := hcase i hi
    rw [h2]; exact hp k h1
  · obtain ⟨k, h1, h2, h3⟩ := hcase i hi
    obtain ⟨k2, h4, h5, h6⟩ := hcase j hj
    have hkk := hinj k k2 h1 h4 (by rw [← h2, ← h5]; exact e)
    subst hkk
    rcases h3 with ⟨q1, q2⟩ | ⟨q1, q2⟩ | ⟨q1, q2⟩ <;> rcases h6 with ⟨r1, r2⟩ | ⟨r1, r2⟩ | ⟨r1, r2⟩
    · have := congrArg (ds t) (q2.symm.trans r2); rw [ds_sg, ds_sg] at this; exact this
    · exact absurd (q2.symm.trans r2) (sg_ne t i)
    · have := sg_lt (t := t) q1; omega
    · exact absurd (r2.symm.trans q2) (sg_ne t j)
    · omega
    · omega
    · have := sg_lt (t := t) r1; omega
    · omega
    · omega
  · rw [hlen] at hi
    rw [hp' i (by omega), key_erase]
    exact hk d _ hd (sg_lt (by omega))
  · rw [hlen]
    rcases (show d = 0 ∨ d = 1 by omega) with rfl | rfl
    · rw [b0, f0]
      have u1 := unt_B (K := fun i => N 0 (p i)) ht hij hp' (hlk 0 (by omega)).1 hb0 hf0
      have u2 := unt_F (K := fun i => N 0 (p i)) ht hij hp' (hlk 0 (by omega)).2 hb0 hf0
      exact ⟨lnkB_to (fun i hi => by rw [hp' i (by omega)]) u1, lnkF_to (fun i hi => by rw [hp' i (by omega)]) u2⟩
    · rw [b1, f1]
      have u1 := unt_B (K := fun i => N 1 (p i)) ht hij hp' (hlk 1 (by omega)).1 hb1 hf1
      have u2 := unt_F (K := fun i => N 1 (p i)) ht hij hp' (hlk 1 (by omega)).2 hb1 hf1
      exact ⟨lnkB_to (fun i hi => by rw [hp' i (by omega)]) u1, lnkF_to (fun i hi => by rw [hp' i (by omega)]) u2⟩
