/-! threads: what tying on and untying does to the links -/
theorem up_id {α : Type} (f : Nat → α) (d : Nat) : va_up f d (f d) = f := by
  funext i
  by_cases h : i = d <;> simp [va_up, h]
def tieFd (p : Nat → Nat) (f : Nat → Option Nat) (sl : Nat) (o : Option Nat) : Nat → Option Nat := match o with
  | none => va_up f sl none
  | some j => va_up (va_up f sl none) (p j) (some sl)
theorem tie_B {p : Nat → Nat} {K K' : Nat → Int32} {b : Nat → Option Nat} {n : Nat} {v : Int32} {o : Option Nat} (hinj : ∀ i j, i ≤ n → j ≤ n → p i = p j → i = j) (hK : ∀ i, i < n → K' i = K i) (hv : K' n = v) (hB : lnkB p K b n) (hl : lastR K n v o) :
    lnkB p K' (va_up b (p n) (Option.map p o)) (n + 1) := by
  intro i hi
  rcases Nat.lt_succ_iff_lt_or_eq.mp hi with q | q
  · obtain ⟨o1, h1, h2⟩ := hB i q
    refine ⟨o1, ?_, ?_⟩
    · rw [up_n (fun e => by have := hinj i n (by omega) (by omega) e; omega)]; exact h1
    · rcases h2 with ⟨e, h3⟩ | ⟨j, e, h3, h4, h5⟩
      · exact Or.inl ⟨e, fun j hj => by rw [hK j (by omega), hK i q]; exact h3 j hj⟩
      · exact Or.inr ⟨j, e, h3, by rw [hK j (by omega), hK i q]; exact h4, fun k a b => by rw [hK k (by omega), hK i q]; exact h5 k a b⟩
  · subst q
    refine ⟨o, up_s _ _ _, ?_⟩
    rcases hl with ⟨e, h3⟩ | ⟨j, e, h3, h4, h5⟩
    · exact Or.inl ⟨e, fun j hj => by rw [hK j hj, hv]; exact h3 j hj⟩
    · exact Or.inr ⟨j, e, h3, by rw [hK j h3, hv]; exact h4, fun k a b => by rw [hK k b, hv]; exact h5 k a b⟩
theorem tie_F {p : Nat → Nat} {K K' : Nat → Int32} {f : Nat → Option Nat} {n : Nat} {v : Int32} {o : Option Nat} (hinj : ∀ i j, i ≤ n → j ≤ n → p i = p j → i = j) (hK : ∀ i, i < n → K' i = K i) (hv : K' n = v) (hF : lnkF p K f n) (hl : lastR K n v o) :
    lnkF p K' (tieFd p f (p n) o) (n + 1) := by
  have hol : ∀ j, o = some j → j < n := by
    intro j hj
    rcases hl with ⟨e, -⟩ | ⟨k, e, h3, -⟩
    · rw [e] at hj; cases hj
    · rw [e] at hj; cases hj; exact h3
  intro i hi
  rcases Nat.lt_succ_iff_lt_or_eq.mp hi with q | q
  · obtain ⟨o1, h1, h2⟩ := hF i q
    by_cases hiv : o = some i
    · refine ⟨some n, ?_, ?_⟩
      · subst hiv
        exact up_s _ _ _
      · rcases hl with ⟨e, -⟩ | ⟨j, e, h3, h4, h5⟩
        · rw [e] at hiv; cases hiv
        · rw [e] at hiv
          cases hiv
          exact Or.inr ⟨n, rfl, q, by omega, by rw [hv, hK i q, h4], fun k a b => by rw [hK k b, hK i q, h4]; exact h5 k a b⟩
    · have he : tieFd p f (p n) o (p i) = f (p i) := by
        have hne : p i ≠ p n := fun e => by have := hinj i n (by omega) (by omega) e; omega
        cases o with
        | none => exact up_n hne
        | some j =>
          have hj := hol j rfl
          have hne2 : p i ≠ p j := fun e => hiv (by rw [hinj i j (by omega) (by omega) e])
          exact (up_n hne2).trans (up_n hne)
      refine ⟨o1, he.trans h1, ?_⟩
      rcases h2 with ⟨e, h3⟩ | ⟨j, e, h3, h4, h5, h6⟩
      · refine Or.inl ⟨e, fun j a b => ?_⟩
        rcases Nat.lt_succ_iff_lt_or_eq.mp b with q2 | q2
        · rw [hK j q2, hK i q]; exact h3 j a q2
        · subst q2
          rw [hv, hK i q]
          intro hvi
          apply hiv
          rcases hl with ⟨-, h7⟩ | ⟨k, e', a1, a2, a3⟩
          · exact absurd hvi.symm (h7 i q)
          · rcases Nat.lt_trichotomy k i with z | z | z
            · exact absurd hvi.symm (a3 i z q)
            · rw [e', z]
            · exact absurd (a2.trans hvi) (h3 k z a1)
      · exact Or.inr ⟨j, e, h3, by omega, by rw [hK j h4, hK i q]; exact h5, fun k a b => by rw [hK k (by omega), hK i q]; exact h6 k a b⟩
  · subst q
    refine ⟨none, ?_, Or.inl ⟨rfl, fun j a b => by omega⟩⟩
    cases o with
    | none => exact up_s _ _ _
    | some j =>
      have hj := hol j rfl
      have hne : p i ≠ p j := fun e => by have := hinj i j (by omega) (by omega) e; omega
      exact (up_n hne).trans (up_s _ _ _)
/-- the places behind t move up -/
def sg (t i : Nat) : Nat := if i < t then i else i + 1
def ds (t j : Nat) : Nat := if j < t then j else j - 1
theorem sg_ne (t i : Nat) : sg t i ≠ t := by unfold sg; split <;> omega
theorem sg_lt {t i n : Nat} (h : i + 1 < n) : sg t i < n := by unfold sg; split <;> omega
theorem sg_ds {t j : Nat} (h : j ≠ t) : sg t (ds t j) = j := by unfold sg ds; split <;> (try split) <;> omega
theorem ds_sg (t i : Nat) : ds t (sg t i) = i := by unfold sg ds; split <;> (try split) <;> omega
theorem sg_mono {t i j : Nat} (h : i < j) : sg t i < sg t j := by unfold sg; split <;> split <;> omega
theorem ds_mono {t i j : Nat} (hi : i ≠ t) (hj : j ≠ t) (h : i < j) : ds t i < ds t j := by unfold ds; split <;> split <;> omega
theorem ds_lt {t j n : Nat} (hj : j ≠ t) (h : j < n) (ht : t < n) : ds t j + 1 < n := by unfold ds; split <;> omega
def unt (p : Nat → Nat) (f : Nat → Option Nat) (o1 o2 : Option Nat) : Nat → Option Nat := match o1 with
  | none => f
  | some j => va_up f (p j) (Option.map p o2)
theorem unt_keep {p : Nat → Nat} {f : Nat → Option Nat} {o1 o2 : Option Nat} {i n : Nat} (hinj : ∀ i j, i < n → j < n → p i = p j → i = j) (hi : i < n) (hl : ∀ j, o1 = some j → j < n) (h : ¬ o1 = some i) : unt p f o1 o2 (p i) = f (p i) := by
  cases o1 with
  | none => rfl
  | some j => exact up_n (fun e => h (by rw [hinj i j hi (hl j rfl) e]))
theorem map_eq {p p' : Nat → Nat} {o : Option Nat} (h : ∀ j, o = some j → p' j = p j) : Option.map p o = Option.map p' o := by
  cases o with
  | none => rfl
  | some j => exact congrArg some (h j rfl).symm
theorem map_ds {p p' : Nat → Nat} {o : Option Nat} {t n : Nat} (hp' : ∀ i, i + 1 < n → p' i = p (sg t i)) (ht : t < n) (hn : ¬ o = some t) (hl : ∀ j, o = some j → j < n) : Option.map p o = Option.map p' (Option.map (ds t) o) := by
  cases o with
  | none => rfl
  | some j =>
    have hj : j ≠ t := fun e => hn (by rw [e])
    refine congrArg some ?_
    rw [hp' _ (ds_lt hj (hl j rfl) ht), sg_ds hj]
theorem unt_B {p p' : Nat → Nat} {K : Nat → Int32} {b : Nat → Option Nat} {n t : Nat} {ob of' : Option Nat} (ht : t < n) (hinj : ∀ i j, i < n → j < n → p i = p j → i = j) (hp' : ∀ i, i + 1 < n → p' i = p (sg t i)) (hB : lnkB p K b n) (hob : prevR K t ob) (hof : nextR K n t of') :
    lnkB p' (fun i => K (sg t i)) (unt p b of' ob) (n - 1) := by
  intro i hi
  have hi' : i + 1 < n := by omega
  have hs := sg_lt (t := t) hi'
  have hsn := sg_ne t i
  obtain ⟨o, h1, h2⟩ := hB (sg t i) hs
  rw [hp' i hi']
  by_cases hn : of' = some (sg t i)
  · refine ⟨ob, ?_, ?_⟩
    · subst hn
      refine (up_s _ _ _).trans (map_eq (fun j hj => ?_))
      have hjt := prevR_lt hob j hj
      rw [hp' j (by omega)]
      simp [sg, hjt]
    · rcases hof with ⟨e, -⟩ | ⟨k, e, a1, a2, a3, a4⟩
      · rw [e] at hn; cases hn
      · rw [e] at hn
        cases hn
        rcases hob with ⟨e2, b1⟩ | ⟨j, e2, b1, b2, b3⟩
        · refine Or.inl ⟨e2, fun j hj => ?_⟩
          show ¬ K (sg t j) = K (sg t i)
          rw [a3]
          have hm := sg_mono (t := t) hj
          rcases Nat.lt_trichotomy (sg t j) t with z | z | z
          · exact b1 _ z
          · exact absurd z (sg_ne t j)
          · exact a4 _ z hm
        · have hji : j < i := by unfold sg at a1; split at a1 <;> omega
          refine Or.inr ⟨j, e2, hji, ?_, fun k h3 h4 => ?_⟩
          · show K (sg t j) = K (sg t i)
            rw [a3, show sg t j = j by simp [sg, b1]]
            exact b2
          · show ¬ K (sg t k) = K (sg t i)
            rw [a3]
            have hm := sg_mono (t := t) h4
            have hm2 := sg_mono (t := t) h3
            rw [show sg t j = j by simp [sg, b1]] at hm2
            rcases Nat.lt_trichotomy (sg t k) t with z | z | z
            · exact b3 _ hm2 z
            · exact absurd z (sg_ne t k)
            · exact a4 _ z hm
  · have hot : ¬ o = some t := by
      intro e
      apply hn
      rcases h2 with ⟨e2, -⟩ | ⟨j, e2, a1, a2, a3⟩
      · rw [e2] at e; cases e
      · rw [e2] at e
        cases e
        rcases hof with ⟨e3, c1⟩ | ⟨k, e3, c1, c2, c3, c4⟩
        · exact absurd a2.symm (c1 _ a1 hs)
        · rcases Nat.lt_trichotomy k (sg t i) with z | z | z
          · exact absurd (c3.trans a2) (a3 k c1 z)
          · rw [e3, z]
          · exact absurd a2.symm (c4 _ a1 z)
    refine ⟨Option.map (ds t) o, ?_, ?_⟩
    · rw [unt_keep hinj hs (fun j hj => nextR_lt hof j hj) hn, h1]
      exact map_ds hp' ht hot (fun j hj => by have := prevR_lt h2 j hj; omega)
    · rcases h2 with ⟨e, a1⟩ | ⟨j, e, a1, a2, a3⟩
      · exact Or.inl ⟨by rw [e]; rfl, fun j hj => a1 _ (sg_mono hj)⟩
      · have hj : j ≠ t := fun z => hot (by rw [e, z])
        have hm := ds_mono hj hsn a1
        rw [ds_sg] at hm
        refine Or.inr ⟨ds t j, by rw [e]; rfl, hm, ?_, fun k h3 h4 => ?_⟩
        · show K (sg t (ds t j)) = _
          rw [sg_ds hj]; exact a2
        · have hm2 := sg_mono (t := t) h3
          rw [sg_ds hj] at hm2
          exact a3 _ hm2 (sg_mono h4)
theorem unt_F {p p' : Nat → Nat} {K : Nat → Int32} {f : Nat → Option Nat} {n t : Nat} {ob of' : Option Nat} (ht : t < n) (hinj : ∀ i j, i < n → j < n → p i = p j → i = j) (hp' : ∀ i, i + 1 < n → p' i = p (sg t i)) (hF : lnkF p K f n) (hob : prevR K t ob) (hof : nextR K n t of') :
    lnkF p' (fun i => K (sg t i)) (unt p f ob of') (n - 1) := by
  intro i hi
  have hi' : i + 1 < n := by omega
  have hs := sg_lt (t := t) hi'
  have hsn := sg_ne t i
  obtain ⟨o, h1, h2⟩ := hF (sg t i) hs
  have hofn : ¬ of' = some t := by
    intro e
    rcases hof with ⟨e2, -⟩ | ⟨k, e2, c1, -⟩
    · rw [e2] at e; cases e
    · rw [e2] at e; cases e; omega
  rw [hp' i hi']
  by_cases hn : ob = some (sg t i)
  · refine ⟨Option.map (ds t) of', ?_, ?_⟩
    · subst hn
      refine (up_s _ _ _).trans ?_
      exact map_ds hp' ht hofn (fun j hj => nextR_lt hof j hj)
    · rcases hob with ⟨e, -⟩ | ⟨k, e, a1, a2, a3⟩
      · rw [e] at hn; cases hn
      · rw [e] at hn
        cases hn
        rcases hof with ⟨e2, b1⟩ | ⟨j, e2, b1, b2, b3, b4⟩
        · refine Or.inl ⟨by rw [e2]; rfl, fun j hj hj2 => ?_⟩
          show ¬ K (sg t j) = K (sg t i)
          rw [a2]
          have hm := sg_mono (t := t) hj
          have hl := sg_lt (t := t) (show j + 1 < n by omega)
          rcases Nat.lt_trichotomy (sg t j) t with z | z | z
          · exact a3 _ hm z
          · exact absurd z (sg_ne t j)
          · exact b1 _ z hl
        · have hj : j ≠ t := by omega
          have hm := ds_mono hsn hj (show sg t i < j by omega)
          rw [ds_sg] at hm
          refine Or.inr ⟨ds t j, by rw [e2]; rfl, hm, by have := ds_lt hj b2 ht; omega, ?_, fun k h3 h4 => ?_⟩
          · show K (sg t (ds t j)) = K (sg t i)
            rw [sg_ds hj, a2]; exact b3
          · show ¬ K (sg t k) = K (sg t i)
            rw [a2]
            have hm2 := sg_mono (t := t) h3
            have hm3 := sg_mono (t := t) h4
            rw [sg_ds hj] at hm3
            rcases Nat.lt_trichotomy (sg t k) t with z | z | z
            · exact a3 _ hm2 z
            · exact absurd z (sg_ne t k)
            · exact b4 _ z hm3
  · have hot : ¬ o = some t := by
      intro e
      apply hn
      rcases h2 with ⟨e2, -⟩ | ⟨j, e2, a1, a1', a2, a3⟩
      · rw [e2] at e; cases e
      · rw [e2] at e
        cases e
        rcases hob with ⟨e3, c1⟩ | ⟨k, e3, c1, c2, c3⟩
        · exact absurd a2.symm (c1 _ a1)
        · rcases Nat.lt_trichotomy k (sg t i) with z | z | z
          · exact absurd a2.symm (c3 _ z a1)
          · rw [e3, z]
          · exact absurd (c2.trans a2) (a3 k z c1)
    refine ⟨Option.map (ds t) o, ?_, ?_⟩
    · rw [unt_keep hinj hs (fun j hj => by have := prevR_lt hob j hj; omega) hn, h1]
      exact map_ds hp' ht hot (fun j hj => nextR_lt h2 j hj)
    · rcases h2 with ⟨e, a1⟩ | ⟨j, e, a1, a1', a2, a3⟩
      · exact Or.inl ⟨by rw [e]; rfl, fun j hj hj2 => a1 _ (sg_mono hj) (sg_lt (by omega))⟩
      · have hj : j ≠ t := fun z => hot (by rw [e, z])
        have hm := ds_mono hsn hj a1
        rw [ds_sg] at hm
        refine Or.inr ⟨ds t j, by rw [e]; rfl, hm, by have := ds_lt hj a1' ht; omega, ?_, fun k h3 h4 => ?_⟩
        · show K (sg t (ds t j)) = _
          rw [sg_ds hj]; exact a2
        · have hm2 := sg_mono (t := t) h4
          rw [sg_ds hj] at hm2
          exact a3 _ (sg_mono h3) hm2
