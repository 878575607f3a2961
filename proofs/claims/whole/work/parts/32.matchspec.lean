/-! the class's matching: chosen places by the first place of a left or right -/
noncomputable def fh (K : Nat → Int32) (i : Nat) : Nat := Classical.choose (pk_least (fun j => K j = K i) ⟨i, rfl⟩)
theorem fh_sp (K : Nat → Int32) (i : Nat) : K (fh K i) = K i ∧ ∀ j, j < fh K i → ¬ K j = K i := Classical.choose_spec (pk_least (fun j => K j = K i) ⟨i, rfl⟩)
theorem fh_le (K : Nat → Int32) (i : Nat) : fh K i ≤ i := by
  rcases Nat.lt_or_ge i (fh K i) with h | h
  · exact absurd rfl ((fh_sp K i).2 i h)
  · exact h
theorem fh_un {K : Nat → Int32} {i h : Nat} (h1 : K h = K i) (h2 : ∀ j, j < h → ¬ K j = K i) : h = fh K i := by
  obtain ⟨a, b⟩ := fh_sp K i
  rcases Nat.lt_trichotomy h (fh K i) with z | z | z
  · exact absurd h1 (b h z)
  · exact z
  · exact absurd a (h2 _ z)
theorem fh_eq {K : Nat → Int32} {i j : Nat} (h : K i = K j) : fh K i = fh K j := by
  obtain ⟨a, b⟩ := fh_sp K i
  exact fh_un (a.trans h) (fun x hx => by rw [← h]; exact b x hx)
theorem fh_key {K : Nat → Int32} {i j : Nat} (h : fh K i = fh K j) : K i = K j := by
  rw [← (fh_sp K i).1, h, (fh_sp K j).1]
def MJ (L : List Pr) (c0 c1 : Nat → Option Nat) : Prop :=
  (∀ h i, h < L.length → c0 h = some i → i < L.length ∧ fh (key 0 L) i = h ∧ c1 (fh (key 1 L) i) = some i) ∧
  (∀ h i, h < L.length → c1 h = some i → i < L.length ∧ fh (key 1 L) i = h ∧ c0 (fh (key 0 L) i) = some i)
theorem Mat_of {L : List Pr} {m : Nat} (mk E : Nat → Nat) (h1 : ∀ r, r < m → mk r ≠ 0 → E r < L.length) (h2 : ∀ r t, r < m → t < m → mk r ≠ 0 → mk t ≠ 0 → tch L (E r) (E t) → r = t) : isMat L (cz mk m) := by
  obtain ⟨e, a1, a2, a3⟩ := enum_cz mk m
  exact ⟨fun i => E (e i), fun i hi => h1 _ (a1 i hi).1 (a1 i hi).2, fun i j hi hj ht => a2 i j hi hj (h2 _ _ (a1 i hi).1 (a1 j hj).1 (a1 i hi).2 (a1 j hj).2 ht)⟩
theorem om_some {o : Option Nat} (h : om o ≠ 0) : ∃ i, o = some i := by
  cases o with
  | none => exact absurd rfl h
  | some i => exact ⟨i, rfl⟩
theorem MJ_1 {L : List Pr} {c0 c1 : Nat → Option Nat} (h : MJ L c0 c1) : (∀ r, r < L.length → om (c1 r) ≠ 0 → (c1 r).getD 0 < L.length) ∧ (∀ r t, r < L.length → t < L.length → om (c1 r) ≠ 0 → om (c1 t) ≠ 0 → tch L ((c1 r).getD 0) ((c1 t).getD 0) → r = t) := by
  refine ⟨fun r hr ho => ?_, fun r t hr ht ho1 ho2 hT => ?_⟩
  · obtain ⟨i, e⟩ := om_some ho
    rw [e]; exact (h.2 r i hr e).1
  · obtain ⟨i, e⟩ := om_some ho1
    obtain ⟨j, f⟩ := om_some ho2
    rw [e, f] at hT
    obtain ⟨a1, a2, a3⟩ := h.2 r i hr e
    obtain ⟨b1, b2, b3⟩ := h.2 t j ht f
    have hT : tch L i j := hT
    rcases hT with z | z
    · rw [fh_eq z, b3] at a3
      rw [← a2, ← b2, Option.some.inj a3]
    · rw [← a2, ← b2, fh_eq z]
theorem isCov_all (L : List Pr) : isCov L L.length := ⟨fun _ => 0, fun i => key 0 L i, fun _ _ => Nat.zero_lt_two, fun x hx => ⟨x, hx, rfl⟩⟩
theorem MJ_full {L : List Pr} {c0 c1 : Nat → Option Nat} (h : MJ L c0 c1) (hn : cz (fun r => om (c1 r)) L.length = L.length) : isMM L (cz (fun r => om (c1 r)) L.length) :=
  ⟨Mat_of (fun r => om (c1 r)) (fun r => (c1 r).getD 0) (MJ_1 h).1 (MJ_1 h).2, by rw [hn]; exact isCov_all L⟩
theorem MJ_cov {L : List Pr} {c0 c1 : Nat → Option Nat} {sn : Nat → Nat} (h : MJ L c0 c1) (hs : ∀ x, x < L.length → sn x ≠ 0 → c1 x ≠ none) (h1 : ∀ x, x < L.length → c0 (fh (key 0 L) x) = none → sn (fh (key 1 L) x) ≠ 0)
    (h2 : ∀ x g, x < L.length → c0 (fh (key 0 L) x) = some g → g ≠ x → sn (fh (key 1 L) g) ≠ 0 → sn (fh (key 1 L) x) ≠ 0) : isMM L (cz (fun r => om (c1 r)) L.length) := by
  have fl : ∀ d x, x < L.length → fh (key d L) x < L.length := fun d x hx => Nat.lt_of_le_of_lt (fh_le _ _) hx
  refine MM_of (fun r => om (c1 r)) (fun r => (c1 r).getD 0) (fun r => sn r ≠ 0) (MJ_1 h).1 (MJ_1 h).2 (fun x hx => ?_)
  have right : sn (fh (key 1 L) x) ≠ 0 → ∃ r, r < L.length ∧ om (c1 r) ≠ 0 ∧ ((sn r ≠ 0 ∧ key 1 L x = key 1 L ((c1 r).getD 0)) ∨ (¬ sn r ≠ 0 ∧ key 0 L x = key 0 L ((c1 r).getD 0))) := by
    intro hsn
    have hc := hs _ (fl 1 x hx) hsn
    obtain ⟨i, e⟩ := om_some (fun z => hc (om_0.mp z))
    refine ⟨_, fl 1 x hx, fun z => hc (om_0.mp z), Or.inl ⟨hsn, ?_⟩⟩
    rw [e]
    exact fh_key (h.2 _ i (fl 1 x hx) e).2.1.symm
  cases e : c0 (fh (key 0 L) x) with
  | none => exact right (h1 x hx e)
  | some g =>
    obtain ⟨a1, a2, a3⟩ := h.1 _ g (fl 0 x hx) e
    by_cases hsn : sn (fh (key 1 L) g) ≠ 0
    · by_cases hg : g = x
      · rw [hg] at hsn; exact right hsn
      · exact right (h2 x g hx e hg hsn)
    · refine ⟨_, fl 1 g a1, by rw [a3]; exact Nat.one_ne_zero, Or.inr ⟨hsn, ?_⟩⟩
      rw [a3]
      exact fh_key a2.symm
/-- one more pair, both of whose numbers were free -/
theorem MJ_take {L : List Pr} {c0 c1 : Nat → Option Nat} {i : Nat} (h : MJ L c0 c1) (hi : i < L.length) (e0 : c0 (fh (key 0 L) i) = none) (e1 : c1 (fh (key 1 L) i) = none) : MJ L (va_up c0 (fh (key 0 L) i) (some i)) (va_up c1 (fh (key 1 L) i) (some i)) := by
  refine ⟨fun x j hx hj => ?_, fun x j hx hj => ?_⟩
  · by_cases e : x = fh (key 0 L) i
    · rw [e, up_s] at hj
      cases hj
      exact ⟨hi, e.symm, up_s _ _ _⟩
    · rw [up_n e] at hj
      obtain ⟨a1, a2, a3⟩ := h.1 x j hx hj
      refine ⟨a1, a2, ?_⟩
      rw [up_n (fun z => by rw [z, e1] at a3; cases a3)]
      exact a3
  · by_cases e : x = fh (key 1 L) i
    · rw [e, up_s] at hj
      cases hj
      exact ⟨hi, e.symm, up_s _ _ _⟩
    · rw [up_n e] at hj
      obtain ⟨a1, a2, a3⟩ := h.2 x j hx hj
      refine ⟨a1, a2, ?_⟩
      rw [up_n (fun z => by rw [z, e0] at a3; cases a3)]
      exact a3
theorem om_take {L : List Pr} {c1 : Nat → Option Nat} {i h : Nat} (hh : h < L.length) (e1 : c1 h = none) : cz (fun r => om (va_up c1 h (some i) r)) L.length = cz (fun r => om (c1 r)) L.length + 1 :=
  cz_one hh (om_0.mpr e1) (fun z => by have z : om (va_up c1 h (some i) h) = 0 := z; rw [up_s] at z; exact absurd z (by simp [om])) (fun x _ hx => by rw [up_n hx])
/-- what waits, and why -/
def WI (L : List Pr) (c0 : Nat → Option Nat) (e : Nat) (w : Nat → Nat) (cs : Nat → Option Nat) (sn : Nat → Nat) : Prop :=
  (∀ i, i < e → w i < L.length) ∧ (∀ i j, i < e → j < e → w i = w j → i = j) ∧
  (∀ i, i < e → (cs (w i) = none ∧ c0 (fh (key 0 L) (w i)) = none) ∨ ∃ i' g, i' < i ∧ cs (w i) = some (w i') ∧ c0 (fh (key 0 L) (w i)) = some g ∧ g ≠ w i ∧ fh (key 1 L) g = fh (key 1 L) (w i') ∧ sn (fh (key 1 L) g) ≠ 0) ∧
  (∀ i j, i < e → j < e → key 0 L (w i) = key 0 L (w j) → cs (w i) = cs (w j)) ∧
  (∀ x, x < L.length → c0 (fh (key 0 L) x) = none → ∃ i, i < e ∧ w i = x)
/-- on the way back along a row of the class -/
def JV (L : List Pr) (k0 k1 : Nat → Option Nat) (last e : Nat) (w : Nat → Nat) (cs : Nat → Option Nat) (c0 c1 : Nat → Option Nat) (ix : Nat) : Prop :=
  ix < e ∧ (∀ h i, h < L.length → c0 h = some i → i < L.length ∧ fh (key 0 L) i = h ∧ c1 (fh (key 1 L) i) = some i) ∧
  (∀ h i, h < L.length → h ≠ fh (key 1 L) (w ix) → c1 h = some i → i < L.length ∧ fh (key 1 L) i = h ∧ c0 (fh (key 0 L) i) = some i) ∧
  (∀ i, c1 (fh (key 1 L) (w ix)) = some i → ¬ c0 (fh (key 0 L) i) = some i) ∧
  (∀ h, h < L.length → c0 h = k0 h ∨ ∃ m m', ix < m ∧ m < e ∧ h = fh (key 0 L) (w m) ∧ ix ≤ m' ∧ m' < e ∧ cs (w m) = some (w m')) ∧
  (∀ h, h < L.length → h ≠ fh (key 1 L) last → (c1 h = none ↔ k1 h = none)) ∧ (w ix = last ∨ (c1 (fh (key 1 L) last) ≠ none ∧ k1 (fh (key 1 L) (w ix)) ≠ none))
theorem JV_0 {L : List Pr} {k0 k1 : Nat → Option Nat} {e t : Nat} {w : Nat → Nat} {cs : Nat → Option Nat} (h : MJ L k0 k1) (ht : t < e) (hn : k1 (fh (key 1 L) (w t)) = none) : JV L k0 k1 (w t) e w cs k0 k1 t :=
  ⟨ht, h.1, fun x i hx _ he => h.2 x i hx he, fun i he => (by rw [hn] at he; cases he), fun x _ => Or.inl rfl, fun x _ _ => Iff.rfl, Or.inl rfl⟩
theorem JV_same {L : List Pr} {k0 k1 : Nat → Option Nat} {last e : Nat} {w : Nat → Nat} {cs : Nat → Option Nat} {c0 c1 : Nat → Option Nat} {ix : Nat} {sn : Nat → Nat} (hW : WI L k0 e w cs sn) (h : JV L k0 k1 last e w cs c0 c1 ix) : c0 (fh (key 0 L) (w ix)) = k0 (fh (key 0 L) (w ix)) := by
  obtain ⟨h1, h2, h3, h4, h5, h6, h7⟩ := h
  have hl : fh (key 0 L) (w ix) < L.length := Nat.lt_of_le_of_lt (fh_le _ _) (hW.1 ix h1)
  rcases h5 _ hl with z | ⟨m, m', a1, a2, a3, a4, a5, a6⟩
  · exact z
  · have hk := fh_key a3
    have hcs := hW.2.2.2.1 ix m h1 a2 hk
    rw [a6] at hcs
    rcases hW.2.2.1 ix h1 with ⟨b1, -⟩ | ⟨i', g, b1, b2, -⟩
    · rw [b1] at hcs; cases hcs
    · rw [b2] at hcs
      have := hW.2.1 i' m' (by omega) a5 (Option.some.inj hcs)
      omega
theorem JV_s {L : List Pr} {k0 k1 : Nat → Option Nat} {last e : Nat} {w : Nat → Nat} {cs : Nat → Option Nat} {c0 c1 : Nat → Option Nat} {ix ix2 : Nat} {sn : Nat → Nat} (hK : MJ L k0 k1) (hW : WI L k0 e w cs sn) (h : JV L k0 k1 last e w cs c0 c1 ix) (h2i : ix2 < ix) (hcs : cs (w ix) = some (w ix2)) :
    JV L k0 k1 last e w cs (va_up c0 (fh (key 0 L) (w ix)) (some (w ix))) (va_up c1 (fh (key 1 L) (w ix)) (some (w ix))) ix2 := by
  have hsame := JV_same hW h
  obtain ⟨h1, h2, h3, h4, h5, h6, h7⟩ := h
  have hwn := hW.1 ix h1
  have hl0 : fh (key 0 L) (w ix) < L.length := Nat.lt_of_le_of_lt (fh_le _ _) hwn
  have hl1 : fh (key 1 L) (w ix) < L.length := Nat.lt_of_le_of_lt (fh_le _ _) hwn
  obtain ⟨g, hg1, hg2, hg3⟩ : ∃ g, k0 (fh (key 0 L) (w ix)) = some g ∧ g ≠ w ix ∧ fh (key 1 L) g = fh (key 1 L) (w ix2) := by
    rcases hW.2.2.1 ix h1 with ⟨b1, -⟩ | ⟨i', g, b1, b2, b3, b4, b5, -⟩
    · rw [b1] at hcs; cases hcs
    · rw [b2] at hcs
      rw [← Option.some.inj hcs]
      exact ⟨g, b3, b4, b5⟩
  rw [hg1] at hsame
  obtain ⟨c1a, c1b, c1c⟩ := h2 _ g hl0 hsame
  have hne : fh (key 1 L) g ≠ fh (key 1 L) (w ix) := by
    intro z
    rw [z] at c1c
    exact h4 g c1c (by rw [c1b]; exact hsame)
  have hko : k1 (fh (key 1 L) g) ≠ none := by
    rw [(hK.1 _ g hl0 hg1).2.2]; exact fun z => by cases z
  refine ⟨by omega, fun x i hx he => ?_, fun x i hx hxn he => ?_, fun i he => ?_, fun x hx => ?_, fun x hx hxl => ?_, Or.inr ⟨?_, ?_⟩⟩
  · by_cases e1 : x = fh (key 0 L) (w ix)
    · rw [e1, up_s] at he
      cases he
      exact ⟨hwn, e1.symm, up_s _ _ _⟩
    · rw [up_n e1] at he
      obtain ⟨a1, a2, a3⟩ := h2 x i hx he
      refine ⟨a1, a2, ?_⟩
      rw [up_n (fun z => by rw [z] at a3; exact h4 i a3 (by rw [a2]; exact he))]
      exact a3
  · by_cases e1 : x = fh (key 1 L) (w ix)
    · rw [e1, up_s] at he
      cases he
      exact ⟨hwn, e1.symm, up_s _ _ _⟩
    · rw [up_n e1] at he
      obtain ⟨a1, a2, a3⟩ := h3 x i hx e1 he
      refine ⟨a1, a2, ?_⟩
      rw [up_n (fun z => ?_)]
      · exact a3
      · rw [z, hsame] at a3
        rw [← Option.some.inj a3] at a2
        exact hxn (by rw [← a2]; exact hg3)
  · rw [← hg3, up_n hne, c1c] at he
    rw [← Option.some.inj he, c1b, up_s]
    exact fun z => hg2 (Option.some.inj z).symm
  · by_cases e1 : x = fh (key 0 L) (w ix)
    · exact Or.inr ⟨ix, ix2, h2i, h1, e1, Nat.le_refl _, by omega, hcs⟩
    · rw [up_n e1]
      rcases h5 x hx with z | ⟨m, m', a1, a2, a3, a4, a5, a6⟩
      · exact Or.inl z
      · exact Or.inr ⟨m, m', by omega, a2, a3, by omega, a5, a6⟩
  · by_cases e1 : x = fh (key 1 L) (w ix)
    · rw [e1, up_s]
      refine ⟨fun z => (by cases z), fun z => ?_⟩
      rcases h7 with y | ⟨-, y⟩
      · rw [e1, y] at hxl; exact absurd rfl hxl
      · exact absurd z y
    · rw [up_n e1]; exact h6 x hx hxl
  · by_cases e1 : fh (key 1 L) last = fh (key 1 L) (w ix)
    · rw [e1, up_s]; exact fun z => by cases z
    · rw [up_n e1]
      rcases h7 with y | ⟨y, -⟩
      · rw [y] at e1; exact absurd rfl e1
      · exact y
  · rw [← hg3]; exact hko
theorem JV_f {L : List Pr} {k0 k1 : Nat → Option Nat} {last e : Nat} {w : Nat → Nat} {cs : Nat → Option Nat} {c0 c1 : Nat → Option Nat} {ix : Nat} {sn : Nat → Nat} (hW : WI L k0 e w cs sn) (h : JV L k0 k1 last e w cs c0 c1 ix) (hcs : cs (w ix) = none) (hl : last < L.length) (hn : k1 (fh (key 1 L) last) = none) :
    MJ L (va_up c0 (fh (key 0 L) (w ix)) (some (w ix))) (va_up c1 (fh (key 1 L) (w ix)) (some (w ix))) ∧ cz (fun r => om (va_up c1 (fh (key 1 L) (w ix)) (some (w ix)) r)) L.length = cz (fun r => om (k1 r)) L.length + 1 := by
  have hsame := JV_same hW h
  obtain ⟨h1, h2, h3, h4, h5, h6, h7⟩ := h
  have hwn := hW.1 ix h1
  have hfree : c0 (fh (key 0 L) (w ix)) = none := by
    rw [hsame]
    rcases hW.2.2.1 ix h1 with ⟨-, b1⟩ | ⟨i', g, b1, b2, -⟩
    · exact b1
    · rw [b2] at hcs; cases hcs
  refine ⟨⟨fun x i hx he => ?_, fun x i hx he => ?_⟩, ?_⟩
  · by_cases e1 : x = fh (key 0 L) (w ix)
    · rw [e1, up_s] at he
      cases he
      exact ⟨hwn, e1.symm, up_s _ _ _⟩
    · rw [up_n e1] at he
      obtain ⟨a1, a2, a3⟩ := h2 x i hx he
      refine ⟨a1, a2, ?_⟩
      rw [up_n (fun z => by rw [z] at a3; exact h4 i a3 (by rw [a2]; exact he))]
      exact a3
  · by_cases e1 : x = fh (key 1 L) (w ix)
    · rw [e1, up_s] at he
      cases he
      exact ⟨hwn, e1.symm, up_s _ _ _⟩
    · rw [up_n e1] at he
      obtain ⟨a1, a2, a3⟩ := h3 x i hx e1 he
      refine ⟨a1, a2, ?_⟩
      rw [up_n (fun z => by rw [z, hfree] at a3; cases a3)]
      exact a3
  · have hl1 : fh (key 1 L) last < L.length := Nat.lt_of_le_of_lt (fh_le _ _) hl
    refine cz_one hl1 (om_0.mpr hn) (fun z => ?_) (fun x hx hxl => ?_)
    · have z := om_0.mp z
      by_cases e1 : fh (key 1 L) last = fh (key 1 L) (w ix)
      · rw [e1, up_s] at z; cases z
      · rw [up_n e1] at z
        rcases h7 with y | ⟨y, -⟩
        · rw [y] at e1; exact absurd rfl e1
        · exact y z
    · rw [om_0, om_0]
      by_cases e1 : x = fh (key 1 L) (w ix)
      · rw [e1, up_s]
        refine ⟨fun z => ?_, fun z => (by cases z)⟩
        rcases h7 with y | ⟨-, y⟩
        · rw [e1, y] at hxl; exact absurd rfl hxl
        · exact absurd z y
      · rw [up_n e1]; exact (h6 x hx hxl).symm
def aM (a : Nat → Nat) : List Nat := [a 17, a 18, a 19, a 20, a 21, a 22, a 23, a 24, a 25, a 26]
def aTM (a : Nat → Nat) : List Nat := aT a ++ aM a
theorem cM_H {G : Gd} {a p : Nat → Nat} {N : Nat → Nat → Int32} {B F : Nat → Nat → Option Nat} {n : Nat} {Hd : Nat → Nat → Nat} {C : Nat → Nat → Option Nat} {w : Nat → Nat} {k : Nat} {cs : Nat → Option Nat} {sn : Nat → Nat} {d : Nat} (hd : d < 2) : (cT G a p N B F n ++ cM G a Hd C w k cs sn)[13 + d]? = some (a (19 + d), .inl (G.2.1, 300, .inl (fN (Hd d)))) := by
  rcases (show d = 0 ∨ d = 1 by omega) with rfl | rfl <;> rfl
theorem cM_sH {G : Gd} {a p : Nat → Nat} {N : Nat → Nat → Int32} {B F : Nat → Nat → Option Nat} {n : Nat} {Hd : Nat → Nat → Nat} {C : Nat → Nat → Option Nat} {w : Nat → Nat} {k : Nat} {cs : Nat → Option Nat} {sn : Nat → Nat} {d : Nat} {f : Nat → Nat} (hd : d < 2) : (cT G a p N B F n ++ cM G a Hd C w k cs sn).set (13 + d) (a (19 + d), .inl (G.2.1, 300, .inl (fN f))) = cT G a p N B F n ++ cM G a (va_up Hd d f) C w k cs sn := by
  rcases (show d = 0 ∨ d = 1 by omega) with rfl | rfl <;> rfl
theorem cM_C {G : Gd} {a p : Nat → Nat} {N : Nat → Nat → Int32} {B F : Nat → Nat → Option Nat} {n : Nat} {Hd : Nat → Nat → Nat} {C : Nat → Nat → Option Nat} {w : Nat → Nat} {k : Nat} {cs : Nat → Option Nat} {sn : Nat → Nat} {d : Nat} (hd : d < 2) : (cT G a p N B F n ++ cM G a Hd C w k cs sn)[16 + d]? = some (a (22 + d), .inl (G.2.1, 300, .inl (fO (C d)))) := by
  rcases (show d = 0 ∨ d = 1 by omega) with rfl | rfl <;> rfl
/-- a store that chooses a pair, seen by places -/
theorem map_up {p : Nat → Nat} {n k i : Nat} {X c : Nat → Option Nat} (hinj : ∀ i j, i < 300 → j < 300 → p i = p j → i = j) (hn : n ≤ 300) (hk : k < n) (h : ∀ x, x < n → X (p x) = Option.map p (c x)) : ∀ x, x < n → va_up X (p k) (some (p i)) (p x) = Option.map p (va_up c k (some i) x) := by
  intro x hx
  by_cases e : x = k
  · rw [e, up_s, up_s]; rfl
  · rw [up_n e, up_n (fun z => e (hinj x k (by omega) (by omega) z))]; exact h x hx
def chC (Hd : Nat → Nat → Nat) (C : Nat → Nat → Option Nat) (sl : Nat) : Nat → Nat → Option Nat := va_up (va_up C 0 (va_up (C 0) (Hd 0 sl) (some sl))) 1 (va_up (va_up C 0 (va_up (C 0) (Hd 0 sl) (some sl)) 1) (Hd 1 sl) (some sl))
theorem chC_0 (Hd : Nat → Nat → Nat) (C : Nat → Nat → Option Nat) (sl : Nat) : chC Hd C sl 0 = va_up (C 0) (Hd 0 sl) (some sl) := by
  unfold chC
  rw [up_n (by decide), up_s]
theorem chC_1 (Hd : Nat → Nat → Nat) (C : Nat → Nat → Option Nat) (sl : Nat) : chC Hd C sl 1 = va_up (C 1) (Hd 1 sl) (some sl) := by
  unfold chC
  rw [up_s, up_n (by decide)]
/-- the chosen ones, by places -/
def CO (p : Nat → Nat) (n : Nat) (C : Nat → Nat → Option Nat) (c0 c1 : Nat → Option Nat) : Prop := (∀ h, h < n → C 0 (p h) = Option.map p (c0 h)) ∧ (∀ h, h < n → C 1 (p h) = Option.map p (c1 h)) ∧ (∀ h i, h < n → c0 h = some i → i < n) ∧ ∀ h i, h < n → c1 h = some i → i < n
theorem CO_ch {p : Nat → Nat} {L : List Pr} {Hd : Nat → Nat → Nat} {C : Nat → Nat → Option Nat} {c0 c1 : Nat → Option Nat} {i : Nat} (hinj : ∀ i j, i < 300 → j < 300 → p i = p j → i = j) (hn : L.length ≤ 300) (hH : ∀ d i, d < 2 → i < L.length → Hd d (p i) = p (fh (key d L) i)) (hi : i < L.length) (h : CO p L.length C c0 c1) : CO p L.length (chC Hd C (p i)) (va_up c0 (fh (key 0 L) i) (some i)) (va_up c1 (fh (key 1 L) i) (some i)) := by
  have f0 : fh (key 0 L) i < L.length := Nat.lt_of_le_of_lt (fh_le _ _) hi
  have f1 : fh (key 1 L) i < L.length := Nat.lt_of_le_of_lt (fh_le _ _) hi
  refine ⟨fun x hx => ?_, fun x hx => ?_, fun x j hx hj => ?_, fun x j hx hj => ?_⟩
  · rw [chC_0, hH 0 i (by omega) hi]; exact map_up hinj hn f0 h.1 x hx
  · rw [chC_1, hH 1 i (by omega) hi]; exact map_up hinj hn f1 h.2.1 x hx
  · by_cases e : x = fh (key 0 L) i
    · rw [e, up_s] at hj; cases hj; exact hi
    · rw [up_n e] at hj; exact h.2.2.1 x j hx hj
  · by_cases e : x = fh (key 1 L) i
    · rw [e, up_s] at hj; cases hj; exact hi
    · rw [up_n e] at hj; exact h.2.2.2 x j hx hj
theorem aTM_T {a : Nat → Nat} (h : (aTM a).Nodup) : (aT a).Nodup := (List.nodup_append.mp h).1
