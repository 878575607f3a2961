set_option maxHeartbeats 4000000 in
set_option maxRecDepth 100000 in
/-- Spread.start -/
theorem c_start (l : Launch) (G : Gd) (a p : Nat → Nat) (N : Nat → Nat → Int32) (B F : Nat → Nat → Option Nat) (L : List Pr) (hTI : TI p N B F L) (q r : Nat → Nat) (V : Nat → Nat → Nat) (n0 : Nat) (d : Nat) (v : Int32) (hd : d < 2) (hnd : (aTS a).Nodup) : Mt l yX1_start wsX1_start 3 76 [.ref (a 11), .ref (a 0), .int (nI d), .int (v)] G (cT G a p N B F L.length ++ cS G a q r V n0) (fun q => q ∈ aTS a) (fun x h => x = none ∧ ∃ (q' r' : Nat → Nat) (V' : Nat → Nat → Nat) (n' : Nat) (g' : Nat → Nat), (∀ i, i < n' → q' i = p (g' i)) ∧ IsFar (tch L) L.length (fun i => key d L i = v) (fun i => r' (p i)) ∧ n' = cz (fun i => r' (p i)) L.length ∧ (∀ i, i < n' → g' i < L.length ∧ r' (p (g' i)) ≠ 0) ∧ (∀ k, k < L.length → r' (p k) ≠ 0 → ∃ i, i < n' ∧ g' i = k) ∧ (∀ i j, i ≤ j → j < n' → r' (p (g' i)) ≤ r' (p (g' j))) ∧ (∀ k, k < L.length → r' (p k) ≤ 300) ∧ va_P G.1 vwCl (cT G a p N B F L.length ++ cS G a q' r' V' n') h) := by
  refine Mt.mk cX1_start 5 none (by decide) rfl (Nat.le_of_ble_eq_true rfl) ?_
  intro p9 e s m below meth c ls hx hb hr hml hts hown hlocks hP hK hl
  have hS : va_S (fun q => q ∈ aTS a) s.heap s.heap [] := va_S.rf
  have hl : lv_has ls 5 [(0, .ref (a 11)), (1, .ref (a 0)), (2, .int (nI d)), (3, .int (v))] := hl
  have hown : s.vm.findClass RX1 = some m.cls := hown
  have hDD : ∀ ws : va_W, ws.map Prod.fst = aTS a → va_D (fun q => q ∈ aTS a) ws := D_of hnd (fun q h => h)
  obtain ⟨hp, hinj, hn, hk, hlk⟩ := id hTI
  refine lv_aload_n hx hb dX1_start_0 rfl (lv_at hl 0 rfl) ?_
  refine z_callV (rest := []) 0 ⟨hx, hb, hml, hown, hts⟩ hK (c_forget l G a q r V n0 (aTS_S hnd)) gX1_start_X1_forget rfl (by decide +kernel) ⟨Nat.le_of_ble_eq_true rfl, Nat.le_of_ble_eq_true rfl⟩ (hP.sub (ws' := cS G a q r V n0) [11, 12, 13, 14, 15, 16] rfl) 0 rfl rfl rfl rfl hl.1 rfl (Nat.le_of_ble_eq_true rfl) dX1_start_1 ⟨Nat.le_refl _, Nat.le_refl _⟩ hS (fun q h => List.mem_append_right _ h) (fun v9 H9 locs hR9 hk9 hS => ?_)
  obtain ⟨rfl, hP1⟩ := hR9
  have hPk := P_keep (hP.sub (ws' := cT G a p N B F L.length) [0, 1, 2, 3, 4, 5, 6, 7, 8, 9, 10] rfl) hk9 (aTS_sep hnd)
  have hP := hPk.app hP1
  clear hk9
  generalize H9 = H at hP hS ⊢
  refine W.eq (g2 := F0 m 4 ls []) rfl ?_
  have hP : va_P G.1 vwCl (cT G a p N B F L.length ++ cS G a q (fun _ => 0) (fun _ _ => 0) 0) H := hP
  refine lv_aload_n hx hb dX1_start_4 rfl (lv_at hl 1 rfl) ?_
  refine lv_iload_n hx hb dX1_start_5 rfl (lv_at hl 2 rfl) ?_
  refine lv_iload_n hx hb dX1_start_6 rfl (lv_at hl 3 rfl) ?_
  refine z_callV (rest := []) 2 ⟨hx, hb, hml, hown, hts⟩ hK (c_firstOf l G a p N B F L.length d v hd hn hp) gX1_start_X2_firstOf rfl (by decide +kernel) ⟨Nat.le_of_ble_eq_true rfl, Nat.le_of_ble_eq_true rfl⟩ (hP.sub (ws' := cT G a p N B F L.length ++ []) [0, 1, 2, 3, 4, 5, 6, 7, 8, 9, 10] rfl) 0 rfl rfl rfl rfl hl.1 rfl (Nat.le_of_ble_eq_true rfl) dX1_start_7 ⟨Nat.le_refl _, Nat.le_refl _⟩ hS (fun _ h => h.elim) (fun v9 H9 locs hR9 hk9 hS => ?_)
  obtain ⟨o, rfl, ho⟩ := hR9
  have hP := P_keep0 hP hk9
  clear hk9
  generalize H9 = H at hP hS ⊢
  refine W.eq (g2 := F0 m 10 ls [.int (lk (Option.map p o))]) rfl ?_
  have hol := firstR_lt ho
  refine lv_istore (lv' := [(4, .int (lk (Option.map p o))), (0, .ref (a 11)), (1, .ref (a 0)), (2, .int (nI d)), (3, .int (v))]) hx hb dX1_start_10 hl (by decide) rfl (fun ls hl => ?_)
  refine lv_iload hx hb dX1_start_12 (lv_at hl 0 rfl) ?_
  refine lv_iconst (v := (-1)) hx hb dX1_start_14 rfl ?_
  refine z_none_eq (tgt := 26) hx hb (fun k hk9 => by have := mp_lt hp hn hol hk9; omega) dX1_start_15 (by decide) (fun hc1 => ?_) (fun k hc1 => ?_)
  · have hon : o = none := by cases o with | none => rfl | some j => cases hc1
    have hno : ∀ i, i < L.length → ¬ key d L i = v := fun i hi => by rcases ho with ⟨-, h1⟩ | ⟨j, h1, -⟩; rw [← hk d i hd hi]; exact h1 i hi; rw [h1] at hon; cases hon
    exact z_vret hx hb hr hlocks ⟨rfl, q, (fun _ => 0), (fun _ _ => 0), 0, q, fun i hi => absurd hi (Nat.not_lt_zero i), ⟨fun k _ h => absurd rfl h, fun k hk9 h => absurd h (hno k hk9), fun j k _ _ h => absurd rfl h⟩, (cz_0 (fun _ _ => rfl)).symm, fun i hi => absurd hi (Nat.not_lt_zero i), fun k _ h => absurd rfl h, fun i j _ hj => absurd hj (Nat.not_lt_zero j), fun k _ => Nat.zero_le _, hP⟩ hS dX1_start_26
  · rcases ho with ⟨h1, -⟩ | ⟨j, h1, h2, h3, h4⟩
    · rw [h1] at hc1; cases hc1
    · subst h1
      have hl : lv_has ls 5 [(4, .int (nI (p j))), (0, .ref (a 11)), (1, .ref (a 0)), (2, .int (nI d)), (3, .int (v))] := hl
      have h3 : N d (p j) = v := h3
      rw [hk d j hd h2] at h3
      refine lv_aload_n hx hb dX1_start_18 rfl (lv_at hl 1 rfl) ?_
      refine lv_aload_n hx hb dX1_start_19 rfl (lv_at hl 2 rfl) ?_
      refine lv_iload_n hx hb dX1_start_20 rfl (lv_at hl 3 rfl) ?_
      refine lv_iload hx hb dX1_start_21 (lv_at hl 0 rfl) ?_
      refine z_callV (rest := []) 3 ⟨hx, hb, hml, hown, hts⟩ hK (c_spreadFrom l G a p N B F L hTI q (fun _ => 0) (fun _ _ => 0) 0 q (fun i hi => absurd hi (Nat.not_lt_zero i)) d j hd h2 rfl (cz_0 (fun _ _ => rfl)).symm (fun _ _ => Nat.zero_le _) (fun x y _ _ h _ => absurd rfl h) (fun _ _ _ _ h => absurd rfl h) hnd) gX1_start_X1_spreadFrom rfl (by decide +kernel) ⟨Nat.le_of_ble_eq_true rfl, Nat.le_of_ble_eq_true rfl⟩ hP 11 rfl rfl rfl rfl hl.1 rfl (Nat.le_of_ble_eq_true rfl) dX1_start_23 ⟨Nat.le_refl _, Nat.le_refl _⟩ hS (fun _ h => h) (fun v9 H9 locs hR9 hk9 hS => ?_)
      obtain ⟨rfl, q2, r2, V2, n2, g2, hg2, ⟨b2, hBJ⟩, hPd, hEx, hWK, hF2, hP⟩ := hR9
      clear hk9
      generalize H9 = H at hP hS ⊢
      refine W.eq (g2 := F0 m 26 ls []) rfl ?_
      have hO9 : ∀ x, x < L.length → ¬ (fun x => (fun _ => 0 : Nat → Nat) (p x) ≠ 0) x := fun x _ h => absurd rfl h
      have hFar := IsFar_of' hBJ.1 hO9 hPd hF2
      rw [h3] at hFar
      exact z_vret hx hb hr hlocks ⟨rfl, q2, r2, V2, n2, g2, hg2, hFar, hBJ.1.2.1, fun i hi => ⟨(hBJ.1.2.2.1 i (Nat.zero_le _) hi).1, (hBJ.1.2.2.1 i (Nat.zero_le _) hi).2.1⟩, fun k hk9 h => by obtain ⟨i, -, a2, a3⟩ := hBJ.1.2.2.2.1 k hk9 h (hO9 k hk9); exact ⟨i, a2, a3⟩, fun i j h5 h6 => hBJ.1.2.2.2.2.2.1 i j (Nat.zero_le _) h5 h6, hBJ.2.2.1, hP⟩ hS dX1_start_26

set_option maxHeartbeats 4000000 in
set_option maxRecDepth 100000 in
/-- Spread.partOf -/
theorem c_partOf (l : Launch) (G : Gd) (a p : Nat → Nat) (N : Nat → Nat → Int32) (B F : Nat → Nat → Option Nat) (L : List Pr) (hTI : TI p N B F L) (q r : Nat → Nat) (V : Nat → Nat → Nat) (n0 : Nat) (d : Nat) (v : Int32) (hd : d < 2) (hnd : (aTS a).Nodup) : Mt l yX1_partOf wsX1_partOf 4 100 [.ref (a 11), .ref (a 0), .int (nI d), .int (v)] G (cT G a p N B F L.length ++ cS G a q r V n0) (fun q => q ∈ aTS a) (fun x h => ∃ z : Nat, x = some (.int (nI z)) ∧ (∃ far, IsFar (tch L) L.length (fun i => key d L i = v) far ∧ z = cz far L.length) ∧ ∃ (q' r' : Nat → Nat) (V' : Nat → Nat → Nat) (n' : Nat), va_P G.1 vwCl (cT G a p N B F L.length ++ cS G a q' r' V' n') h) := by
  refine Mt.mk cX1_partOf 4 (some .int) (by decide) rfl (Nat.le_of_ble_eq_true rfl) ?_
  intro p9 e s m below meth c ls hx hb hr hml hts hown hlocks hP hK hl
  have hinX1 : ∀ w ∈ wsX10, w ∈ wsX1_partOf := by decide +kernel
  have hS : va_S (fun q => q ∈ aTS a) s.heap s.heap [] := va_S.rf
  have hl : lv_has ls 4 [(0, .ref (a 11)), (1, .ref (a 0)), (2, .int (nI d)), (3, .int (v))] := hl
  have hown : s.vm.findClass RX1 = some m.cls := hown
  have hDD : ∀ ws : va_W, ws.map Prod.fst = aTS a → va_D (fun q => q ∈ aTS a) ws := D_of hnd (fun q h => h)
  refine lv_aload_n hx hb dX1_partOf_0 rfl (lv_at hl 0 rfl) ?_
  refine lv_aload_n hx hb dX1_partOf_1 rfl (lv_at hl 1 rfl) ?_
  refine lv_iload_n hx hb dX1_partOf_2 rfl (lv_at hl 2 rfl) ?_
  refine lv_iload_n hx hb dX1_partOf_3 rfl (lv_at hl 3 rfl) ?_
  refine z_callV (rest := []) 3 ⟨hx, hb, hml, hown, hts⟩ hK (c_start l G a p N B F L hTI q r V n0 d v hd hnd) gX1_partOf_X1_start rfl (by decide +kernel) ⟨Nat.le_of_ble_eq_true rfl, Nat.le_of_ble_eq_true rfl⟩ hP 11 rfl rfl rfl rfl hl.1 rfl (Nat.le_of_ble_eq_true rfl) dX1_partOf_4 ⟨Nat.le_refl _, Nat.le_refl _⟩ hS (fun _ h => h) (fun v9 H9 locs hR9 hk9 hS => ?_)
  obtain ⟨rfl, q2, r2, V2, n2, g2, hg2, hFar, hcz2, hg3, hcov, hmon, hr3, hP⟩ := hR9
  clear hk9
  generalize H9 = H at hP hS ⊢
  refine W.eq (g2 := F0 m 7 ls []) rfl ?_
  refine lv_aload_n hx hb dX1_partOf_7 rfl (lv_at hl 0 rfl) ?_
  refine va_get (D := G.1) (ci := 1) (v := .int (nI n2)) (C := RX1) (T := TX1) (N := 4) hx hb hts hinX1 hown hK.1 hP 11 rfl rfl 1 (by decide) (hts (.fieldLink RX1 27 "PairThreads$Spread" "found" "I") (by decide +kernel)) (fun _ h9 => h9) rfl dX1_partOf_8 ?_
  exact z_iret hx hb hr hlocks ⟨n2, rfl, ⟨_, hFar, hcz2⟩, q2, r2, V2, n2, hP⟩ hS dX1_partOf_11

set_option maxHeartbeats 4000000 in
set_option maxRecDepth 100000 in
/-- Spread.leastRow -/
theorem c_leastRow (l : Launch) (G : Gd) (a p : Nat → Nat) (N : Nat → Nat → Int32) (B F : Nat → Nat → Option Nat) (L : List Pr) (hTI : TI p N B F L) (q r : Nat → Nat) (V : Nat → Nat → Nat) (n0 : Nat) (d : Nat) (v : Int32) (o : Nat) (w : Int32) (hd : d < 2) (ho : o < 2) (hnd : (aTS a).Nodup) : Mt l yX1_leastRow wsX1_leastRow 4 100 [.ref (a 11), .ref (a 0), .int (nI d), .int (v), .int (nI o), .int (w)] G (cT G a p N B F L.length ++ cS G a q r V n0) (fun q => q ∈ aTS a) (fun x h => ∃ z : Nat, x = some (.int (nI z)) ∧ (∃ far, IsFar (tch L) L.length (fun i => key d L i = v) far ∧ ((z = 0 ∧ ∀ k, k < L.length → key o L k = w → far k = 0) ∨ (∃ k, k < L.length ∧ key o L k = w ∧ far k ≠ 0 ∧ z = far k ∧ ∀ j, j < L.length → key o L j = w → far j ≠ 0 → far k ≤ far j))) ∧ ∃ (q' r' : Nat → Nat) (V' : Nat → Nat → Nat) (n' : Nat), va_P G.1 vwCl (cT G a p N B F L.length ++ cS G a q' r' V' n') h) := by
  refine Mt.mk cX1_leastRow 7 (some .int) (by decide) rfl (Nat.le_of_ble_eq_true rfl) ?_
  intro p9 e s m below meth c ls hx hb hr hml hts hown hlocks hP hK hl
  have hinX1 : ∀ w ∈ wsX10, w ∈ wsX1_leastRow := by decide +kernel
  have hinX2 : ∀ w ∈ wsX20, w ∈ wsX1_leastRow := by decide +kernel
  have hS : va_S (fun q => q ∈ aTS a) s.heap s.heap [] := va_S.rf
  have hl : lv_has ls 7 [(0, .ref (a 11)), (1, .ref (a 0)), (2, .int (nI d)), (3, .int (v)), (4, .int (nI o)), (5, .int (w))] := hl
  have hown : s.vm.findClass RX1 = some m.cls := hown
  have hDD : ∀ ws : va_W, ws.map Prod.fst = aTS a → va_D (fun q => q ∈ aTS a) ws := D_of hnd (fun q h => h)
  obtain ⟨hp, hinj, hn, hk, hlk⟩ := id hTI
  refine lv_aload_n hx hb dX1_leastRow_0 rfl (lv_at hl 0 rfl) ?_
  refine lv_aload_n hx hb dX1_leastRow_1 rfl (lv_at hl 1 rfl) ?_
  refine lv_iload_n hx hb dX1_leastRow_2 rfl (lv_at hl 2 rfl) ?_
  refine lv_iload_n hx hb dX1_leastRow_3 rfl (lv_at hl 3 rfl) ?_
  refine z_callV (rest := []) 3 ⟨hx, hb, hml, hown, hts⟩ hK (c_start l G a p N B F L hTI q r V n0 d v hd hnd) gX1_leastRow_X1_start rfl (by decide +kernel) ⟨Nat.le_of_ble_eq_true rfl, Nat.le_of_ble_eq_true rfl⟩ hP 11 rfl rfl rfl rfl hl.1 rfl (Nat.le_of_ble_eq_true rfl) dX1_leastRow_4 ⟨Nat.le_refl _, Nat.le_refl _⟩ hS (fun _ h => h) (fun v9 H9 locs hR9 hk9 hS => ?_)
  obtain ⟨rfl, q2, r2, V2, n2, g2, hg2, hFar, hcz2, hg3, hcov, hmon, hr3, hP⟩ := hR9
  clear hk9
  generalize H9 = H at hP hS ⊢
  refine W.eq (g2 := F0 m 7 ls []) rfl ?_
  have hn2 : n2 ≤ 300 := by have := cz_le (fun i => r2 (p i)) L.length; omega
  refine lv_iconst (v := nI 0) hx hb dX1_leastRow_7 rfl ?_
  refine lv_istore (lv' := [(6, .int (nI 0)), (0, .ref (a 11)), (1, .ref (a 0)), (2, .int (nI d)), (3, .int (v)), (4, .int (nI o)), (5, .int (w))]) hx hb dX1_leastRow_8 hl (by decide) rfl (fun ls hl => ?_)
  have loop : ∀ (k9 : Nat) (i : Nat) (H : Heap) (locs : List Loc) (ls : Array Slot), (n2 < i + k9) → (i ≤ n2) → (∀ j, j < i → ¬ key o L (g2 j) = w) → va_P G.1 vwCl (cT G a p N B F L.length ++ cS G a q2 r2 V2 n2) H → va_S (fun q => q ∈ aTS a) s.heap H locs → lv_has ls 7 [(6, .int (nI i)), (0, .ref (a 11)), (1, .ref (a 0)), (2, .int (nI d)), (3, .int (v)), (4, .int (nI o)), (5, .int (w))] → Wz p9 l e 4 100 s m [.ref (a 11), .ref (a 0), .int (nI d), .int (v), .int (nI o), .int (w)] below meth c (fun q => q ∈ aTS a) (fun x h => ∃ z : Nat, x = some (.int (nI z)) ∧ (∃ far, IsFar (tch L) L.length (fun i => key d L i = v) far ∧ ((z = 0 ∧ ∀ k, k < L.length → key o L k = w → far k = 0) ∨ (∃ k, k < L.length ∧ key o L k = w ∧ far k ≠ 0 ∧ z = far k ∧ ∀ j, j < L.length → key o L j = w → far j ≠ 0 → far k ≤ far j))) ∧ ∃ (q' r' : Nat → Nat) (V' : Nat → Nat → Nat) (n' : Nat), va_P G.1 vwCl (cT G a p N B F L.length ++ cS G a q' r' V' n') h) H locs (F0 m 10 ls []) := by
    intro k9
    induction k9 with
    | zero =>
      intro i H locs ls hfuel hi hinv hP hS hl
      exact absurd hfuel (by omega)
    | succ k9 ih =>
      intro i H locs ls hfuel hi hinv hP hS hl
      refine lv_iload hx hb dX1_leastRow_10 (lv_at hl 0 rfl) ?_
      refine lv_aload_n hx hb dX1_leastRow_12 rfl (lv_at hl 1 rfl) ?_
      refine va_get (D := G.1) (ci := 1) (v := .int (nI n2)) (C := RX1) (T := TX1) (N := 4) hx hb hts hinX1 hown hK.1 hP 11 rfl rfl 1 (by decide) (hts (.fieldLink RX1 27 "PairThreads$Spread" "found" "I") (by decide +kernel)) (fun _ h9 => h9) rfl dX1_leastRow_13 ?_
      refine z_icmp_ge (tgt := 58) hx hb (by omega) (by omega) dX1_leastRow_16 (by decide) (fun hc1 => ?_) (fun hc1 => ?_)
      · refine lv_iconst (v := nI 0) hx hb dX1_leastRow_58 rfl ?_
        exact z_iret hx hb hr hlocks ⟨0, rfl, ⟨_, hFar, Or.inl ⟨rfl, fun k hk9 hw => Decidable.byContradiction (fun h0 => by obtain ⟨j, h1, h2⟩ := hcov k hk9 h0; exact hinv j (by omega) (by rw [h2]; exact hw))⟩⟩, q2, r2, V2, n2, hP⟩ hS dX1_leastRow_59
      · have hgi := hg3 i (by omega)
        have hpg := hp (g2 i) (by omega)
        have hqi := hg2 i (by omega)
        refine lv_aload_n hx hb dX1_leastRow_19 rfl (lv_at hl 2 rfl) ?_
        refine va_getN (D := G.1) (host := "PairThreads") (ci := 2) (v := .ref (a 2)) (C := RX2) (T := TX2) (N := 5) hx hb hts hinX2 hown hK.1 hP 0 rfl rfl 1 (by decide) hK.2.nlX1_number (fun _ h9 => h9) rfl dX1_leastRow_20 ?_
        refine lv_iload hx hb dX1_leastRow_23 (lv_at hl 5 rfl) ?_
        refine z_ald hx hb hK hP 2 rfl (j := o) (by omega) (by decide) dX1_leastRow_25 ?_
        refine lv_aload_n hx hb dX1_leastRow_26 rfl (lv_at hl 1 rfl) ?_
        refine va_get (D := G.1) (ci := 1) (v := .ref (a 12)) (C := RX1) (T := TX1) (N := 4) hx hb hts hinX1 hown hK.1 hP 11 rfl rfl 0 (by decide) (hts (.fieldLink RX1 9 "PairThreads$Spread" "reached" "[I") (by decide +kernel)) (fun _ h9 => h9) rfl dX1_leastRow_27 ?_
        refine lv_iload hx hb dX1_leastRow_30 (lv_at hl 0 rfl) ?_
        refine z_ialdN hx hb hK hP 12 rfl (j := i) (by omega) (by decide) dX1_leastRow_32 ?_
        refine z_top (y := nI (p (g2 i))) (congrArg nI hqi) ?_
        refine z_iald hx hb hK hP (5 + o) (cT_N ho) (j := p (g2 i)) (by omega) (by decide) dX1_leastRow_33 ?_
        refine z_top (y := key o L (g2 i)) (hk o (g2 i) ho hgi.1) ?_
        refine lv_iload hx hb dX1_leastRow_34 (lv_at hl 6 rfl) ?_
        refine lv_icmp_ne (tgt := 52) hx hb dX1_leastRow_36 (by decide) (fun hc2 => ?_) (fun hc2 => ?_)
        · refine z_iinc (lv' := [(6, .int (nI (i + 1))), (0, .ref (a 11)), (1, .ref (a 0)), (2, .int (nI d)), (3, .int (v)), (4, .int (nI o)), (5, .int (w))]) hx hb dX1_leastRow_52 hl (k := 0) rfl (by decide) rfl (fun ls hl => ?_)
          refine lv_goto (tgt := 10) hx hb dX1_leastRow_55 (by decide) ?_
          exact ih (i + 1) H locs ls (by omega) (by omega) (fun j hj => by rcases Nat.lt_succ_iff_lt_or_eq.mp hj with q | q; exact hinv j q; exact q ▸ hc2) hP hS (lv_sub hl [0, 1, 2, 3, 4, 5, 6] rfl)
        · refine lv_aload_n hx hb dX1_leastRow_39 rfl (lv_at hl 1 rfl) ?_
          refine va_get (D := G.1) (ci := 1) (v := .ref (a 13)) (C := RX1) (T := TX1) (N := 4) hx hb hts hinX1 hown hK.1 hP 11 rfl rfl 2 (by decide) (hts (.fieldLink RX1 15 "PairThreads$Spread" "rowTo" "[I") (by decide +kernel)) (fun _ h9 => h9) rfl dX1_leastRow_40 ?_
          refine lv_aload_n hx hb dX1_leastRow_43 rfl (lv_at hl 1 rfl) ?_
          refine va_get (D := G.1) (ci := 1) (v := .ref (a 12)) (C := RX1) (T := TX1) (N := 4) hx hb hts hinX1 hown hK.1 hP 11 rfl rfl 0 (by decide) (hts (.fieldLink RX1 9 "PairThreads$Spread" "reached" "[I") (by decide +kernel)) (fun _ h9 => h9) rfl dX1_leastRow_44 ?_
          refine lv_iload hx hb dX1_leastRow_47 (lv_at hl 0 rfl) ?_
          refine z_ialdN hx hb hK hP 12 rfl (j := i) (by omega) (by decide) dX1_leastRow_49 ?_
          refine z_top (y := nI (p (g2 i))) (congrArg nI hqi) ?_
          refine z_ialdN hx hb hK hP 13 rfl (j := p (g2 i)) (by omega) (by decide) dX1_leastRow_50 ?_
          exact z_iret hx hb hr hlocks ⟨r2 (p (g2 i)), rfl, ⟨_, hFar, Or.inr ⟨g2 i, hgi.1, hc2, hgi.2, rfl, fun j hj hw h0 => by obtain ⟨j2, h1, h2⟩ := hcov j hj h0; subst h2; rcases Nat.lt_or_ge j2 i with z | z; exact absurd hw (hinv j2 z); exact hmon i j2 z h1⟩⟩, q2, r2, V2, n2, hP⟩ hS dX1_leastRow_51
  exact loop (n2 + 1) 0 _ _ ls (by omega) (by omega) (fun j hj => absurd hj (Nat.not_lt_zero j)) hP hS (lv_sub hl [0, 1, 2, 3, 4, 5, 6] rfl)

set_option maxHeartbeats 4000000 in
set_option maxRecDepth 100000 in
/-- Spread.allParts -/
theorem c_allParts (l : Launch) (G : Gd) (a p : Nat → Nat) (N : Nat → Nat → Int32) (B F : Nat → Nat → Option Nat) (L : List Pr) (hTI : TI p N B F L) (q r : Nat → Nat) (V : Nat → Nat → Nat) (n0 : Nat) (hnd : (aTS a).Nodup) : Mt l yX1_allParts wsX1_allParts 3 76 [.ref (a 11), .ref (a 0)] G (cT G a p N B F L.length ++ cS G a q r V n0) (fun q => q ∈ aTS a) (fun x h => x = some (.int (nI (pcn (tch L) L.length L.length))) ∧ ∃ (q' r' : Nat → Nat) (V' : Nat → Nat → Nat) (n' : Nat), va_P G.1 vwCl (cT G a p N B F L.length ++ cS G a q' r' V' n') h) := by
  refine Mt.mk cX1_allParts 5 (some .int) (by decide) rfl (Nat.le_of_ble_eq_true rfl) ?_
  intro p9 e s m below meth c ls hx hb hr hml hts hown hlocks hP hK hl
  have hinX1 : ∀ w ∈ wsX10, w ∈ wsX1_allParts := by decide +kernel
  have hinX2 : ∀ w ∈ wsX20, w ∈ wsX1_allParts := by decide +kernel
  have hS : va_S (fun q => q ∈ aTS a) s.heap s.heap [] := va_S.rf
  have hl : lv_has ls 5 [(0, .ref (a 11)), (1, .ref (a 0))] := hl
  have hown : s.vm.findClass RX1 = some m.cls := hown
  have hDD : ∀ ws : va_W, ws.map Prod.fst = aTS a → va_D (fun q => q ∈ aTS a) ws := D_of hnd (fun q h => h)
  obtain ⟨hp, hinj, hn, hk, hlk⟩ := id hTI
  refine lv_iconst (v := nI 0) hx hb dX1_allParts_0 rfl ?_
  refine lv_istore_n (lv' := [(2, .int (nI 0)), (0, .ref (a 11)), (1, .ref (a 0))]) hx hb dX1_allParts_1 rfl hl (by decide) rfl (fun ls hl => ?_)
  refine lv_aload_n hx hb dX1_allParts_2 rfl (lv_at hl 1 rfl) ?_
  refine z_callV (rest := []) 0 ⟨hx, hb, hml, hown, hts⟩ hK (c_forget l G a q r V n0 (aTS_S hnd)) gX1_allParts_X1_forget rfl (by decide +kernel) ⟨Nat.le_of_ble_eq_true rfl, Nat.le_of_ble_eq_true rfl⟩ (hP.sub (ws' := cS G a q r V n0) [11, 12, 13, 14, 15, 16] rfl) 0 rfl rfl rfl rfl hl.1 rfl (Nat.le_of_ble_eq_true rfl) dX1_allParts_3 ⟨Nat.le_refl _, Nat.le_refl _⟩ hS (fun q h => List.mem_append_right _ h) (fun v9 H9 locs hR9 hk9 hS => ?_)
  obtain ⟨rfl, hP1⟩ := hR9
  have hPk := P_keep (hP.sub (ws' := cT G a p N B F L.length) [0, 1, 2, 3, 4, 5, 6, 7, 8, 9, 10] rfl) hk9 (aTS_sep hnd)
  have hP := hPk.app hP1
  clear hk9
  generalize H9 = H at hP hS ⊢
  refine W.eq (g2 := F0 m 6 ls []) rfl ?_
  have hP : va_P G.1 vwCl (cT G a p N B F L.length ++ cS G a q (fun _ => 0) (fun _ _ => 0) 0) H := hP
  refine lv_iconst (v := nI 0) hx hb dX1_allParts_6 rfl ?_
  refine lv_istore_n (lv' := [(3, .int (nI 0)), (2, .int (nI 0)), (0, .ref (a 11)), (1, .ref (a 0))]) hx hb dX1_allParts_7 rfl hl (by decide) rfl (fun ls hl => ?_)
  have loop : ∀ (k9 : Nat) (k : Nat) (q : Nat → Nat) (r : Nat → Nat) (V : Nat → Nat → Nat) (n0 : Nat) (g0 : Nat → Nat) (H : Heap) (locs : List Loc) (ls : Array Slot), (L.length < k + k9) → (k ≤ L.length) → (∀ i, i < n0 → q i = p (g0 i)) → (PI (tch L) L.length k (fun i => r (p i))) → (n0 + 0 = cz (fun i => r (p i)) L.length) → (∀ x, x < L.length → r (p x) ≤ 300) → (WK p L r V) → va_P G.1 vwCl (cT G a p N B F L.length ++ cS G a q r V n0) H → va_S (fun q => q ∈ aTS a) s.heap H locs → lv_has ls 5 [(3, .int (nI k)), (2, .int (nI (pcn (tch L) L.length k))), (0, .ref (a 11)), (1, .ref (a 0))] → Wz p9 l e 3 76 s m [.ref (a 11), .ref (a 0)] below meth c (fun q => q ∈ aTS a) (fun x h => x = some (.int (nI (pcn (tch L) L.length L.length))) ∧ ∃ (q' r' : Nat → Nat) (V' : Nat → Nat → Nat) (n' : Nat), va_P G.1 vwCl (cT G a p N B F L.length ++ cS G a q' r' V' n') h) H locs (F0 m 8 ls []) := by
    intro k9
    induction k9 with
    | zero =>
      intro k q r V n0 g0 H locs ls hfuel hk9 hg0 hPI hcz hFB hWK hP hS hl
      exact absurd hfuel (by omega)
    | succ k9 ih =>
      intro k q r V n0 g0 H locs ls hfuel hk9 hg0 hPI hcz hFB hWK hP hS hl
      refine lv_iload_n hx hb dX1_allParts_8 rfl (lv_at hl 0 rfl) ?_
      refine lv_aload_n hx hb dX1_allParts_9 rfl (lv_at hl 3 rfl) ?_
      refine va_getN (D := G.1) (host := "PairThreads") (ci := 2) (v := .int (nI L.length)) (C := RX2) (T := TX2) (N := 5) hx hb hts hinX2 hown hK.1 hP 0 rfl rfl 4 (by decide) hK.2.nlX1_size (fun _ h9 => h9) rfl dX1_allParts_10 ?_
      refine z_icmp_ge (tgt := 51) hx hb (by omega) (by omega) dX1_allParts_13 (by decide) (fun hc1 => ?_) (fun hc1 => ?_)
      · refine lv_iload_n hx hb dX1_allParts_51 rfl (lv_at hl 1 rfl) ?_
        exact z_iret hx hb hr hlocks ⟨by rw [show k = L.length by omega], q, r, V, n0, hP⟩ hS dX1_allParts_52
      · have hpk := hp k (by omega)
        have hfk := hFB k (by omega)
        refine lv_aload_n hx hb dX1_allParts_16 rfl (lv_at hl 3 rfl) ?_
        refine va_getN (D := G.1) (host := "PairThreads") (ci := 2) (v := .ref (a 1)) (C := RX2) (T := TX2) (N := 5) hx hb hts hinX2 hown hK.1 hP 0 rfl rfl 0 (by decide) hK.2.nlX1_order (fun _ h9 => h9) rfl dX1_allParts_17 ?_
        refine lv_iload_n hx hb dX1_allParts_20 rfl (lv_at hl 0 rfl) ?_
        refine z_ialdN hx hb hK hP 1 rfl (j := k) (by omega) (by decide) dX1_allParts_21 ?_
        refine lv_istore (lv' := [(4, .int (nI (p k))), (3, .int (nI k)), (2, .int (nI (pcn (tch L) L.length k))), (0, .ref (a 11)), (1, .ref (a 0))]) hx hb dX1_allParts_22 hl (by decide) rfl (fun ls hl => ?_)
        refine lv_aload_n hx hb dX1_allParts_24 rfl (lv_at hl 3 rfl) ?_
        refine va_get (D := G.1) (ci := 1) (v := .ref (a 13)) (C := RX1) (T := TX1) (N := 4) hx hb hts hinX1 hown hK.1 hP 11 rfl rfl 2 (by decide) (hts (.fieldLink RX1 15 "PairThreads$Spread" "rowTo" "[I") (by decide +kernel)) (fun _ h9 => h9) rfl dX1_allParts_25 ?_
        refine lv_iload hx hb dX1_allParts_28 (lv_at hl 0 rfl) ?_
        refine z_ialdN hx hb hK hP 13 rfl (j := p k) (by omega) (by decide) dX1_allParts_30 ?_
        refine z_if_ne (tgt := 45) hx hb (by omega) dX1_allParts_31 (by decide) (fun hc2 => ?_) (fun hc2 => ?_)
        · refine z_iinc (lv' := [(3, .int (nI (k + 1))), (4, .int (nI (p k))), (2, .int (nI (pcn (tch L) L.length k))), (0, .ref (a 11)), (1, .ref (a 0))]) hx hb dX1_allParts_45 hl (k := 1) rfl (by decide) rfl (fun ls hl => ?_)
          refine lv_goto (tgt := 8) hx hb dX1_allParts_48 (by decide) ?_
          have hl : lv_has ls 5 [(3, .int (nI (k + 1))), (4, .int (nI (p k))), (2, .int (nI (pcn (tch L) L.length (k + 1)))), (0, .ref (a 11)), (1, .ref (a 0))] := by rw [pcn_old ((hPI k (by omega)).mp hc2)]; exact hl
          exact ih (k + 1) q r V n0 g0 H locs ls (by omega) (by omega) hg0 (PI_old (by omega) hPI hc2) hcz hFB hWK hP hS (lv_sub hl [0, 2, 3, 4] rfl)
        · refine z_iinc (lv' := [(2, .int (nI (pcn (tch L) L.length k + 1))), (4, .int (nI (p k))), (3, .int (nI k)), (0, .ref (a 11)), (1, .ref (a 0))]) hx hb dX1_allParts_34 hl (k := 2) rfl (by decide) rfl (fun ls hl => ?_)
          refine lv_aload_n hx hb dX1_allParts_37 rfl (lv_at hl 3 rfl) ?_
          refine lv_aload_n hx hb dX1_allParts_38 rfl (lv_at hl 4 rfl) ?_
          refine lv_iconst (v := nI 0) hx hb dX1_allParts_39 rfl ?_
          refine lv_iload hx hb dX1_allParts_40 (lv_at hl 1 rfl) ?_
          refine z_callV (rest := []) 3 ⟨hx, hb, hml, hown, hts⟩ hK (c_spreadFrom l G a p N B F L hTI q r V n0 g0 hg0 0 k (by omega) (by omega) hc2 hcz hFB (fun x y hx2 hy2 h9 hT => by obtain ⟨j, a1, a2⟩ := (hPI x hx2).mp h9; exact (hPI y hy2).mpr ⟨j, a1, conn_step a2 hy2 hT⟩) hWK hnd) gX1_allParts_X1_spreadFrom rfl (by decide +kernel) ⟨Nat.le_of_ble_eq_true rfl, Nat.le_of_ble_eq_true rfl⟩ hP 11 rfl rfl rfl rfl hl.1 rfl (Nat.le_of_ble_eq_true rfl) dX1_allParts_42 ⟨Nat.le_refl _, Nat.le_refl _⟩ hS (fun _ h => h) (fun v9 H9 locs hR9 hk9 hS => ?_)
          obtain ⟨rfl, q2, r2, V2, n2, g2, hg2, ⟨b2, hBJ⟩, hPd, hEx, hWK2, hF2, hP⟩ := hR9
          clear hk9
          generalize H9 = H at hP hS ⊢
          refine W.eq (g2 := F0 m 45 ls []) rfl ?_
          have hPI2 : PI (tch L) L.length (k + 1) (fun i => r2 (p i)) := PI_new (tch_sym L) (show k < L.length by omega) hPI hc2 (S := fun x => key 0 L x = key 0 L k) rfl (fun x hx2 he => ⟨1, hx2, Or.inr ⟨k, ⟨by omega, rfl⟩, Or.inl he.symm⟩⟩) hBJ.1 hPd (fun x hx2 he => (hF2 x hx2 he).1) (fun x hx2 h0 => hEx.2.2 x hx2 h0)
          refine z_iinc (lv' := [(3, .int (nI (k + 1))), (2, .int (nI (pcn (tch L) L.length k + 1))), (4, .int (nI (p k))), (0, .ref (a 11)), (1, .ref (a 0))]) hx hb dX1_allParts_45 hl (k := 2) rfl (by decide) rfl (fun ls hl => ?_)
          refine lv_goto (tgt := 8) hx hb dX1_allParts_48 (by decide) ?_
          have hl : lv_has ls 5 [(3, .int (nI (k + 1))), (2, .int (nI (pcn (tch L) L.length (k + 1)))), (4, .int (nI (p k))), (0, .ref (a 11)), (1, .ref (a 0))] := by rw [pcn_new (fun z => (hPI k (by omega)).mpr z hc2)]; exact hl
          exact ih (k + 1) q2 r2 V2 n2 g2 H locs ls (by omega) (by omega) hg2 hPI2 hBJ.1.2.1 hBJ.2.2.1 hWK2 hP hS (lv_sub hl [0, 1, 3, 4] rfl)
  exact loop (L.length + 1) 0 q (fun _ => 0) (fun _ _ => 0) 0 q _ _ ls (by omega) (by omega) (fun i hi => absurd hi (Nat.not_lt_zero i)) (PI_0 (fun _ _ => rfl)) (cz_0 (fun _ _ => rfl)).symm (fun _ _ => Nat.zero_le _) (fun _ _ _ _ h => absurd rfl h) hP hS (lv_sub hl [0, 1, 2, 3] rfl)
