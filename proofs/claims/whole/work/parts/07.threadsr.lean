set_option maxHeartbeats 4000000 in
set_option maxRecDepth 100000 in
/-- Threads.firstOf: the first slot of a number, or NONE -/
theorem c_firstOf (l : Launch) (G : Gd) (a p : Nat → Nat) (N : Nat → Nat → Int32) (B F : Nat → Nat → Option Nat) (n : Nat) (d : Nat) (v : Int32) (hd : d < 2) (hn : n ≤ 300) (hp : ∀ i, i < 300 → p i < 300) : Mt l yX2_firstOf wsX2_firstOf 0 0 [.ref (a 0), .int (nI d), .int (v)] G (cT G a p N B F n ++ []) (fun _ => False) (fun r _ => ∃ o : Option Nat, r = some (.int (lk (Option.map p o))) ∧ firstR (fun i => N d (p i)) n v o) := by
  refine Mt.mk cX2_firstOf 4 (some .int) (by decide) rfl (Nat.le_of_ble_eq_true rfl) ?_
  intro p9 e s m below meth c ls hx hb hr hml hts hown hlocks hP hK hl
  have hinX2 : ∀ w ∈ wsX20, w ∈ wsX2_firstOf := by decide +kernel
  have hS : va_S (fun _ => False) s.heap s.heap [] := va_S.rf
  have hl : lv_has ls 4 [(0, .ref (a 0)), (1, .int (nI d)), (2, .int (v))] := hl
  have hown : s.vm.findClass RX2 = some m.cls := hown
  refine lv_iconst (v := nI 0) hx hb dX2_firstOf_0 rfl ?_
  refine lv_istore_n (lv' := [(3, .int (nI 0)), (0, .ref (a 0)), (1, .int (nI d)), (2, .int (v))]) hx hb dX2_firstOf_1 rfl hl (by decide) rfl (fun ls hl => ?_)
  have loop : ∀ (k9 : Nat) (i : Nat) (H : Heap) (locs : List Loc) (ls : Array Slot), n < i + k9 → i ≤ n → (∀ j, j < i → ¬ N d (p j) = v) → va_P G.1 vwCl (cT G a p N B F n ++ []) H → va_S (fun _ => False) s.heap H locs → lv_has ls 4 [(3, .int (nI i)), (0, .ref (a 0)), (1, .int (nI d)), (2, .int (v))] → Wz p9 l e 0 0 s m [.ref (a 0), .int (nI d), .int (v)] below meth c (fun _ => False) (fun r _ => ∃ o : Option Nat, r = some (.int (lk (Option.map p o))) ∧ firstR (fun i => N d (p i)) n v o) H locs (F0 m 2 ls []) := by
    intro k9
    induction k9 with
    | zero =>
      intro i H locs ls hfuel hi hinv hP hS hl
      exact absurd hfuel (by omega)
    | succ k9 ih =>
      intro i H locs ls hfuel hi hinv hP hS hl
      refine lv_iload_n hx hb dX2_firstOf_2 rfl (lv_at hl 0 rfl) ?_
      refine lv_aload_n hx hb dX2_firstOf_3 rfl (lv_at hl 1 rfl) ?_
      refine va_get (D := G.1) (ci := 2) (v := .int (nI n)) (C := RX2) (T := TX2) (N := 5) hx hb hts hinX2 hown hK.1 hP 0 rfl rfl 4 (by decide) (hts (.fieldLink RX2 26 "PairThreads$Threads" "size" "I") (by decide +kernel)) (fun _ h9 => h9) rfl dX2_firstOf_4 ?_
      refine z_icmp_ge (tgt := 40) hx hb (by omega) (by omega) dX2_firstOf_7 (by decide) (fun hc1 => ?_) (fun hc1 => ?_)
      · refine lv_iconst (v := (-1)) hx hb dX2_firstOf_40 rfl ?_
        refine z_top (y := lk (Option.map p none)) (rfl) ?_
        exact z_iret hx hb hr hlocks ⟨none, rfl, Or.inl ⟨rfl, fun j hj => hinv j (by omega)⟩⟩ hS dX2_firstOf_41
      · have hpi := hp i (by omega)
        refine lv_aload_n hx hb dX2_firstOf_10 rfl (lv_at hl 1 rfl) ?_
        refine va_get (D := G.1) (ci := 2) (v := .ref (a 2)) (C := RX2) (T := TX2) (N := 5) hx hb hts hinX2 hown hK.1 hP 0 rfl rfl 1 (by decide) (hts (.fieldLink RX2 17 "PairThreads$Threads" "number" "[[I") (by decide +kernel)) (fun _ h9 => h9) rfl dX2_firstOf_11 ?_
        refine lv_iload_n hx hb dX2_firstOf_14 rfl (lv_at hl 2 rfl) ?_
        refine z_ald hx hb hK hP 2 rfl (j := d) (by omega) (by decide) dX2_firstOf_15 ?_
        refine lv_aload_n hx hb dX2_firstOf_16 rfl (lv_at hl 1 rfl) ?_
        refine va_get (D := G.1) (ci := 2) (v := .ref (a 1)) (C := RX2) (T := TX2) (N := 5) hx hb hts hinX2 hown hK.1 hP 0 rfl rfl 0 (by decide) (hts (.fieldLink RX2 9 "PairThreads$Threads" "order" "[I") (by decide +kernel)) (fun _ h9 => h9) rfl dX2_firstOf_17 ?_
        refine lv_iload_n hx hb dX2_firstOf_20 rfl (lv_at hl 0 rfl) ?_
        refine z_ialdN hx hb hK hP 1 rfl (j := i) (by omega) (by decide) dX2_firstOf_21 ?_
        refine z_iald hx hb hK hP (5 + d) (cT_N hd) (j := p i) (by omega) (by decide) dX2_firstOf_22 ?_
        refine lv_iload_n hx hb dX2_firstOf_23 rfl (lv_at hl 3 rfl) ?_
        refine lv_icmp_ne (tgt := 34) hx hb dX2_firstOf_24 (by decide) (fun hc2 => ?_) (fun hc2 => ?_)
        · refine z_iinc (lv' := [(3, .int (nI (i + 1))), (0, .ref (a 0)), (1, .int (nI d)), (2, .int (v))]) hx hb dX2_firstOf_34 hl (k := 0) rfl (by decide) rfl (fun ls hl => ?_)
          refine lv_goto (tgt := 2) hx hb dX2_firstOf_37 (by decide) ?_
          exact ih (i + 1) H locs ls (by omega) (by omega) (fun j hj => by rcases Nat.lt_succ_iff_lt_or_eq.mp hj with q | q; exact hinv j q; exact q ▸ hc2) hP hS (lv_sub hl [0, 1, 2, 3] rfl)
        · refine lv_aload_n hx hb dX2_firstOf_27 rfl (lv_at hl 1 rfl) ?_
          refine va_get (D := G.1) (ci := 2) (v := .ref (a 1)) (C := RX2) (T := TX2) (N := 5) hx hb hts hinX2 hown hK.1 hP 0 rfl rfl 0 (by decide) (hts (.fieldLink RX2 9 "PairThreads$Threads" "order" "[I") (by decide +kernel)) (fun _ h9 => h9) rfl dX2_firstOf_28 ?_
          refine lv_iload_n hx hb dX2_firstOf_31 rfl (lv_at hl 0 rfl) ?_
          refine z_ialdN hx hb hK hP 1 rfl (j := i) (by omega) (by decide) dX2_firstOf_32 ?_
          refine z_top (y := lk (Option.map p (some i))) (rfl) ?_
          exact z_iret hx hb hr hlocks ⟨some i, rfl, Or.inr ⟨i, rfl, by omega, hc2, hinv⟩⟩ hS dX2_firstOf_33
  exact loop (n + 1) 0 _ _ ls (by omega) (by omega) (fun j hj => absurd hj (Nat.not_lt_zero j)) hP hS (lv_sub hl [0, 1, 2, 3] rfl)

set_option maxHeartbeats 4000000 in
set_option maxRecDepth 100000 in
/-- Threads.placeOf: the place of a pair, or NONE -/
theorem c_placeOf (l : Launch) (G : Gd) (a p : Nat → Nat) (N : Nat → Nat → Int32) (B F : Nat → Nat → Option Nat) (n : Nat) (x y : Int32) (hn : n ≤ 300) (hp : ∀ i, i < 300 → p i < 300) : Mt l yX2_placeOf wsX2_placeOf 0 0 [.ref (a 0), .int (x), .int (y)] G (cT G a p N B F n ++ []) (fun _ => False) (fun r _ => ∃ o : Option Nat, r = some (.int (lk o)) ∧ placeR (fun i => N 0 (p i)) (fun i => N 1 (p i)) n x y o) := by
  refine Mt.mk cX2_placeOf 5 (some .int) (by decide) rfl (Nat.le_of_ble_eq_true rfl) ?_
  intro p9 e s m below meth c ls hx hb hr hml hts hown hlocks hP hK hl
  have hinX2 : ∀ w ∈ wsX20, w ∈ wsX2_placeOf := by decide +kernel
  have hS : va_S (fun _ => False) s.heap s.heap [] := va_S.rf
  have hl : lv_has ls 5 [(0, .ref (a 0)), (1, .int (x)), (2, .int (y))] := hl
  have hown : s.vm.findClass RX2 = some m.cls := hown
  refine lv_iconst (v := nI 0) hx hb dX2_placeOf_0 rfl ?_
  refine lv_istore_n (lv' := [(3, .int (nI 0)), (0, .ref (a 0)), (1, .int (x)), (2, .int (y))]) hx hb dX2_placeOf_1 rfl hl (by decide) rfl (fun ls hl => ?_)
  have loop : ∀ (k9 : Nat) (i : Nat) (H : Heap) (locs : List Loc) (ls : Array Slot), n < i + k9 → i ≤ n → (∀ j, j < i → ¬ (N 0 (p j) = x ∧ N 1 (p j) = y)) → va_P G.1 vwCl (cT G a p N B F n ++ []) H → va_S (fun _ => False) s.heap H locs → lv_has ls 5 [(3, .int (nI i)), (0, .ref (a 0)), (1, .int (x)), (2, .int (y))] → Wz p9 l e 0 0 s m [.ref (a 0), .int (x), .int (y)] below meth c (fun _ => False) (fun r _ => ∃ o : Option Nat, r = some (.int (lk o)) ∧ placeR (fun i => N 0 (p i)) (fun i => N 1 (p i)) n x y o) H locs (F0 m 2 ls []) := by
    intro k9
    induction k9 with
    | zero =>
      intro i H locs ls hfuel hi hinv hP hS hl
      exact absurd hfuel (by omega)
    | succ k9 ih =>
      intro i H locs ls hfuel hi hinv hP hS hl
      refine lv_iload_n hx hb dX2_placeOf_2 rfl (lv_at hl 0 rfl) ?_
      refine lv_aload_n hx hb dX2_placeOf_3 rfl (lv_at hl 1 rfl) ?_
      refine va_get (D := G.1) (ci := 2) (v := .int (nI n)) (C := RX2) (T := TX2) (N := 5) hx hb hts hinX2 hown hK.1 hP 0 rfl rfl 4 (by decide) (hts (.fieldLink RX2 26 "PairThreads$Threads" "size" "I") (by decide +kernel)) (fun _ h9 => h9) rfl dX2_placeOf_4 ?_
      refine z_icmp_ge (tgt := 52) hx hb (by omega) (by omega) dX2_placeOf_7 (by decide) (fun hc1 => ?_) (fun hc1 => ?_)
      · refine lv_iconst (v := (-1)) hx hb dX2_placeOf_52 rfl ?_
        refine z_top (y := lk none) (rfl) ?_
        exact z_iret hx hb hr hlocks ⟨none, rfl, Or.inl ⟨rfl, fun j hj => hinv j (by omega)⟩⟩ hS dX2_placeOf_53
      · have hpi := hp i (by omega)
        refine lv_aload_n hx hb dX2_placeOf_10 rfl (lv_at hl 1 rfl) ?_
        refine va_get (D := G.1) (ci := 2) (v := .ref (a 1)) (C := RX2) (T := TX2) (N := 5) hx hb hts hinX2 hown hK.1 hP 0 rfl rfl 0 (by decide) (hts (.fieldLink RX2 9 "PairThreads$Threads" "order" "[I") (by decide +kernel)) (fun _ h9 => h9) rfl dX2_placeOf_11 ?_
        refine lv_iload_n hx hb dX2_placeOf_14 rfl (lv_at hl 0 rfl) ?_
        refine z_ialdN hx hb hK hP 1 rfl (j := i) (by omega) (by decide) dX2_placeOf_15 ?_
        refine lv_istore (lv' := [(4, .int (nI (p i))), (3, .int (nI i)), (0, .ref (a 0)), (1, .int (x)), (2, .int (y))]) hx hb dX2_placeOf_16 hl (by decide) rfl (fun ls hl => ?_)
        refine lv_aload_n hx hb dX2_placeOf_18 rfl (lv_at hl 2 rfl) ?_
        refine va_get (D := G.1) (ci := 2) (v := .ref (a 2)) (C := RX2) (T := TX2) (N := 5) hx hb hts hinX2 hown hK.1 hP 0 rfl rfl 1 (by decide) (hts (.fieldLink RX2 17 "PairThreads$Threads" "number" "[[I") (by decide +kernel)) (fun _ h9 => h9) rfl dX2_placeOf_19 ?_
        refine lv_iconst (v := nI 0) hx hb dX2_placeOf_22 rfl ?_
        refine z_ald hx hb hK hP 2 rfl (j := 0) (by omega) (by decide) dX2_placeOf_23 ?_
        refine lv_iload hx hb dX2_placeOf_24 (lv_at hl 0 rfl) ?_
        refine z_iald hx hb hK hP 5 rfl (j := p i) (by omega) (by decide) dX2_placeOf_26 ?_
        refine lv_iload_n hx hb dX2_placeOf_27 rfl (lv_at hl 3 rfl) ?_
        refine lv_icmp_ne (tgt := 46) hx hb dX2_placeOf_28 (by decide) (fun hc2 => ?_) (fun hc2 => ?_)
        · refine z_iinc (lv' := [(3, .int (nI (i + 1))), (4, .int (nI (p i))), (0, .ref (a 0)), (1, .int (x)), (2, .int (y))]) hx hb dX2_placeOf_46 hl (k := 1) rfl (by decide) rfl (fun ls hl => ?_)
          refine lv_goto (tgt := 2) hx hb dX2_placeOf_49 (by decide) ?_
          exact ih (i + 1) H locs ls (by omega) (by omega) (fun j hj => by rcases Nat.lt_succ_iff_lt_or_eq.mp hj with q | q; exact hinv j q; exact q ▸ (fun q2 => hc2 q2.1)) hP hS (lv_sub hl [0, 2, 3, 4] rfl)
        · refine lv_aload_n hx hb dX2_placeOf_31 rfl (lv_at hl 2 rfl) ?_
          refine va_get (D := G.1) (ci := 2) (v := .ref (a 2)) (C := RX2) (T := TX2) (N := 5) hx hb hts hinX2 hown hK.1 hP 0 rfl rfl 1 (by decide) (hts (.fieldLink RX2 17 "PairThreads$Threads" "number" "[[I") (by decide +kernel)) (fun _ h9 => h9) rfl dX2_placeOf_32 ?_
          refine lv_iconst (v := nI 1) hx hb dX2_placeOf_35 rfl ?_
          refine z_ald hx hb hK hP 2 rfl (j := 1) (by omega) (by decide) dX2_placeOf_36 ?_
          refine lv_iload hx hb dX2_placeOf_37 (lv_at hl 0 rfl) ?_
          refine z_iald hx hb hK hP 6 rfl (j := p i) (by omega) (by decide) dX2_placeOf_39 ?_
          refine lv_iload_n hx hb dX2_placeOf_40 rfl (lv_at hl 4 rfl) ?_
          refine lv_icmp_ne (tgt := 46) hx hb dX2_placeOf_41 (by decide) (fun hc3 => ?_) (fun hc3 => ?_)
          · refine z_iinc (lv' := [(3, .int (nI (i + 1))), (4, .int (nI (p i))), (0, .ref (a 0)), (1, .int (x)), (2, .int (y))]) hx hb dX2_placeOf_46 hl (k := 1) rfl (by decide) rfl (fun ls hl => ?_)
            refine lv_goto (tgt := 2) hx hb dX2_placeOf_49 (by decide) ?_
            exact ih (i + 1) H locs ls (by omega) (by omega) (fun j hj => by rcases Nat.lt_succ_iff_lt_or_eq.mp hj with q | q; exact hinv j q; exact q ▸ (fun q2 => hc3 q2.2)) hP hS (lv_sub hl [0, 2, 3, 4] rfl)
          · refine lv_iload_n hx hb dX2_placeOf_44 rfl (lv_at hl 1 rfl) ?_
            refine z_top (y := lk (some i)) (rfl) ?_
            exact z_iret hx hb hr hlocks ⟨some i, rfl, Or.inr ⟨i, rfl, by omega, ⟨hc2, hc3⟩, hinv⟩⟩ hS dX2_placeOf_45
  exact loop (n + 1) 0 _ _ ls (by omega) (by omega) (fun j hj => absurd hj (Nat.not_lt_zero j)) hP hS (lv_sub hl [0, 1, 2, 3] rfl)

set_option maxHeartbeats 4000000 in
set_option maxRecDepth 100000 in
/-- Threads.lastOf: the last slot of a number, or NONE -/
theorem c_lastOf (l : Launch) (G : Gd) (a p : Nat → Nat) (N : Nat → Nat → Int32) (B F : Nat → Nat → Option Nat) (n : Nat) (d : Nat) (v : Int32) (hd : d < 2) (hn : n ≤ 300) (hp : ∀ i, i < 300 → p i < 300) : Mt l yX2_lastOf wsX2_lastOf 0 0 [.ref (a 0), .int (nI d), .int (v)] G (cT G a p N B F n ++ []) (fun _ => False) (fun r _ => ∃ o : Option Nat, r = some (.int (lk (Option.map p o))) ∧ lastR (fun i => N d (p i)) n v o) := by
  refine Mt.mk cX2_lastOf 4 (some .int) (by decide) rfl (Nat.le_of_ble_eq_true rfl) ?_
  intro p9 e s m below meth c ls hx hb hr hml hts hown hlocks hP hK hl
  have hinX2 : ∀ w ∈ wsX20, w ∈ wsX2_lastOf := by decide +kernel
  have hS : va_S (fun _ => False) s.heap s.heap [] := va_S.rf
  have hl : lv_has ls 4 [(0, .ref (a 0)), (1, .int (nI d)), (2, .int (v))] := hl
  have hown : s.vm.findClass RX2 = some m.cls := hown
  refine lv_aload_n hx hb dX2_lastOf_0 rfl (lv_at hl 0 rfl) ?_
  refine va_get (D := G.1) (ci := 2) (v := .int (nI n)) (C := RX2) (T := TX2) (N := 5) hx hb hts hinX2 hown hK.1 hP 0 rfl rfl 4 (by decide) (hts (.fieldLink RX2 26 "PairThreads$Threads" "size" "I") (by decide +kernel)) (fun _ h9 => h9) rfl dX2_lastOf_1 ?_
  refine lv_iconst (v := nI 1) hx hb dX2_lastOf_4 rfl ?_
  refine lv_isub hx hb dX2_lastOf_5 ?_
  refine z_top (y := lk (pr n)) (lk_pr _) ?_
  refine lv_istore_n (lv' := [(3, .int (lk (pr n))), (0, .ref (a 0)), (1, .int (nI d)), (2, .int (v))]) hx hb dX2_lastOf_6 rfl hl (by decide) rfl (fun ls hl => ?_)
  have loop : ∀ (k9 : Nat) (k : Nat) (H : Heap) (locs : List Loc) (ls : Array Slot), k < k9 → k ≤ n → (∀ j, k ≤ j → j < n → ¬ N d (p j) = v) → va_P G.1 vwCl (cT G a p N B F n ++ []) H → va_S (fun _ => False) s.heap H locs → lv_has ls 4 [(3, .int (lk (pr k))), (0, .ref (a 0)), (1, .int (nI d)), (2, .int (v))] → Wz p9 l e 0 0 s m [.ref (a 0), .int (nI d), .int (v)] below meth c (fun _ => False) (fun r _ => ∃ o : Option Nat, r = some (.int (lk (Option.map p o))) ∧ lastR (fun i => N d (p i)) n v o) H locs (F0 m 7 ls []) := by
    intro k9
    induction k9 with
    | zero =>
      intro k H locs ls hfuel hk hinv hP hS hl
      exact absurd hfuel (by omega)
    | succ k9 ih =>
      intro k H locs ls hfuel hk hinv hP hS hl
      have hpk : ∀ i, pr k = some i → k = i + 1 := fun i hi => by cases k with | zero => cases hi | succ z => cases hi; rfl
      refine lv_iload_n hx hb dX2_lastOf_7 rfl (lv_at hl 0 rfl) ?_
      refine z_if_lt (tgt := 41) hx hb (fun i hi => by have := hpk i hi; omega) dX2_lastOf_8 (by decide) (fun hc1 => ?_) (fun i hc1 => ?_)
      · have hk0 : k = 0 := by cases k with | zero => rfl | succ z => cases hc1
        refine lv_iconst (v := (-1)) hx hb dX2_lastOf_41 rfl ?_
        refine z_top (y := lk (Option.map p none)) (rfl) ?_
        exact z_iret hx hb hr hlocks ⟨none, rfl, Or.inl ⟨rfl, fun j hj => hinv j (by omega) hj⟩⟩ hS dX2_lastOf_42
      · have hki := hpk i hc1
        rw [hc1] at hl
        have hl : lv_has ls 4 [(3, .int (nI i)), (0, .ref (a 0)), (1, .int (nI d)), (2, .int (v))] := hl
        have hpi := hp i (by omega)
        refine lv_aload_n hx hb dX2_lastOf_11 rfl (lv_at hl 1 rfl) ?_
        refine va_get (D := G.1) (ci := 2) (v := .ref (a 2)) (C := RX2) (T := TX2) (N := 5) hx hb hts hinX2 hown hK.1 hP 0 rfl rfl 1 (by decide) (hts (.fieldLink RX2 17 "PairThreads$Threads" "number" "[[I") (by decide +kernel)) (fun _ h9 => h9) rfl dX2_lastOf_12 ?_
        refine lv_iload_n hx hb dX2_lastOf_15 rfl (lv_at hl 2 rfl) ?_
        refine z_ald hx hb hK hP 2 rfl (j := d) (by omega) (by decide) dX2_lastOf_16 ?_
        refine lv_aload_n hx hb dX2_lastOf_17 rfl (lv_at hl 1 rfl) ?_
        refine va_get (D := G.1) (ci := 2) (v := .ref (a 1)) (C := RX2) (T := TX2) (N := 5) hx hb hts hinX2 hown hK.1 hP 0 rfl rfl 0 (by decide) (hts (.fieldLink RX2 9 "PairThreads$Threads" "order" "[I") (by decide +kernel)) (fun _ h9 => h9) rfl dX2_lastOf_18 ?_
        refine lv_iload_n hx hb dX2_lastOf_21 rfl (lv_at hl 0 rfl) ?_
        refine z_ialdN hx hb hK hP 1 rfl (j := i) (by omega) (by decide) dX2_lastOf_22 ?_
        refine z_iald hx hb hK hP (5 + d) (cT_N hd) (j := p i) (by omega) (by decide) dX2_lastOf_23 ?_
        refine lv_iload_n hx hb dX2_lastOf_24 rfl (lv_at hl 3 rfl) ?_
        refine lv_icmp_ne (tgt := 35) hx hb dX2_lastOf_25 (by decide) (fun hc2 => ?_) (fun hc2 => ?_)
        · refine z_iincm (lv' := [(3, .int (lk (pr i))), (0, .ref (a 0)), (1, .int (nI d)), (2, .int (v))]) hx hb dX2_lastOf_35 hl (k := 0) rfl (by decide) rfl (fun ls hl => ?_)
          refine lv_goto (tgt := 7) hx hb dX2_lastOf_38 (by decide) ?_
          exact ih i H locs ls (by omega) (by omega) (fun j h1 h2 => by rcases Nat.eq_or_lt_of_le h1 with q | q; exact q ▸ hc2; exact hinv j (by omega) h2) hP hS (lv_sub hl [0, 1, 2, 3] rfl)
        · refine lv_aload_n hx hb dX2_lastOf_28 rfl (lv_at hl 1 rfl) ?_
          refine va_get (D := G.1) (ci := 2) (v := .ref (a 1)) (C := RX2) (T := TX2) (N := 5) hx hb hts hinX2 hown hK.1 hP 0 rfl rfl 0 (by decide) (hts (.fieldLink RX2 9 "PairThreads$Threads" "order" "[I") (by decide +kernel)) (fun _ h9 => h9) rfl dX2_lastOf_29 ?_
          refine lv_iload_n hx hb dX2_lastOf_32 rfl (lv_at hl 0 rfl) ?_
          refine z_ialdN hx hb hK hP 1 rfl (j := i) (by omega) (by decide) dX2_lastOf_33 ?_
          refine z_top (y := lk (Option.map p (some i))) (rfl) ?_
          exact z_iret hx hb hr hlocks ⟨some i, rfl, Or.inr ⟨i, rfl, by omega, hc2, fun j h1 h2 => hinv j (by omega) h2⟩⟩ hS dX2_lastOf_34
  exact loop (n + 1) n _ _ ls (by omega) (by omega) (fun j h1 h2 => absurd h2 (by omega)) hP hS (lv_sub hl [0, 1, 2, 3] rfl)

set_option maxHeartbeats 4000000 in
set_option maxRecDepth 100000 in
/-- Threads.headOf: the first slot of the thread of a slot -/
theorem c_headOf (l : Launch) (G : Gd) (a p : Nat → Nat) (N : Nat → Nat → Int32) (B F : Nat → Nat → Option Nat) (n : Nat) (d i : Nat) (hd : d < 2) (hi : i < n) (hn : n ≤ 300) (hp : ∀ i, i < 300 → p i < 300) (hB : lnkB p (fun i => N d (p i)) (B d) n) : Mt l yX2_headOf wsX2_headOf 0 0 [.ref (a 0), .int (nI d), .int (nI (p i))] G (cT G a p N B F n ++ []) (fun _ => False) (fun r _ => ∃ h : Nat, r = some (.int (nI (p h))) ∧ h ≤ i ∧ N d (p h) = N d (p i) ∧ ∀ j, j < h → ¬ N d (p j) = N d (p i)) := by
  refine Mt.mk cX2_headOf 5 (some .int) (by decide) rfl (Nat.le_of_ble_eq_true rfl) ?_
  intro p9 e s m below meth c ls hx hb hr hml hts hown hlocks hP hK hl
  have hinX2 : ∀ w ∈ wsX20, w ∈ wsX2_headOf := by decide +kernel
  have hS : va_S (fun _ => False) s.heap s.heap [] := va_S.rf
  have hl : lv_has ls 5 [(0, .ref (a 0)), (1, .int (nI d)), (2, .int (nI (p i)))] := hl
  have hown : s.vm.findClass RX2 = some m.cls := hown
  refine lv_iload_n hx hb dX2_headOf_0 rfl (lv_at hl 2 rfl) ?_
  refine lv_istore_n (lv' := [(3, .int (nI (p i))), (0, .ref (a 0)), (1, .int (nI d)), (2, .int (nI (p i)))]) hx hb dX2_headOf_1 rfl hl (by decide) rfl (fun ls hl => ?_)
  refine lv_iconst (v := nI 0) hx hb dX2_headOf_2 rfl ?_
  refine lv_istore (lv' := [(4, .int (nI 0)), (3, .int (nI (p i))), (0, .ref (a 0)), (1, .int (nI d)), (2, .int (nI (p i)))]) hx hb dX2_headOf_3 hl (by decide) rfl (fun ls hl => ?_)
  have loop : ∀ (k9 : Nat) (h : Nat) (t : Nat) (H : Heap) (locs : List Loc) (ls : Array Slot), i < t + k9 → h + t ≤ i → N d (p h) = N d (p i) → va_P G.1 vwCl (cT G a p N B F n ++ []) H → va_S (fun _ => False) s.heap H locs → lv_has ls 5 [(4, .int (nI t)), (3, .int (nI (p h))), (0, .ref (a 0)), (1, .int (nI d)), (2, .int (nI (p i)))] → Wz p9 l e 0 0 s m [.ref (a 0), .int (nI d), .int (nI (p i))] below meth c (fun _ => False) (fun r _ => ∃ h : Nat, r = some (.int (nI (p h))) ∧ h ≤ i ∧ N d (p h) = N d (p i) ∧ ∀ j, j < h → ¬ N d (p j) = N d (p i)) H locs (F0 m 5 ls []) := by
    intro k9
    induction k9 with
    | zero =>
      intro h t H locs ls hfuel ht hv hP hS hl
      exact absurd hfuel (by omega)
    | succ k9 ih =>
      intro h t H locs ls hfuel ht hv hP hS hl
      have hph := hp h (by omega)
      refine lv_iload hx hb dX2_headOf_5 (lv_at hl 0 rfl) ?_
      refine lv_aload_n hx hb dX2_headOf_7 rfl (lv_at hl 2 rfl) ?_
      refine va_get (D := G.1) (ci := 2) (v := .int (nI n)) (C := RX2) (T := TX2) (N := 5) hx hb hts hinX2 hown hK.1 hP 0 rfl rfl 4 (by decide) (hts (.fieldLink RX2 26 "PairThreads$Threads" "size" "I") (by decide +kernel)) (fun _ h9 => h9) rfl dX2_headOf_8 ?_
      refine z_icmp_ge (tgt := 41) hx hb (by omega) (by omega) dX2_headOf_11 (by decide) (fun hc1 => ?_) (fun hc1 => ?_)
      · exact absurd hc1 (by omega)
      · obtain ⟨o, ho, hpr⟩ := hB h (by omega)
        refine lv_aload_n hx hb dX2_headOf_14 rfl (lv_at hl 2 rfl) ?_
        refine va_get (D := G.1) (ci := 2) (v := .ref (a 3)) (C := RX2) (T := TX2) (N := 5) hx hb hts hinX2 hown hK.1 hP 0 rfl rfl 2 (by decide) (hts (.fieldLink RX2 20 "PairThreads$Threads" "before" "[[I") (by decide +kernel)) (fun _ h9 => h9) rfl dX2_headOf_15 ?_
        refine lv_iload_n hx hb dX2_headOf_18 rfl (lv_at hl 3 rfl) ?_
        refine z_ald hx hb hK hP 3 rfl (j := d) (by omega) (by decide) dX2_headOf_19 ?_
        refine lv_iload_n hx hb dX2_headOf_20 rfl (lv_at hl 1 rfl) ?_
        refine z_ialdO hx hb hK hP (7 + d) (cT_B hd) (j := p h) (by omega) (by decide) dX2_headOf_21 ?_
        refine z_top (y := lk (Option.map p o)) (congrArg lk ho) ?_
        refine lv_iconst (v := (-1)) hx hb dX2_headOf_22 rfl ?_
        refine z_none_eq (tgt := 41) hx hb (fun k hk => by have := mp_lt hp (show h ≤ 300 by omega) (prevR_lt hpr) hk; omega) dX2_headOf_23 (by decide) (fun hc2 => ?_) (fun k hc2 => ?_)
        · refine lv_iload_n hx hb dX2_headOf_41 rfl (lv_at hl 1 rfl) ?_
          rcases hpr with ⟨h1, h2⟩ | ⟨j, h1, -⟩
          · exact z_iret hx hb hr hlocks ⟨h, rfl, by omega, hv, fun j hj => by rw [← hv]; exact h2 j hj⟩ hS dX2_headOf_42
          · rw [h1] at hc2; cases hc2
        · rcases hpr with ⟨h1, -⟩ | ⟨j, h1, h2, h3, -⟩
          · rw [h1] at hc2; cases hc2
          · have hBj : B d (p h) = some (p j) := by rw [ho, h1]; rfl
            refine lv_aload_n hx hb dX2_headOf_26 rfl (lv_at hl 2 rfl) ?_
            refine va_get (D := G.1) (ci := 2) (v := .ref (a 3)) (C := RX2) (T := TX2) (N := 5) hx hb hts hinX2 hown hK.1 hP 0 rfl rfl 2 (by decide) (hts (.fieldLink RX2 20 "PairThreads$Threads" "before" "[[I") (by decide +kernel)) (fun _ h9 => h9) rfl dX2_headOf_27 ?_
            refine lv_iload_n hx hb dX2_headOf_30 rfl (lv_at hl 3 rfl) ?_
            refine z_ald hx hb hK hP 3 rfl (j := d) (by omega) (by decide) dX2_headOf_31 ?_
            refine lv_iload_n hx hb dX2_headOf_32 rfl (lv_at hl 1 rfl) ?_
            refine z_ialdO hx hb hK hP (7 + d) (cT_B hd) (j := p h) (by omega) (by decide) dX2_headOf_33 ?_
            refine z_top (y := nI (p j)) ((congrArg lk hBj).trans rfl) ?_
            refine lv_istore_n (lv' := [(3, .int (nI (p j))), (4, .int (nI t)), (0, .ref (a 0)), (1, .int (nI d)), (2, .int (nI (p i)))]) hx hb dX2_headOf_34 rfl hl (by decide) rfl (fun ls hl => ?_)
            refine z_iinc (lv' := [(4, .int (nI (t + 1))), (3, .int (nI (p j))), (0, .ref (a 0)), (1, .int (nI d)), (2, .int (nI (p i)))]) hx hb dX2_headOf_35 hl (k := 1) rfl (by decide) rfl (fun ls hl => ?_)
            refine lv_goto (tgt := 5) hx hb dX2_headOf_38 (by decide) ?_
            exact ih j (t + 1) H locs ls (by omega) (by omega) (h3.trans hv) hP hS (lv_sub hl [0, 1, 2, 3, 4] rfl)
  exact loop (i + 1) i 0 _ _ ls (by omega) (by omega) rfl hP hS (lv_sub hl [0, 1, 2, 3, 4] rfl)

set_option maxHeartbeats 4000000 in
set_option maxRecDepth 100000 in
/-- Threads.lengthOf: how many pairs have the number -/
theorem c_lengthOf (l : Launch) (G : Gd) (a p : Nat → Nat) (N : Nat → Nat → Int32) (B F : Nat → Nat → Option Nat) (n : Nat) (d : Nat) (v : Int32) (hd : d < 2) (hn : n ≤ 300) (hp : ∀ i, i < 300 → p i < 300) (hF : lnkF p (fun i => N d (p i)) (F d) n) : Mt l yX2_lengthOf wsX2_lengthOf 1 23 [.ref (a 0), .int (nI d), .int (v)] G (cT G a p N B F n ++ []) (fun _ => False) (fun r _ => r = some (.int (nI (cnt (fun i => N d (p i)) v n)))) := by
  refine Mt.mk cX2_lengthOf 6 (some .int) (by decide) rfl (Nat.le_of_ble_eq_true rfl) ?_
  intro p9 e s m below meth c ls hx hb hr hml hts hown hlocks hP hK hl
  have hinX2 : ∀ w ∈ wsX20, w ∈ wsX2_lengthOf := by decide +kernel
  have hS : va_S (fun _ => False) s.heap s.heap [] := va_S.rf
  have hl : lv_has ls 6 [(0, .ref (a 0)), (1, .int (nI d)), (2, .int (v))] := hl
  have hown : s.vm.findClass RX2 = some m.cls := hown
  refine lv_iconst (v := nI 0) hx hb dX2_lengthOf_0 rfl ?_
  refine lv_istore_n (lv' := [(3, .int (nI 0)), (0, .ref (a 0)), (1, .int (nI d)), (2, .int (v))]) hx hb dX2_lengthOf_1 rfl hl (by decide) rfl (fun ls hl => ?_)
  refine lv_aload_n hx hb dX2_lengthOf_2 rfl (lv_at hl 1 rfl) ?_
  refine lv_iload_n hx hb dX2_lengthOf_3 rfl (lv_at hl 2 rfl) ?_
  refine lv_iload_n hx hb dX2_lengthOf_4 rfl (lv_at hl 3 rfl) ?_
  refine z_callV (rest := []) 2 ⟨hx, hb, hml, hown, hts⟩ hK (c_firstOf l G a p N B F n d v hd hn hp) gX2_lengthOf_X2_firstOf rfl (by decide +kernel) ⟨Nat.le_of_ble_eq_true rfl, Nat.le_of_ble_eq_true rfl⟩ hP 0 rfl rfl rfl rfl hl.1 rfl (Nat.le_of_ble_eq_true rfl) dX2_lengthOf_5 ⟨Nat.le_refl _, Nat.le_refl _⟩ hS (fun _ h => h.elim) (fun v9 H9 locs hR9 hk9 hS => ?_)
  obtain ⟨o, rfl, ho⟩ := hR9
  have hP := P_keep0 hP hk9
  clear hk9
  generalize H9 = H at hP hS ⊢
  refine W.eq (g2 := F0 m 8 ls [.int (lk (Option.map p o))]) rfl ?_
  have hst : stR (fun i => N d (p i)) n v 0 o := stR_first ho
  refine lv_istore (lv' := [(4, .int (lk (Option.map p o))), (3, .int (nI 0)), (0, .ref (a 0)), (1, .int (nI d)), (2, .int (v))]) hx hb dX2_lengthOf_8 hl (by decide) rfl (fun ls hl => ?_)
  refine lv_iconst (v := nI 0) hx hb dX2_lengthOf_10 rfl ?_
  refine lv_istore (lv' := [(5, .int (nI 0)), (4, .int (lk (Option.map p o))), (3, .int (nI 0)), (0, .ref (a 0)), (1, .int (nI d)), (2, .int (v))]) hx hb dX2_lengthOf_11 hl (by decide) rfl (fun ls hl => ?_)
  have loop : ∀ (k9 : Nat) (c1 : Nat) (o : Option Nat) (H : Heap) (locs : List Loc) (ls : Array Slot), n < c1 + k9 → c1 ≤ n → stR (fun i => N d (p i)) n v c1 o → va_P G.1 vwCl (cT G a p N B F n ++ []) H → va_S (fun _ => False) s.heap H locs → lv_has ls 6 [(5, .int (nI c1)), (4, .int (lk (Option.map p o))), (3, .int (nI c1)), (0, .ref (a 0)), (1, .int (nI d)), (2, .int (v))] → Wz p9 l e 1 23 s m [.ref (a 0), .int (nI d), .int (v)] below meth c (fun _ => False) (fun r _ => r = some (.int (nI (cnt (fun i => N d (p i)) v n)))) H locs (F0 m 13 ls []) := by
    intro k9
    induction k9 with
    | zero =>
      intro c1 o H locs ls hfuel hcn hst hP hS hl
      exact absurd hfuel (by omega)
    | succ k9 ih =>
      intro c1 o H locs ls hfuel hcn hst hP hS hl
      have hc1 : c1 ≤ n := by rcases hst with ⟨-, h⟩ | ⟨j, -, h2, -, h⟩; rw [h]; exact cnt_le _ _ _; have := cnt_le (fun i => N d (p i)) v j; omega
      refine lv_iload hx hb dX2_lengthOf_13 (lv_at hl 0 rfl) ?_
      refine lv_aload_n hx hb dX2_lengthOf_15 rfl (lv_at hl 3 rfl) ?_
      refine va_get (D := G.1) (ci := 2) (v := .int (nI n)) (C := RX2) (T := TX2) (N := 5) hx hb hts hinX2 hown hK.1 hP 0 rfl rfl 4 (by decide) (hts (.fieldLink RX2 26 "PairThreads$Threads" "size" "I") (by decide +kernel)) (fun _ h9 => h9) rfl dX2_lengthOf_16 ?_
      refine z_icmp_ge (tgt := 48) hx hb (by omega) (by omega) dX2_lengthOf_19 (by decide) (fun hc1 => ?_) (fun hc1 => ?_)
      · refine lv_iload_n hx hb dX2_lengthOf_48 rfl (lv_at hl 2 rfl) ?_
        have he : c1 = cnt (fun i => N d (p i)) v n := by rcases hst with ⟨-, h⟩ | ⟨j, -, h2, -, h⟩; exact h; have := cnt_le (fun i => N d (p i)) v j; omega
        exact z_iret hx hb hr hlocks (by rw [he]) hS dX2_lengthOf_49
      · refine lv_iload hx hb dX2_lengthOf_22 (lv_at hl 1 rfl) ?_
        refine lv_iconst (v := (-1)) hx hb dX2_lengthOf_24 rfl ?_
        refine z_none_eq (tgt := 48) hx hb (fun k hk => by have := mp_lt hp hn (stR_lt hst) hk; omega) dX2_lengthOf_25 (by decide) (fun hc2 => ?_) (fun k hc2 => ?_)
        · refine lv_iload_n hx hb dX2_lengthOf_48 rfl (lv_at hl 2 rfl) ?_
          have he : c1 = cnt (fun i => N d (p i)) v n := by rcases hst with ⟨-, h⟩ | ⟨j, h1, -⟩; exact h; rw [h1] at hc2; cases hc2
          exact z_iret hx hb hr hlocks (by rw [he]) hS dX2_lengthOf_49
        · rcases hst with ⟨h1, -⟩ | ⟨j, h1, h2, h3, h4⟩
          · rw [h1] at hc2; cases hc2
          · subst h1
            have hl : lv_has ls 6 [(5, .int (nI c1)), (4, .int (nI (p j))), (3, .int (nI c1)), (0, .ref (a 0)), (1, .int (nI d)), (2, .int (v))] := hl
            have hpj := hp j (by omega)
            obtain ⟨o2, ho2, hnx⟩ := hF j h2
            refine z_iinc (lv' := [(3, .int (nI (c1 + 1))), (5, .int (nI c1)), (4, .int (nI (p j))), (0, .ref (a 0)), (1, .int (nI d)), (2, .int (v))]) hx hb dX2_lengthOf_28 hl (k := 2) rfl (by decide) rfl (fun ls hl => ?_)
            refine lv_aload_n hx hb dX2_lengthOf_31 rfl (lv_at hl 3 rfl) ?_
            refine va_get (D := G.1) (ci := 2) (v := .ref (a 4)) (C := RX2) (T := TX2) (N := 5) hx hb hts hinX2 hown hK.1 hP 0 rfl rfl 3 (by decide) (hts (.fieldLink RX2 23 "PairThreads$Threads" "after" "[[I") (by decide +kernel)) (fun _ h9 => h9) rfl dX2_lengthOf_32 ?_
            refine lv_iload_n hx hb dX2_lengthOf_35 rfl (lv_at hl 4 rfl) ?_
            refine z_ald hx hb hK hP 4 rfl (j := d) (by omega) (by decide) dX2_lengthOf_36 ?_
            refine lv_iload hx hb dX2_lengthOf_37 (lv_at hl 2 rfl) ?_
            refine z_ialdO hx hb hK hP (9 + d) (cT_F hd) (j := p j) (by omega) (by decide) dX2_lengthOf_39 ?_
            refine z_top (y := lk (Option.map p o2)) (congrArg lk ho2) ?_
            refine lv_istore (lv' := [(4, .int (lk (Option.map p o2))), (3, .int (nI (c1 + 1))), (5, .int (nI c1)), (0, .ref (a 0)), (1, .int (nI d)), (2, .int (v))]) hx hb dX2_lengthOf_40 hl (by decide) rfl (fun ls hl => ?_)
            refine z_iinc (lv' := [(5, .int (nI (c1 + 1))), (4, .int (lk (Option.map p o2))), (3, .int (nI (c1 + 1))), (0, .ref (a 0)), (1, .int (nI d)), (2, .int (v))]) hx hb dX2_lengthOf_42 hl (k := 2) rfl (by decide) rfl (fun ls hl => ?_)
            refine lv_goto (tgt := 13) hx hb dX2_lengthOf_45 (by decide) ?_
            exact ih (c1 + 1) o2 H locs ls (by omega) (by omega) (by rw [h4]; exact stR_next h2 h3 hnx) hP hS (lv_sub hl [0, 1, 2, 3, 4, 5] rfl)
  exact loop (n + 1) 0 o _ _ ls (by omega) (by omega) hst hP hS (lv_sub hl [0, 1, 2, 3, 4, 5] rfl)

set_option maxHeartbeats 4000000 in
set_option maxRecDepth 100000 in
/-- Threads.inThread: the slot of pair x in the thread of a number, or NONE -/
theorem c_inThread (l : Launch) (G : Gd) (a p : Nat → Nat) (N : Nat → Nat → Int32) (B F : Nat → Nat → Option Nat) (n : Nat) (d : Nat) (v x : Int32) (hd : d < 2) (hn : n ≤ 300) (hp : ∀ i, i < 300 → p i < 300) (hF : lnkF p (fun i => N d (p i)) (F d) n) : Mt l yX2_inThread wsX2_inThread 1 23 [.ref (a 0), .int (nI d), .int (v), .int (x)] G (cT G a p N B F n ++ []) (fun _ => False) (fun r _ => ∃ o : Option Nat, r = some (.int (lk (Option.map p o))) ∧ nthR (fun i => N d (p i)) n v x o) := by
  refine Mt.mk cX2_inThread 6 (some .int) (by decide) rfl (Nat.le_of_ble_eq_true rfl) ?_
  intro p9 e s m below meth c ls hx hb hr hml hts hown hlocks hP hK hl
  have hinX2 : ∀ w ∈ wsX20, w ∈ wsX2_inThread := by decide +kernel
  have hS : va_S (fun _ => False) s.heap s.heap [] := va_S.rf
  have hl : lv_has ls 6 [(0, .ref (a 0)), (1, .int (nI d)), (2, .int (v)), (3, .int (x))] := hl
  have hown : s.vm.findClass RX2 = some m.cls := hown
  refine lv_iload_n hx hb dX2_inThread_0 rfl (lv_at hl 3 rfl) ?_
  refine lv_if_lt (tgt := 12) hx hb dX2_inThread_1 (by decide) (fun hc1 => ?_) (fun hc1 => ?_)
  · refine lv_iconst (v := (-1)) hx hb dX2_inThread_12 rfl ?_
    refine z_top (y := lk (Option.map p none)) (rfl) ?_
    exact z_iret hx hb hr hlocks ⟨none, rfl, Or.inl ⟨rfl, fun j hj _ hq => by rw [hq] at hc1; have := cnt_le (fun i => N d (p i)) v j; exact absurd hc1 (nI_pos (by omega))⟩⟩ hS dX2_inThread_13
  · obtain ⟨x0, hx0, hxe⟩ := nI_of hc1
    subst hxe
    refine lv_iload_n hx hb dX2_inThread_4 rfl (lv_at hl 3 rfl) ?_
    refine lv_aload_n hx hb dX2_inThread_5 rfl (lv_at hl 0 rfl) ?_
    refine va_get (D := G.1) (ci := 2) (v := .int (nI n)) (C := RX2) (T := TX2) (N := 5) hx hb hts hinX2 hown hK.1 hP 0 rfl rfl 4 (by decide) (hts (.fieldLink RX2 26 "PairThreads$Threads" "size" "I") (by decide +kernel)) (fun _ h9 => h9) rfl dX2_inThread_6 ?_
    refine z_icmp_lt (tgt := 14) hx hb (by omega) (by omega) dX2_inThread_9 (by decide) (fun hc2 => ?_) (fun hc2 => ?_)
    · refine lv_aload_n hx hb dX2_inThread_14 rfl (lv_at hl 0 rfl) ?_
      refine lv_iload_n hx hb dX2_inThread_15 rfl (lv_at hl 1 rfl) ?_
      refine lv_iload_n hx hb dX2_inThread_16 rfl (lv_at hl 2 rfl) ?_
      refine z_callV (rest := []) 2 ⟨hx, hb, hml, hown, hts⟩ hK (c_firstOf l G a p N B F n d v hd hn hp) gX2_inThread_X2_firstOf rfl (by decide +kernel) ⟨Nat.le_of_ble_eq_true rfl, Nat.le_of_ble_eq_true rfl⟩ hP 0 rfl rfl rfl rfl hl.1 rfl (Nat.le_of_ble_eq_true rfl) dX2_inThread_17 ⟨Nat.le_refl _, Nat.le_refl _⟩ hS (fun _ h => h.elim) (fun v9 H9 locs hR9 hk9 hS => ?_)
      obtain ⟨o, rfl, ho⟩ := hR9
      have hP := P_keep0 hP hk9
      clear hk9
      generalize H9 = H at hP hS ⊢
      refine W.eq (g2 := F0 m 20 ls [.int (lk (Option.map p o))]) rfl ?_
      have hst : stR (fun i => N d (p i)) n v 0 o := stR_first ho
      refine lv_istore (lv' := [(4, .int (lk (Option.map p o))), (0, .ref (a 0)), (1, .int (nI d)), (2, .int (v)), (3, .int (nI x0))]) hx hb dX2_inThread_20 hl (by decide) rfl (fun ls hl => ?_)
      refine lv_iconst (v := nI 0) hx hb dX2_inThread_22 rfl ?_
      refine lv_istore (lv' := [(5, .int (nI 0)), (4, .int (lk (Option.map p o))), (0, .ref (a 0)), (1, .int (nI d)), (2, .int (v)), (3, .int (nI x0))]) hx hb dX2_inThread_23 hl (by decide) rfl (fun ls hl => ?_)
      have loop : ∀ (k9 : Nat) (c1 : Nat) (o : Option Nat) (H : Heap) (locs : List Loc) (ls : Array Slot), x0 < c1 + k9 → c1 ≤ x0 → stR (fun i => N d (p i)) n v c1 o → va_P G.1 vwCl (cT G a p N B F n ++ []) H → va_S (fun _ => False) s.heap H locs → lv_has ls 6 [(5, .int (nI c1)), (4, .int (lk (Option.map p o))), (0, .ref (a 0)), (1, .int (nI d)), (2, .int (v)), (3, .int (nI x0))] → Wz p9 l e 1 23 s m [.ref (a 0), .int (nI d), .int (v), .int (nI x0)] below meth c (fun _ => False) (fun r _ => ∃ o : Option Nat, r = some (.int (lk (Option.map p o))) ∧ nthR (fun i => N d (p i)) n v (nI x0) o) H locs (F0 m 25 ls []) := by
        intro k9
        induction k9 with
        | zero =>
          intro c1 o H locs ls hfuel hcx hst hP hS hl
          exact absurd hfuel (by omega)
        | succ k9 ih =>
          intro c1 o H locs ls hfuel hcx hst hP hS hl
          refine lv_iload hx hb dX2_inThread_25 (lv_at hl 0 rfl) ?_
          refine lv_iload_n hx hb dX2_inThread_27 rfl (lv_at hl 5 rfl) ?_
          refine z_icmp_ge (tgt := 54) hx hb (by omega) (by omega) dX2_inThread_28 (by decide) (fun hc3 => ?_) (fun hc3 => ?_)
          · refine lv_iload hx hb dX2_inThread_54 (lv_at hl 1 rfl) ?_
            have he : c1 = x0 := by omega
            subst he
            rcases hst with ⟨h1, h2⟩ | ⟨j, h1, h2, h3, h4⟩
            · exact z_iret hx hb hr hlocks ⟨o, rfl, Or.inl ⟨h1, fun j hj hv hq => by have h5 := cnt_lt (K := (fun i => N d (p i))) hj hv; rw [nI_eq (by omega) (by have := cnt_le (fun i => N d (p i)) v j; omega)] at hq; omega⟩⟩ hS dX2_inThread_56
            · exact z_iret hx hb hr hlocks ⟨o, rfl, Or.inr ⟨j, h1, h2, h3, congrArg nI h4⟩⟩ hS dX2_inThread_56
          · refine lv_iload hx hb dX2_inThread_31 (lv_at hl 1 rfl) ?_
            refine lv_iconst (v := (-1)) hx hb dX2_inThread_33 rfl ?_
            refine z_none_eq (tgt := 54) hx hb (fun k hk => by have := mp_lt hp hn (stR_lt hst) hk; omega) dX2_inThread_34 (by decide) (fun hc4 => ?_) (fun k hc4 => ?_)
            · refine lv_iload hx hb dX2_inThread_54 (lv_at hl 1 rfl) ?_
              rcases hst with ⟨h1, h2⟩ | ⟨j, h1, -⟩
              · exact z_iret hx hb hr hlocks ⟨o, rfl, Or.inl ⟨h1, fun j hj hv hq => by have h5 := cnt_lt (K := (fun i => N d (p i))) hj hv; rw [nI_eq (by omega) (by have := cnt_le (fun i => N d (p i)) v j; omega)] at hq; omega⟩⟩ hS dX2_inThread_56
              · rw [h1] at hc4; cases hc4
            · rcases hst with ⟨h1, -⟩ | ⟨j, h1, h2, h3, h4⟩
              · rw [h1] at hc4; cases hc4
              · subst h1
                have hl : lv_has ls 6 [(5, .int (nI c1)), (4, .int (nI (p j))), (0, .ref (a 0)), (1, .int (nI d)), (2, .int (v)), (3, .int (nI x0))] := hl
                have hpj := hp j (by omega)
                obtain ⟨o2, ho2, hnx⟩ := hF j h2
                refine lv_aload_n hx hb dX2_inThread_37 rfl (lv_at hl 2 rfl) ?_
                refine va_get (D := G.1) (ci := 2) (v := .ref (a 4)) (C := RX2) (T := TX2) (N := 5) hx hb hts hinX2 hown hK.1 hP 0 rfl rfl 3 (by decide) (hts (.fieldLink RX2 23 "PairThreads$Threads" "after" "[[I") (by decide +kernel)) (fun _ h9 => h9) rfl dX2_inThread_38 ?_
                refine lv_iload_n hx hb dX2_inThread_41 rfl (lv_at hl 3 rfl) ?_
                refine z_ald hx hb hK hP 4 rfl (j := d) (by omega) (by decide) dX2_inThread_42 ?_
                refine lv_iload hx hb dX2_inThread_43 (lv_at hl 1 rfl) ?_
                refine z_ialdO hx hb hK hP (9 + d) (cT_F hd) (j := p j) (by omega) (by decide) dX2_inThread_45 ?_
                refine z_top (y := lk (Option.map p o2)) (congrArg lk ho2) ?_
                refine lv_istore (lv' := [(4, .int (lk (Option.map p o2))), (5, .int (nI c1)), (0, .ref (a 0)), (1, .int (nI d)), (2, .int (v)), (3, .int (nI x0))]) hx hb dX2_inThread_46 hl (by decide) rfl (fun ls hl => ?_)
                refine z_iinc (lv' := [(5, .int (nI (c1 + 1))), (4, .int (lk (Option.map p o2))), (0, .ref (a 0)), (1, .int (nI d)), (2, .int (v)), (3, .int (nI x0))]) hx hb dX2_inThread_48 hl (k := 1) rfl (by decide) rfl (fun ls hl => ?_)
                refine lv_goto (tgt := 25) hx hb dX2_inThread_51 (by decide) ?_
                exact ih (c1 + 1) o2 H locs ls (by omega) (by omega) (by rw [h4]; exact stR_next h2 h3 hnx) hP hS (lv_sub hl [0, 1, 2, 3, 4, 5] rfl)
      exact loop (x0 + 1) 0 o _ _ ls (by omega) (by omega) hst hP hS (lv_sub hl [0, 1, 2, 3, 4, 5] rfl)
    · refine lv_iconst (v := (-1)) hx hb dX2_inThread_12 rfl ?_
      refine z_top (y := lk (Option.map p none)) (rfl) ?_
      exact z_iret hx hb hr hlocks ⟨none, rfl, Or.inl ⟨rfl, fun j hj _ hq => by have := cnt_le (fun i => N d (p i)) v j; rw [nI_eq (by omega) (by omega)] at hq; omega⟩⟩ hS dX2_inThread_13

set_option maxHeartbeats 4000000 in
set_option maxRecDepth 100000 in
/-- Threads.threadsOn: how many different numbers -/
theorem c_threadsOn (l : Launch) (G : Gd) (a p : Nat → Nat) (N : Nat → Nat → Int32) (B F : Nat → Nat → Option Nat) (n : Nat) (d : Nat) (hd : d < 2) (hn : n ≤ 300) (hp : ∀ i, i < 300 → p i < 300) (hB : lnkB p (fun i => N d (p i)) (B d) n) : Mt l yX2_threadsOn wsX2_threadsOn 0 0 [.ref (a 0), .int (nI d)] G (cT G a p N B F n ++ []) (fun _ => False) (fun r _ => r = some (.int (nI (dis (fun i => N d (p i)) n)))) := by
  refine Mt.mk cX2_threadsOn 4 (some .int) (by decide) rfl (Nat.le_of_ble_eq_true rfl) ?_
  intro p9 e s m below meth c ls hx hb hr hml hts hown hlocks hP hK hl
  have hinX2 : ∀ w ∈ wsX20, w ∈ wsX2_threadsOn := by decide +kernel
  have hS : va_S (fun _ => False) s.heap s.heap [] := va_S.rf
  have hl : lv_has ls 4 [(0, .ref (a 0)), (1, .int (nI d))] := hl
  have hown : s.vm.findClass RX2 = some m.cls := hown
  refine lv_iconst (v := nI 0) hx hb dX2_threadsOn_0 rfl ?_
  refine lv_istore_n (lv' := [(2, .int (nI 0)), (0, .ref (a 0)), (1, .int (nI d))]) hx hb dX2_threadsOn_1 rfl hl (by decide) rfl (fun ls hl => ?_)
  refine lv_iconst (v := nI 0) hx hb dX2_threadsOn_2 rfl ?_
  refine lv_istore_n (lv' := [(3, .int (nI 0)), (2, .int (nI 0)), (0, .ref (a 0)), (1, .int (nI d))]) hx hb dX2_threadsOn_3 rfl hl (by decide) rfl (fun ls hl => ?_)
  have loop : ∀ (k9 : Nat) (i : Nat) (H : Heap) (locs : List Loc) (ls : Array Slot), n < i + k9 → i ≤ n → va_P G.1 vwCl (cT G a p N B F n ++ []) H → va_S (fun _ => False) s.heap H locs → lv_has ls 4 [(3, .int (nI i)), (2, .int (nI (dis (fun i => N d (p i)) i))), (0, .ref (a 0)), (1, .int (nI d))] → Wz p9 l e 0 0 s m [.ref (a 0), .int (nI d)] below meth c (fun _ => False) (fun r _ => r = some (.int (nI (dis (fun i => N d (p i)) n)))) H locs (F0 m 4 ls []) := by
    intro k9
    induction k9 with
    | zero =>
      intro i H locs ls hfuel hi hP hS hl
      exact absurd hfuel (by omega)
    | succ k9 ih =>
      intro i H locs ls hfuel hi hP hS hl
      refine lv_iload_n hx hb dX2_threadsOn_4 rfl (lv_at hl 0 rfl) ?_
      refine lv_aload_n hx hb dX2_threadsOn_5 rfl (lv_at hl 2 rfl) ?_
      refine va_get (D := G.1) (ci := 2) (v := .int (nI n)) (C := RX2) (T := TX2) (N := 5) hx hb hts hinX2 hown hK.1 hP 0 rfl rfl 4 (by decide) (hts (.fieldLink RX2 26 "PairThreads$Threads" "size" "I") (by decide +kernel)) (fun _ h9 => h9) rfl dX2_threadsOn_6 ?_
      refine z_icmp_ge (tgt := 38) hx hb (by omega) (by omega) dX2_threadsOn_9 (by decide) (fun hc1 => ?_) (fun hc1 => ?_)
      · refine lv_iload_n hx hb dX2_threadsOn_38 rfl (lv_at hl 1 rfl) ?_
        exact z_iret hx hb hr hlocks (by rw [show i = n by omega]) hS dX2_threadsOn_39
      · have hpi := hp i (by omega)
        obtain ⟨o, ho, hpr⟩ := hB i (by omega)
        refine lv_aload_n hx hb dX2_threadsOn_12 rfl (lv_at hl 2 rfl) ?_
        refine va_get (D := G.1) (ci := 2) (v := .ref (a 3)) (C := RX2) (T := TX2) (N := 5) hx hb hts hinX2 hown hK.1 hP 0 rfl rfl 2 (by decide) (hts (.fieldLink RX2 20 "PairThreads$Threads" "before" "[[I") (by decide +kernel)) (fun _ h9 => h9) rfl dX2_threadsOn_13 ?_
        refine lv_iload_n hx hb dX2_threadsOn_16 rfl (lv_at hl 3 rfl) ?_
        refine z_ald hx hb hK hP 3 rfl (j := d) (by omega) (by decide) dX2_threadsOn_17 ?_
        refine lv_aload_n hx hb dX2_threadsOn_18 rfl (lv_at hl 2 rfl) ?_
        refine va_get (D := G.1) (ci := 2) (v := .ref (a 1)) (C := RX2) (T := TX2) (N := 5) hx hb hts hinX2 hown hK.1 hP 0 rfl rfl 0 (by decide) (hts (.fieldLink RX2 9 "PairThreads$Threads" "order" "[I") (by decide +kernel)) (fun _ h9 => h9) rfl dX2_threadsOn_19 ?_
        refine lv_iload_n hx hb dX2_threadsOn_22 rfl (lv_at hl 0 rfl) ?_
        refine z_ialdN hx hb hK hP 1 rfl (j := i) (by omega) (by decide) dX2_threadsOn_23 ?_
        refine z_ialdO hx hb hK hP (7 + d) (cT_B hd) (j := p i) (by omega) (by decide) dX2_threadsOn_24 ?_
        refine z_top (y := lk (Option.map p o)) (congrArg lk ho) ?_
        refine lv_iconst (v := (-1)) hx hb dX2_threadsOn_25 rfl ?_
        refine z_none_ne (tgt := 32) hx hb (fun k hk => by have := mp_lt hp (show i ≤ 300 by omega) (prevR_lt hpr) hk; omega) dX2_threadsOn_26 (by decide) (fun k hc2 => ?_) (fun hc2 => ?_)
        · have he : dis (fun i => N d (p i)) (i + 1) = dis (fun i => N d (p i)) i := by rcases hpr with ⟨h1, -⟩ | ⟨j, h1, h2, h3, -⟩; rw [h1] at hc2; cases hc2; simp only [dis]; rw [if_neg (fun q => q j h2 h3)]; rfl
          refine z_iinc (lv' := [(3, .int (nI (i + 1))), (2, .int (nI (dis (fun i => N d (p i)) i))), (0, .ref (a 0)), (1, .int (nI d))]) hx hb dX2_threadsOn_32 hl (k := 0) rfl (by decide) rfl (fun ls hl => ?_)
          refine lv_goto (tgt := 4) hx hb dX2_threadsOn_35 (by decide) ?_
          rw [← he] at hl
          have hl : lv_has ls 4 [(3, .int (nI (i + 1))), (2, .int (nI (dis (fun i => N d (p i)) (i + 1)))), (0, .ref (a 0)), (1, .int (nI d))] := hl
          exact ih (i + 1) H locs ls (by omega) (by omega) hP hS (lv_sub hl [0, 1, 2, 3] rfl)
        · have he : dis (fun i => N d (p i)) (i + 1) = dis (fun i => N d (p i)) i + 1 := by rcases hpr with ⟨-, h1⟩ | ⟨j, h1, -⟩; simp only [dis]; rw [if_pos h1]; rw [h1] at hc2; cases hc2
          refine z_iinc (lv' := [(2, .int (nI (dis (fun i => N d (p i)) i + 1))), (3, .int (nI i)), (0, .ref (a 0)), (1, .int (nI d))]) hx hb dX2_threadsOn_29 hl (k := 1) rfl (by decide) rfl (fun ls hl => ?_)
          refine z_iinc (lv' := [(3, .int (nI (i + 1))), (2, .int (nI (dis (fun i => N d (p i)) i + 1))), (0, .ref (a 0)), (1, .int (nI d))]) hx hb dX2_threadsOn_32 hl (k := 1) rfl (by decide) rfl (fun ls hl => ?_)
          refine lv_goto (tgt := 4) hx hb dX2_threadsOn_35 (by decide) ?_
          rw [← he] at hl
          have hl : lv_has ls 4 [(3, .int (nI (i + 1))), (2, .int (nI (dis (fun i => N d (p i)) (i + 1)))), (0, .ref (a 0)), (1, .int (nI d))] := hl
          exact ih (i + 1) H locs ls (by omega) (by omega) hP hS (lv_sub hl [0, 1, 2, 3] rfl)
  exact loop (n + 1) 0 _ _ ls (by omega) (by omega) hP hS (lv_sub hl [0, 1, 2, 3] rfl)
