theorem dis_congr {K K' : Nat → Int32} {n : Nat} (h : ∀ i, i < n → K i = K' i) : dis K n = dis K' n := by
  induction n with
  | zero => rfl
  | succ n ih =>
    simp only [dis]
    rw [ih (fun i hi => h i (by omega))]
    by_cases z : ∀ j, j < n → ¬ K j = K n
    · rw [if_pos z, if_pos (fun j hj => by rw [← h j (by omega), ← h n (by omega)]; exact z j hj)]
    · rw [if_neg z, if_neg (fun y => z (fun j hj => by rw [h j (by omega), h n (by omega)]; exact y j hj))]
set_option maxHeartbeats 4000000 in
set_option maxRecDepth 100000 in
/-- part -/
theorem c_part (l : Launch) (G : Gd) (a p : Nat → Nat) (N : Nat → Nat → Int32) (B F : Nat → Nat → Option Nat) (q r : Nat → Nat) (V : Nat → Nat → Nat) (n0 : Nat) (Hd : Nat → Nat → Nat) (C : Nat → Nat → Option Nat) (w : Nat → Nat) (k0 : Nat) (cs : Nat → Option Nat) (sn : Nat → Nat) (L : List Pr) (hTI : TI p N B F L) (sx v : Int32) (hnd : (aA a).Nodup) : Mt l yX3_part wsX3_part 5 123 [.ref (a 27), .int (sx), .int (v)] G (cT G a p N B F L.length ++ (cS G a q r V n0 ++ (cM G a Hd C w k0 cs sn ++ cP a))) (fun q => q ∈ aA a) (fun x h => ∃ z : Nat, x = some (.int (nI z)) ∧ partR L sx v z ∧ cAL G a L h) := by
  refine Mt.mk cX3_part 3 (some .int) (by decide) rfl (Nat.le_of_ble_eq_true rfl) ?_
  intro p9 e s m below meth c ls hx hb hr hml hts hown hlocks hP hK hl
  have hinX3 : ∀ w ∈ wsX30, w ∈ wsX3_part := by decide +kernel
  have hS : va_S (fun q => q ∈ aA a) s.heap s.heap [] := va_S.rf
  have hl : lv_has ls 3 [(0, .ref (a 27)), (1, .int (sx)), (2, .int (v))] := hl
  have hown : s.vm.findClass RX3 = some m.cls := hown
  have hDD : ∀ ws : va_W, ws.map Prod.fst = aA a → va_D (fun q => q ∈ aA a) ws := D_of hnd (fun q h => h)
  refine lv_iload_n hx hb dX3_part_0 rfl (lv_at hl 1 rfl) ?_
  refine z_callS (rest := []) 1 ⟨hx, hb, hml, hown, hts⟩ hK (c_isSide3 l G sx) gX3_part_X3_isSide rfl (by decide +kernel) ⟨Nat.le_of_ble_eq_true rfl, Nat.le_of_ble_eq_true rfl⟩ P_nil rfl hl.1 rfl (Nat.le_of_ble_eq_true rfl) dX3_part_1 ⟨Nat.le_refl _, Nat.le_refl _⟩ hS (fun _ h => h.elim) (fun v9 H9 locs hR9 hk9 hS => ?_)
  obtain ⟨z, rfl, hz⟩ := hR9
  have hP := P_keep0 hP hk9
  clear hk9
  generalize H9 = H at hP hS ⊢
  refine W.eq (g2 := F0 m 4 ls [.int (nI z)]) rfl ?_
  rcases hz with ⟨rfl, hsd⟩ | ⟨rfl, d, hsd⟩
  · refine z_if_eq (tgt := 23) hx hb (by omega) dX3_part_4 (by decide) (fun hc1 => ?_) (fun hc1 => ?_)
    · refine lv_iconst (v := nI 0) hx hb dX3_part_23 rfl ?_
      exact z_iret hx hb hr hlocks ⟨0, rfl, by unfold partR; rw [hsd], ⟨p, N, B, F, q, r, V, n0, Hd, C, w, k0, cs, sn, hTI, hP⟩⟩ hS dX3_part_24
    · exact absurd hc1 (by decide)
  · refine z_if_eq (tgt := 23) hx hb (by omega) dX3_part_4 (by decide) (fun hc2 => ?_) (fun hc2 => ?_)
    · exact absurd hc2 (by decide)
    · obtain ⟨hd, hsx⟩ := sideOf_some hsd
      subst hsx
      refine lv_aload_n hx hb dX3_part_7 rfl (lv_at hl 0 rfl) ?_
      refine va_get (D := G.1) (ci := 3) (v := .ref (a 11)) (C := RX3) (T := TX3) (N := 3) hx hb hts hinX3 hown hK.1 hP 27 rfl rfl 1 (by decide) (hts (.fieldLink RX3 19 "PairThreads" "spread" "LPairThreads$Spread;") (by decide +kernel)) (fun _ h9 => h9) rfl dX3_part_8 ?_
      refine lv_aload_n hx hb dX3_part_11 rfl (lv_at hl 0 rfl) ?_
      refine va_get (D := G.1) (ci := 3) (v := .ref (a 0)) (C := RX3) (T := TX3) (N := 3) hx hb hts hinX3 hown hK.1 hP 27 rfl rfl 0 (by decide) (hts (.fieldLink RX3 10 "PairThreads" "pairs" "LPairThreads$Threads;") (by decide +kernel)) (fun _ h9 => h9) rfl dX3_part_12 ?_
      refine lv_iload_n hx hb dX3_part_15 rfl (lv_at hl 1 rfl) ?_
      refine lv_iload_n hx hb dX3_part_16 rfl (lv_at hl 2 rfl) ?_
      refine z_callV (rest := []) 3 ⟨hx, hb, hml, hown, hts⟩ hK (c_partOf l G a p N B F L hTI q r V n0 d v hd (aA_1 hnd)) gX3_part_X1_partOf rfl (by decide +kernel) ⟨Nat.le_of_ble_eq_true rfl, Nat.le_of_ble_eq_true rfl⟩ (hP.sub (ws' := cT G a p N B F L.length ++ cS G a q r V n0) [0, 1, 2, 3, 4, 5, 6, 7, 8, 9, 10, 11, 12, 13, 14, 15, 16] rfl) 11 rfl rfl rfl rfl hl.1 rfl (Nat.le_of_ble_eq_true rfl) dX3_part_17 ⟨Nat.le_refl _, Nat.le_refl _⟩ hS aTS_in (fun v9 H9 locs hR9 hk9 hS => ?_)
      obtain ⟨z, rfl, hz, q2, r2, V2, n2, hP1⟩ := hR9
      have hPk := P_keep (hP.sub (ws' := cM G a Hd C w k0 cs sn ++ cP a) [17, 18, 19, 20, 21, 22, 23, 24, 25, 26, 27] rfl) hk9 (aA_2 hnd)
      have hP := hP1.app hPk
      rw [List.append_assoc] at hP
      clear hk9
      generalize H9 = H at hP hS ⊢
      refine W.eq (g2 := F0 m 20 ls [.int (nI z)]) rfl ?_
      refine lv_goto (tgt := 24) hx hb dX3_part_20 (by decide) ?_
      exact z_iret hx hb hr hlocks ⟨z, rfl, by unfold partR; rw [hsd]; exact hz, ⟨p, N, B, F, q2, r2, V2, n2, Hd, C, w, k0, cs, sn, hTI, hP⟩⟩ hS dX3_part_24

set_option maxHeartbeats 4000000 in
set_option maxRecDepth 100000 in
/-- way -/
theorem c_way (l : Launch) (G : Gd) (a p : Nat → Nat) (N : Nat → Nat → Int32) (B F : Nat → Nat → Option Nat) (q r : Nat → Nat) (V : Nat → Nat → Nat) (n0 : Nat) (Hd : Nat → Nat → Nat) (C : Nat → Nat → Option Nat) (w : Nat → Nat) (k0 : Nat) (cs : Nat → Option Nat) (sn : Nat → Nat) (L : List Pr) (hTI : TI p N B F L) (sx v ox w9 : Int32) (hnd : (aA a).Nodup) : Mt l yX3_way wsX3_way 5 126 [.ref (a 27), .int (sx), .int (v), .int (ox), .int (w9)] G (cT G a p N B F L.length ++ (cS G a q r V n0 ++ (cM G a Hd C w k0 cs sn ++ cP a))) (fun q => q ∈ aA a) (fun x h => ∃ z : Nat, x = some (.int (nI z)) ∧ wayR L sx v ox w9 z ∧ cAL G a L h) := by
  refine Mt.mk cX3_way 5 (some .int) (by decide) rfl (Nat.le_of_ble_eq_true rfl) ?_
  intro p9 e s m below meth c ls hx hb hr hml hts hown hlocks hP hK hl
  have hinX3 : ∀ w ∈ wsX30, w ∈ wsX3_way := by decide +kernel
  have hS : va_S (fun q => q ∈ aA a) s.heap s.heap [] := va_S.rf
  have hl : lv_has ls 5 [(0, .ref (a 27)), (1, .int (sx)), (2, .int (v)), (3, .int (ox)), (4, .int (w9))] := hl
  have hown : s.vm.findClass RX3 = some m.cls := hown
  have hDD : ∀ ws : va_W, ws.map Prod.fst = aA a → va_D (fun q => q ∈ aA a) ws := D_of hnd (fun q h => h)
  refine lv_iload_n hx hb dX3_way_0 rfl (lv_at hl 1 rfl) ?_
  refine z_callS (rest := []) 1 ⟨hx, hb, hml, hown, hts⟩ hK (c_isSide3 l G sx) gX3_way_X3_isSide rfl (by decide +kernel) ⟨Nat.le_of_ble_eq_true rfl, Nat.le_of_ble_eq_true rfl⟩ P_nil rfl hl.1 rfl (Nat.le_of_ble_eq_true rfl) dX3_way_1 ⟨Nat.le_refl _, Nat.le_refl _⟩ hS (fun _ h => h.elim) (fun v9 H9 locs hR9 hk9 hS => ?_)
  obtain ⟨z, rfl, hz⟩ := hR9
  have hP := P_keep0 hP hk9
  clear hk9
  generalize H9 = H at hP hS ⊢
  refine W.eq (g2 := F0 m 4 ls [.int (nI z)]) rfl ?_
  rcases hz with ⟨rfl, hsd⟩ | ⟨rfl, d, hsd⟩
  · refine z_if_eq (tgt := 14) hx hb (by omega) dX3_way_4 (by decide) (fun hc1 => ?_) (fun hc1 => ?_)
    · refine lv_iconst (v := nI 0) hx hb dX3_way_14 rfl ?_
      exact z_iret hx hb hr hlocks ⟨0, rfl, by unfold wayR; rw [hsd], ⟨p, N, B, F, q, r, V, n0, Hd, C, w, k0, cs, sn, hTI, hP⟩⟩ hS dX3_way_15
    · exact absurd hc1 (by decide)
  · refine z_if_eq (tgt := 14) hx hb (by omega) dX3_way_4 (by decide) (fun hc2 => ?_) (fun hc2 => ?_)
    · exact absurd hc2 (by decide)
    · obtain ⟨hd, hsx⟩ := sideOf_some hsd
      subst hsx
      refine lv_iload_n hx hb dX3_way_7 rfl (lv_at hl 3 rfl) ?_
      refine z_callS (rest := []) 1 ⟨hx, hb, hml, hown, hts⟩ hK (c_isSide3 l G ox) gX3_way_X3_isSide rfl (by decide +kernel) ⟨Nat.le_of_ble_eq_true rfl, Nat.le_of_ble_eq_true rfl⟩ P_nil rfl hl.1 rfl (Nat.le_of_ble_eq_true rfl) dX3_way_8 ⟨Nat.le_refl _, Nat.le_refl _⟩ hS (fun _ h => h.elim) (fun v9 H9 locs hR9 hk9 hS => ?_)
      obtain ⟨z, rfl, hz⟩ := hR9
      have hP := P_keep0 hP hk9
      clear hk9
      generalize H9 = H at hP hS ⊢
      refine W.eq (g2 := F0 m 11 ls [.int (nI z)]) rfl ?_
      rcases hz with ⟨rfl, hso⟩ | ⟨rfl, o, hso⟩
      · refine z_if_ne (tgt := 16) hx hb (by omega) dX3_way_11 (by decide) (fun hc3 => ?_) (fun hc3 => ?_)
        · exact absurd hc3 (by decide)
        · refine lv_iconst (v := nI 0) hx hb dX3_way_14 rfl ?_
          exact z_iret hx hb hr hlocks ⟨0, rfl, by unfold wayR; rw [hsd, hso], ⟨p, N, B, F, q, r, V, n0, Hd, C, w, k0, cs, sn, hTI, hP⟩⟩ hS dX3_way_15
      · refine z_if_ne (tgt := 16) hx hb (by omega) dX3_way_11 (by decide) (fun hc4 => ?_) (fun hc4 => ?_)
        · obtain ⟨ho, hox⟩ := sideOf_some hso
          subst hox
          refine lv_aload_n hx hb dX3_way_16 rfl (lv_at hl 0 rfl) ?_
          refine va_get (D := G.1) (ci := 3) (v := .ref (a 11)) (C := RX3) (T := TX3) (N := 3) hx hb hts hinX3 hown hK.1 hP 27 rfl rfl 1 (by decide) (hts (.fieldLink RX3 19 "PairThreads" "spread" "LPairThreads$Spread;") (by decide +kernel)) (fun _ h9 => h9) rfl dX3_way_17 ?_
          refine lv_aload_n hx hb dX3_way_20 rfl (lv_at hl 0 rfl) ?_
          refine va_get (D := G.1) (ci := 3) (v := .ref (a 0)) (C := RX3) (T := TX3) (N := 3) hx hb hts hinX3 hown hK.1 hP 27 rfl rfl 0 (by decide) (hts (.fieldLink RX3 10 "PairThreads" "pairs" "LPairThreads$Threads;") (by decide +kernel)) (fun _ h9 => h9) rfl dX3_way_21 ?_
          refine lv_iload_n hx hb dX3_way_24 rfl (lv_at hl 1 rfl) ?_
          refine lv_iload_n hx hb dX3_way_25 rfl (lv_at hl 2 rfl) ?_
          refine lv_iload_n hx hb dX3_way_26 rfl (lv_at hl 3 rfl) ?_
          refine lv_iload hx hb dX3_way_27 (lv_at hl 4 rfl) ?_
          refine z_callV (rest := []) 5 ⟨hx, hb, hml, hown, hts⟩ hK (c_leastRow l G a p N B F L hTI q r V n0 d v o w9 hd ho (aA_1 hnd)) gX3_way_X1_leastRow rfl (by decide +kernel) ⟨Nat.le_of_ble_eq_true rfl, Nat.le_of_ble_eq_true rfl⟩ (hP.sub (ws' := cT G a p N B F L.length ++ cS G a q r V n0) [0, 1, 2, 3, 4, 5, 6, 7, 8, 9, 10, 11, 12, 13, 14, 15, 16] rfl) 11 rfl rfl rfl rfl hl.1 rfl (Nat.le_of_ble_eq_true rfl) dX3_way_29 ⟨Nat.le_refl _, Nat.le_refl _⟩ hS aTS_in (fun v9 H9 locs hR9 hk9 hS => ?_)
          obtain ⟨z, rfl, hz, q2, r2, V2, n2, hP1⟩ := hR9
          have hPk := P_keep (hP.sub (ws' := cM G a Hd C w k0 cs sn ++ cP a) [17, 18, 19, 20, 21, 22, 23, 24, 25, 26, 27] rfl) hk9 (aA_2 hnd)
          have hP := hP1.app hPk
          rw [List.append_assoc] at hP
          clear hk9
          generalize H9 = H at hP hS ⊢
          refine W.eq (g2 := F0 m 32 ls [.int (nI z)]) rfl ?_
          exact z_iret hx hb hr hlocks ⟨z, rfl, by unfold wayR; rw [hsd, hso]; exact hz, ⟨p, N, B, F, q2, r2, V2, n2, Hd, C, w, k0, cs, sn, hTI, hP⟩⟩ hS dX3_way_32
        · exact absurd hc4 (by decide)

set_option maxHeartbeats 4000000 in
set_option maxRecDepth 100000 in
/-- count -/
theorem c_count (l : Launch) (G : Gd) (a p : Nat → Nat) (N : Nat → Nat → Int32) (B F : Nat → Nat → Option Nat) (q r : Nat → Nat) (V : Nat → Nat → Nat) (n0 : Nat) (Hd : Nat → Nat → Nat) (C : Nat → Nat → Option Nat) (w : Nat → Nat) (k0 : Nat) (cs : Nat → Option Nat) (sn : Nat → Nat) (L : List Pr) (hTI : TI p N B F L) (w9 : Int32) (hnd : (aA a).Nodup) : Mt l yX3_count wsX3_count 4 100 [.ref (a 27), .int (w9)] G (cT G a p N B F L.length ++ (cS G a q r V n0 ++ (cM G a Hd C w k0 cs sn ++ cP a))) (fun q => q ∈ aA a) (fun x h => ∃ z : Int32, x = some (.int z) ∧ countR L w9 z ∧ cAL G a L h) := by
  refine Mt.mk cX3_count 2 (some .int) (by decide) rfl (Nat.le_of_ble_eq_true rfl) ?_
  intro p9 e s m below meth c ls hx hb hr hml hts hown hlocks hP hK hl
  have hinX2 : ∀ w ∈ wsX20, w ∈ wsX3_count := by decide +kernel
  have hinX3 : ∀ w ∈ wsX30, w ∈ wsX3_count := by decide +kernel
  have hS : va_S (fun q => q ∈ aA a) s.heap s.heap [] := va_S.rf
  have hl : lv_has ls 2 [(0, .ref (a 27)), (1, .int (w9))] := hl
  have hown : s.vm.findClass RX3 = some m.cls := hown
  have hDD : ∀ ws : va_W, ws.map Prod.fst = aA a → va_D (fun q => q ∈ aA a) ws := D_of hnd (fun q h => h)
  obtain ⟨hp, hinj, hn, hk, hlk⟩ := id hTI
  refine lv_iload_n hx hb dX3_count_0 rfl (lv_at hl 1 rfl) ?_
  by_cases hw0 : w9 = nI 0
  · subst hw0
    refine lv_tableIn (tgt := 36) hx hb dX3_count_1 (by decide) (by decide) (off := 35) (by decide) (by decide) ?_
    refine lv_aload_n hx hb dX3_count_36 rfl (lv_at hl 0 rfl) ?_
    refine va_get (D := G.1) (ci := 3) (v := .ref (a 0)) (C := RX3) (T := TX3) (N := 3) hx hb hts hinX3 hown hK.1 hP 27 rfl rfl 0 (by decide) (hts (.fieldLink RX3 10 "PairThreads" "pairs" "LPairThreads$Threads;") (by decide +kernel)) (fun _ h9 => h9) rfl dX3_count_37 ?_
    refine va_getN (D := G.1) (host := "PairThreads") (ci := 2) (v := .int (nI L.length)) (C := RX2) (T := TX2) (N := 5) hx hb hts hinX2 hown hK.1 hP 0 rfl rfl 4 (by decide) hK.2.nlX3_size (fun _ h9 => h9) rfl dX3_count_40 ?_
    exact z_iret hx hb hr hlocks ⟨_, rfl, co0 rfl, ⟨p, N, B, F, q, r, V, n0, Hd, C, w, k0, cs, sn, hTI, hP⟩⟩ hS dX3_count_43
  · by_cases hw1 : w9 = nI 1
    · subst hw1
      refine lv_tableIn (tgt := 44) hx hb dX3_count_1 (by decide) (by decide) (off := 43) (by decide) (by decide) ?_
      refine lv_aload_n hx hb dX3_count_44 rfl (lv_at hl 0 rfl) ?_
      refine va_get (D := G.1) (ci := 3) (v := .ref (a 0)) (C := RX3) (T := TX3) (N := 3) hx hb hts hinX3 hown hK.1 hP 27 rfl rfl 0 (by decide) (hts (.fieldLink RX3 10 "PairThreads" "pairs" "LPairThreads$Threads;") (by decide +kernel)) (fun _ h9 => h9) rfl dX3_count_45 ?_
      refine lv_iconst (v := nI 0) hx hb dX3_count_48 rfl ?_
      refine z_callV (rest := []) 1 ⟨hx, hb, hml, hown, hts⟩ hK (c_threadsOn l G a p N B F L.length 0 (by omega) hn hp (hlk 0 (by omega)).1) gX3_count_X2_threadsOn rfl (by decide +kernel) ⟨Nat.le_of_ble_eq_true rfl, Nat.le_of_ble_eq_true rfl⟩ (hP.sub (ws' := cT G a p N B F L.length ++ []) [0, 1, 2, 3, 4, 5, 6, 7, 8, 9, 10] rfl) 0 rfl rfl rfl rfl hl.1 rfl (Nat.le_of_ble_eq_true rfl) dX3_count_49 ⟨Nat.le_refl _, Nat.le_refl _⟩ hS (fun _ h => h.elim) (fun v9 H9 locs hR9 hk9 hS => ?_)
      obtain rfl := hR9
      have hP := P_keep0 hP hk9
      clear hk9
      generalize H9 = H at hP hS ⊢
      refine W.eq (g2 := F0 m 52 ls [.int (nI (dis (fun i => N 0 (p i)) L.length))]) rfl ?_
      exact z_iret hx hb hr hlocks ⟨_, rfl, co1 (congrArg nI (dis_congr (fun i hi => hk 0 i (by omega) hi))), ⟨p, N, B, F, q, r, V, n0, Hd, C, w, k0, cs, sn, hTI, hP⟩⟩ hS dX3_count_52
    · by_cases hw2 : w9 = nI 2
      · subst hw2
        refine lv_tableIn (tgt := 53) hx hb dX3_count_1 (by decide) (by decide) (off := 52) (by decide) (by decide) ?_
        refine lv_aload_n hx hb dX3_count_53 rfl (lv_at hl 0 rfl) ?_
        refine va_get (D := G.1) (ci := 3) (v := .ref (a 0)) (C := RX3) (T := TX3) (N := 3) hx hb hts hinX3 hown hK.1 hP 27 rfl rfl 0 (by decide) (hts (.fieldLink RX3 10 "PairThreads" "pairs" "LPairThreads$Threads;") (by decide +kernel)) (fun _ h9 => h9) rfl dX3_count_54 ?_
        refine lv_iconst (v := nI 1) hx hb dX3_count_57 rfl ?_
        refine z_callV (rest := []) 1 ⟨hx, hb, hml, hown, hts⟩ hK (c_threadsOn l G a p N B F L.length 1 (by omega) hn hp (hlk 1 (by omega)).1) gX3_count_X2_threadsOn rfl (by decide +kernel) ⟨Nat.le_of_ble_eq_true rfl, Nat.le_of_ble_eq_true rfl⟩ (hP.sub (ws' := cT G a p N B F L.length ++ []) [0, 1, 2, 3, 4, 5, 6, 7, 8, 9, 10] rfl) 0 rfl rfl rfl rfl hl.1 rfl (Nat.le_of_ble_eq_true rfl) dX3_count_58 ⟨Nat.le_refl _, Nat.le_refl _⟩ hS (fun _ h => h.elim) (fun v9 H9 locs hR9 hk9 hS => ?_)
        obtain rfl := hR9
        have hP := P_keep0 hP hk9
        clear hk9
        generalize H9 = H at hP hS ⊢
        refine W.eq (g2 := F0 m 61 ls [.int (nI (dis (fun i => N 1 (p i)) L.length))]) rfl ?_
        exact z_iret hx hb hr hlocks ⟨_, rfl, co2 (congrArg nI (dis_congr (fun i hi => hk 1 i (by omega) hi))), ⟨p, N, B, F, q, r, V, n0, Hd, C, w, k0, cs, sn, hTI, hP⟩⟩ hS dX3_count_61
      · by_cases hw3 : w9 = nI 3
        · subst hw3
          refine lv_tableIn (tgt := 62) hx hb dX3_count_1 (by decide) (by decide) (off := 61) (by decide) (by decide) ?_
          refine lv_aload_n hx hb dX3_count_62 rfl (lv_at hl 0 rfl) ?_
          refine va_get (D := G.1) (ci := 3) (v := .ref (a 17)) (C := RX3) (T := TX3) (N := 3) hx hb hts hinX3 hown hK.1 hP 27 rfl rfl 2 (by decide) (hts (.fieldLink RX3 26 "PairThreads" "matching" "LPairThreads$Matching;") (by decide +kernel)) (fun _ h9 => h9) rfl dX3_count_63 ?_
          refine lv_aload_n hx hb dX3_count_66 rfl (lv_at hl 0 rfl) ?_
          refine va_get (D := G.1) (ci := 3) (v := .ref (a 0)) (C := RX3) (T := TX3) (N := 3) hx hb hts hinX3 hown hK.1 hP 27 rfl rfl 0 (by decide) (hts (.fieldLink RX3 10 "PairThreads" "pairs" "LPairThreads$Threads;") (by decide +kernel)) (fun _ h9 => h9) rfl dX3_count_67 ?_
          refine z_callV (rest := []) 1 ⟨hx, hb, hml, hown, hts⟩ hK (c_largest l G a p N B F L hTI Hd C w k0 cs sn (aA_3 hnd)) gX3_count_X0_largest rfl (by decide +kernel) ⟨Nat.le_of_ble_eq_true rfl, Nat.le_of_ble_eq_true rfl⟩ (hP.sub (ws' := cT G a p N B F L.length ++ cM G a Hd C w k0 cs sn) [0, 1, 2, 3, 4, 5, 6, 7, 8, 9, 10, 17, 18, 19, 20, 21, 22, 23, 24, 25, 26] rfl) 11 rfl rfl rfl rfl hl.1 rfl (Nat.le_of_ble_eq_true rfl) dX3_count_70 ⟨Nat.le_refl _, Nat.le_refl _⟩ hS aTM_in (fun v9 H9 locs hR9 hk9 hS => ?_)
          obtain ⟨z, rfl, hz, H2, C2, w2, n2, cs2, sn2, hP1⟩ := hR9
          have hPk := P_keep (hP.sub (ws' := cS G a q r V n0 ++ cP a) [11, 12, 13, 14, 15, 16, 27] rfl) hk9 (aA_4 hnd)
          have hP := (hP1.app hPk).sub (ws' := cT G a p N B F L.length ++ (cS G a q r V n0 ++ (cM G a H2 C2 w2 n2 cs2 sn2 ++ cP a))) [0, 1, 2, 3, 4, 5, 6, 7, 8, 9, 10, 21, 22, 23, 24, 25, 26, 11, 12, 13, 14, 15, 16, 17, 18, 19, 20, 27] rfl
          clear hk9
          generalize H9 = H at hP hS ⊢
          refine W.eq (g2 := F0 m 73 ls [.int (nI z)]) rfl ?_
          exact z_iret hx hb hr hlocks ⟨_, rfl, co3 ⟨z, hz, rfl⟩, ⟨p, N, B, F, q, r, V, n0, H2, C2, w2, n2, cs2, sn2, hTI, hP⟩⟩ hS dX3_count_73
        · by_cases hw4 : w9 = nI 4
          · subst hw4
            refine lv_tableIn (tgt := 74) hx hb dX3_count_1 (by decide) (by decide) (off := 73) (by decide) (by decide) ?_
            refine lv_aload_n hx hb dX3_count_74 rfl (lv_at hl 0 rfl) ?_
            refine va_get (D := G.1) (ci := 3) (v := .ref (a 11)) (C := RX3) (T := TX3) (N := 3) hx hb hts hinX3 hown hK.1 hP 27 rfl rfl 1 (by decide) (hts (.fieldLink RX3 19 "PairThreads" "spread" "LPairThreads$Spread;") (by decide +kernel)) (fun _ h9 => h9) rfl dX3_count_75 ?_
            refine lv_aload_n hx hb dX3_count_78 rfl (lv_at hl 0 rfl) ?_
            refine va_get (D := G.1) (ci := 3) (v := .ref (a 0)) (C := RX3) (T := TX3) (N := 3) hx hb hts hinX3 hown hK.1 hP 27 rfl rfl 0 (by decide) (hts (.fieldLink RX3 10 "PairThreads" "pairs" "LPairThreads$Threads;") (by decide +kernel)) (fun _ h9 => h9) rfl dX3_count_79 ?_
            refine z_callV (rest := []) 1 ⟨hx, hb, hml, hown, hts⟩ hK (c_allParts l G a p N B F L hTI q r V n0 (aA_1 hnd)) gX3_count_X1_allParts rfl (by decide +kernel) ⟨Nat.le_of_ble_eq_true rfl, Nat.le_of_ble_eq_true rfl⟩ (hP.sub (ws' := cT G a p N B F L.length ++ cS G a q r V n0) [0, 1, 2, 3, 4, 5, 6, 7, 8, 9, 10, 11, 12, 13, 14, 15, 16] rfl) 11 rfl rfl rfl rfl hl.1 rfl (Nat.le_of_ble_eq_true rfl) dX3_count_82 ⟨Nat.le_refl _, Nat.le_refl _⟩ hS aTS_in (fun v9 H9 locs hR9 hk9 hS => ?_)
            obtain ⟨rfl, q2, r2, V2, n2, hP1⟩ := hR9
            have hPk := P_keep (hP.sub (ws' := cM G a Hd C w k0 cs sn ++ cP a) [17, 18, 19, 20, 21, 22, 23, 24, 25, 26, 27] rfl) hk9 (aA_2 hnd)
            have hP := hP1.app hPk
            rw [List.append_assoc] at hP
            clear hk9
            generalize H9 = H at hP hS ⊢
            refine W.eq (g2 := F0 m 85 ls [.int (nI (pcn (tch L) L.length L.length))]) rfl ?_
            exact z_iret hx hb hr hlocks ⟨_, rfl, co4 rfl, ⟨p, N, B, F, q2, r2, V2, n2, Hd, C, w, k0, cs, sn, hTI, hP⟩⟩ hS dX3_count_85
          · refine lv_tableOut (tgt := 86) hx hb dX3_count_1 (sw_out hw0 hw1 hw2 hw3 hw4) (by decide) ?_
            refine lv_iconst (v := (-1)) hx hb dX3_count_86 rfl ?_
            exact z_iret hx hb hr hlocks ⟨_, rfl, co5 hw0 hw1 hw2 hw3 hw4 rfl, ⟨p, N, B, F, q, r, V, n0, Hd, C, w, k0, cs, sn, hTI, hP⟩⟩ hS dX3_count_87
