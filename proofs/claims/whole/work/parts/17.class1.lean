set_option maxHeartbeats 4000000 in
set_option maxRecDepth 100000 in
/-- place -/
theorem c_place (l : Launch) (G : Gd) (a p : Nat → Nat) (N : Nat → Nat → Int32) (B F : Nat → Nat → Option Nat) (L : List Pr) (hTI : TI p N B F L) (x y : Int32) : Mt l yX3_place wsX3_place 1 24 [.ref (a 27), .int (x), .int (y)] G (cT G a p N B F L.length ++ cP a) (fun _ => False) (fun r _ => ∃ o : Option Nat, r = some (.int (lk o)) ∧ posR L x y o) := by
  refine Mt.mk cX3_place 3 (some .int) (by decide) rfl (Nat.le_of_ble_eq_true rfl) ?_
  intro p9 e s m below meth c ls hx hb hr hml hts hown hlocks hP hK hl
  have hinX3 : ∀ w ∈ wsX30, w ∈ wsX3_place := by decide +kernel
  have hS : va_S (fun _ => False) s.heap s.heap [] := va_S.rf
  have hl : lv_has ls 3 [(0, .ref (a 27)), (1, .int (x)), (2, .int (y))] := hl
  have hown : s.vm.findClass RX3 = some m.cls := hown
  obtain ⟨hp, hinj, hn, hk, hlk⟩ := id hTI
  refine lv_aload_n hx hb dX3_place_0 rfl (lv_at hl 0 rfl) ?_
  refine va_get (D := G.1) (ci := 3) (v := .ref (a 0)) (C := RX3) (T := TX3) (N := 3) hx hb hts hinX3 hown hK.1 hP 11 rfl rfl 0 (by decide) (hts (.fieldLink RX3 10 "PairThreads" "pairs" "LPairThreads$Threads;") (by decide +kernel)) (fun _ h9 => h9) rfl dX3_place_1 ?_
  refine lv_iload_n hx hb dX3_place_4 rfl (lv_at hl 1 rfl) ?_
  refine lv_iload_n hx hb dX3_place_5 rfl (lv_at hl 2 rfl) ?_
  refine z_callV (rest := []) 2 ⟨hx, hb, hml, hown, hts⟩ hK (c_placeOf l G a p N B F L.length x y hn hp) gX3_place_X2_placeOf rfl (by decide +kernel) ⟨Nat.le_of_ble_eq_true rfl, Nat.le_of_ble_eq_true rfl⟩ (hP.sub (ws' := cT G a p N B F L.length ++ []) [0, 1, 2, 3, 4, 5, 6, 7, 8, 9, 10] rfl) 0 rfl rfl rfl rfl hl.1 rfl (Nat.le_of_ble_eq_true rfl) dX3_place_6 ⟨Nat.le_refl _, Nat.le_refl _⟩ hS (fun _ h => h.elim) (fun v9 H9 locs hR9 hk9 hS => ?_)
  obtain ⟨o, rfl, ho⟩ := hR9
  have hP := P_keep0 hP hk9
  clear hk9
  generalize H9 = H at hP hS ⊢
  refine W.eq (g2 := F0 m 9 ls [.int (lk o)]) rfl ?_
  exact z_iret hx hb hr hlocks ⟨o, rfl, placeR_pos (fun i hi => hk 0 i (by omega) hi) (fun i hi => hk 1 i (by omega) hi) ho⟩ hS dX3_place_9

set_option maxHeartbeats 4000000 in
set_option maxRecDepth 100000 in
/-- link -/
theorem c_link (l : Launch) (G : Gd) (a p : Nat → Nat) (N : Nat → Nat → Int32) (B F : Nat → Nat → Option Nat) (L : List Pr) (hTI : TI p N B F L) (x y : Int32) (hnd : (aP a).Nodup) : Mt l yX3_link wsX3_link 3 70 [.ref (a 27), .int (x), .int (y)] G (cT G a p N B F L.length ++ cP a) (fun q => q ∈ aP a) (fun r h => r = some (.int (linkA L x y)) ∧ cPL G a (linkL L x y) h) := by
  refine Mt.mk cX3_link 3 (some .int) (by decide) rfl (Nat.le_of_ble_eq_true rfl) ?_
  intro p9 e s m below meth c ls hx hb hr hml hts hown hlocks hP hK hl
  have hinX2 : ∀ w ∈ wsX20, w ∈ wsX3_link := by decide +kernel
  have hinX3 : ∀ w ∈ wsX30, w ∈ wsX3_link := by decide +kernel
  have hS : va_S (fun q => q ∈ aP a) s.heap s.heap [] := va_S.rf
  have hl : lv_has ls 3 [(0, .ref (a 27)), (1, .int (x)), (2, .int (y))] := hl
  have hown : s.vm.findClass RX3 = some m.cls := hown
  have hDD : ∀ ws : va_W, ws.map Prod.fst = aP a → va_D (fun q => q ∈ aP a) ws := D_of hnd (fun q h => h)
  obtain ⟨hp, hinj, hn, hk, hlk⟩ := id hTI
  refine lv_aload_n hx hb dX3_link_0 rfl (lv_at hl 0 rfl) ?_
  refine va_get (D := G.1) (ci := 3) (v := .ref (a 0)) (C := RX3) (T := TX3) (N := 3) hx hb hts hinX3 hown hK.1 hP 11 rfl rfl 0 (by decide) (hts (.fieldLink RX3 10 "PairThreads" "pairs" "LPairThreads$Threads;") (by decide +kernel)) (fun _ h9 => h9) rfl dX3_link_1 ?_
  refine lv_iload_n hx hb dX3_link_4 rfl (lv_at hl 1 rfl) ?_
  refine lv_iload_n hx hb dX3_link_5 rfl (lv_at hl 2 rfl) ?_
  refine z_callV (rest := []) 2 ⟨hx, hb, hml, hown, hts⟩ hK (c_placeOf l G a p N B F L.length x y hn hp) gX3_link_X2_placeOf rfl (by decide +kernel) ⟨Nat.le_of_ble_eq_true rfl, Nat.le_of_ble_eq_true rfl⟩ (hP.sub (ws' := cT G a p N B F L.length ++ []) [0, 1, 2, 3, 4, 5, 6, 7, 8, 9, 10] rfl) 0 rfl rfl rfl rfl hl.1 rfl (Nat.le_of_ble_eq_true rfl) dX3_link_6 ⟨Nat.le_refl _, Nat.le_refl _⟩ hS (fun _ h => h.elim) (fun v9 H9 locs hR9 hk9 hS => ?_)
  obtain ⟨o, rfl, ho⟩ := hR9
  have hP := P_keep0 hP hk9
  clear hk9
  generalize H9 = H at hP hS ⊢
  refine W.eq (g2 := F0 m 9 ls [.int (lk o)]) rfl ?_
  have ho := placeR_pos (fun i hi => hk 0 i (by omega) hi) (fun i hi => hk 1 i (by omega) hi) ho
  refine lv_iconst (v := (-1)) hx hb dX3_link_9 rfl ?_
  refine z_none_eq (tgt := 15) hx hb (fun k hk => by have := posR_lt ho k hk; omega) dX3_link_10 (by decide) (fun hc1 => ?_) (fun k hc1 => ?_)
  · have hm := (posR_none ho).mp hc1
    refine lv_aload_n hx hb dX3_link_15 rfl (lv_at hl 0 rfl) ?_
    refine va_get (D := G.1) (ci := 3) (v := .ref (a 0)) (C := RX3) (T := TX3) (N := 3) hx hb hts hinX3 hown hK.1 hP 11 rfl rfl 0 (by decide) (hts (.fieldLink RX3 10 "PairThreads" "pairs" "LPairThreads$Threads;") (by decide +kernel)) (fun _ h9 => h9) rfl dX3_link_16 ?_
    refine va_getN (D := G.1) (host := "PairThreads") (ci := 2) (v := .int (nI L.length)) (C := RX2) (T := TX2) (N := 5) hx hb hts hinX2 hown hK.1 hP 0 rfl rfl 4 (by decide) hK.2.nlX3_size (fun _ h9 => h9) rfl dX3_link_19 ?_
    refine lv_sipush (v := nI 300) hx hb dX3_link_22 (by decide) ?_
    refine z_icmp_lt (tgt := 31) hx hb (by omega) (by omega) dX3_link_25 (by decide) (fun hc2 => ?_) (fun hc2 => ?_)
    · refine lv_aload_n hx hb dX3_link_31 rfl (lv_at hl 0 rfl) ?_
      refine va_get (D := G.1) (ci := 3) (v := .ref (a 0)) (C := RX3) (T := TX3) (N := 3) hx hb hts hinX3 hown hK.1 hP 11 rfl rfl 0 (by decide) (hts (.fieldLink RX3 10 "PairThreads" "pairs" "LPairThreads$Threads;") (by decide +kernel)) (fun _ h9 => h9) rfl dX3_link_32 ?_
      refine lv_iload_n hx hb dX3_link_35 rfl (lv_at hl 1 rfl) ?_
      refine lv_iload_n hx hb dX3_link_36 rfl (lv_at hl 2 rfl) ?_
      refine z_callV (rest := []) 2 ⟨hx, hb, hml, hown, hts⟩ hK (c_append l G a p N B F L hTI x y (by omega) (aP_T hnd)) gX3_link_X2_append rfl (by decide +kernel) ⟨Nat.le_of_ble_eq_true rfl, Nat.le_of_ble_eq_true rfl⟩ (hP.sub (ws' := cT G a p N B F L.length ++ []) [0, 1, 2, 3, 4, 5, 6, 7, 8, 9, 10] rfl) 0 rfl rfl rfl rfl hl.1 rfl (Nat.le_of_ble_eq_true rfl) dX3_link_37 ⟨Nat.le_refl _, Nat.le_refl _⟩ hS (fun q h => List.mem_append_left _ h) (fun v9 H9 locs hR9 hk9 hS => ?_)
      obtain ⟨rfl, p2, N2, B2, F2, hTI2, hP1⟩ := hR9
      have hPk := P_keep (hP.sub (ws' := cP a) [11] rfl) hk9 (aP_sep hnd)
      have hP := hP1.app hPk
      clear hk9
      generalize H9 = H at hP hS ⊢
      refine W.eq (g2 := F0 m 40 ls []) rfl ?_
      have hP : va_P G.1 vwCl (cT G a p2 N2 B2 F2 ((L ++ [(x, y)]).length) ++ cP a) H := hP
      refine lv_aload_n hx hb dX3_link_40 rfl (lv_at hl 0 rfl) ?_
      refine va_get (D := G.1) (ci := 3) (v := .ref (a 0)) (C := RX3) (T := TX3) (N := 3) hx hb hts hinX3 hown hK.1 hP 11 rfl rfl 0 (by decide) (hts (.fieldLink RX3 10 "PairThreads" "pairs" "LPairThreads$Threads;") (by decide +kernel)) (fun _ h9 => h9) rfl dX3_link_41 ?_
      refine va_getN (D := G.1) (host := "PairThreads") (ci := 2) (v := .int (nI ((L ++ [(x, y)]).length))) (C := RX2) (T := TX2) (N := 5) hx hb hts hinX2 hown hK.1 hP 0 rfl rfl 4 (by decide) hK.2.nlX3_size (fun _ h9 => h9) rfl dX3_link_44 ?_
      exact z_iret hx hb hr hlocks ⟨by unfold linkA; rw [if_neg hm, if_neg (by omega)]; simp, p2, N2, B2, F2, by unfold linkL; rw [if_neg hm, if_neg (by omega)]; exact ⟨hTI2, hP⟩⟩ hS dX3_link_47
    · refine lv_bipush (v := (-2)) hx hb dX3_link_28 (by decide) ?_
      exact z_iret hx hb hr hlocks ⟨by unfold linkA; rw [if_neg hm, if_pos (by omega)], p, N, B, F, by unfold linkL; rw [if_neg hm, if_pos (by omega)]; exact ⟨hTI, hP⟩⟩ hS dX3_link_30
  · have hm : (x, y) ∈ L := Decidable.byContradiction (fun z => by rw [(posR_none ho).mpr z] at hc1; cases hc1)
    refine lv_iconst (v := (-1)) hx hb dX3_link_13 rfl ?_
    exact z_iret hx hb hr hlocks ⟨by unfold linkA; rw [if_pos hm], p, N, B, F, by unfold linkL; rw [if_pos hm]; exact ⟨hTI, hP⟩⟩ hS dX3_link_14

set_option maxHeartbeats 4000000 in
set_option maxRecDepth 100000 in
/-- unlink -/
theorem c_unlink (l : Launch) (G : Gd) (a p : Nat → Nat) (N : Nat → Nat → Int32) (B F : Nat → Nat → Option Nat) (L : List Pr) (hTI : TI p N B F L) (x y : Int32) (hnd : (aP a).Nodup) : Mt l yX3_unlink wsX3_unlink 2 46 [.ref (a 27), .int (x), .int (y)] G (cT G a p N B F L.length ++ cP a) (fun q => q ∈ aP a) (fun r h => ∃ o : Option Nat, posR L x y o ∧ r = some (.int (unlA L o)) ∧ cPL G a (unlL L o) h) := by
  refine Mt.mk cX3_unlink 4 (some .int) (by decide) rfl (Nat.le_of_ble_eq_true rfl) ?_
  intro p9 e s m below meth c ls hx hb hr hml hts hown hlocks hP hK hl
  have hinX2 : ∀ w ∈ wsX20, w ∈ wsX3_unlink := by decide +kernel
  have hinX3 : ∀ w ∈ wsX30, w ∈ wsX3_unlink := by decide +kernel
  have hS : va_S (fun q => q ∈ aP a) s.heap s.heap [] := va_S.rf
  have hl : lv_has ls 4 [(0, .ref (a 27)), (1, .int (x)), (2, .int (y))] := hl
  have hown : s.vm.findClass RX3 = some m.cls := hown
  have hDD : ∀ ws : va_W, ws.map Prod.fst = aP a → va_D (fun q => q ∈ aP a) ws := D_of hnd (fun q h => h)
  obtain ⟨hp, hinj, hn, hk, hlk⟩ := id hTI
  refine lv_aload_n hx hb dX3_unlink_0 rfl (lv_at hl 0 rfl) ?_
  refine va_get (D := G.1) (ci := 3) (v := .ref (a 0)) (C := RX3) (T := TX3) (N := 3) hx hb hts hinX3 hown hK.1 hP 11 rfl rfl 0 (by decide) (hts (.fieldLink RX3 10 "PairThreads" "pairs" "LPairThreads$Threads;") (by decide +kernel)) (fun _ h9 => h9) rfl dX3_unlink_1 ?_
  refine lv_iload_n hx hb dX3_unlink_4 rfl (lv_at hl 1 rfl) ?_
  refine lv_iload_n hx hb dX3_unlink_5 rfl (lv_at hl 2 rfl) ?_
  refine z_callV (rest := []) 2 ⟨hx, hb, hml, hown, hts⟩ hK (c_placeOf l G a p N B F L.length x y hn hp) gX3_unlink_X2_placeOf rfl (by decide +kernel) ⟨Nat.le_of_ble_eq_true rfl, Nat.le_of_ble_eq_true rfl⟩ (hP.sub (ws' := cT G a p N B F L.length ++ []) [0, 1, 2, 3, 4, 5, 6, 7, 8, 9, 10] rfl) 0 rfl rfl rfl rfl hl.1 rfl (Nat.le_of_ble_eq_true rfl) dX3_unlink_6 ⟨Nat.le_refl _, Nat.le_refl _⟩ hS (fun _ h => h.elim) (fun v9 H9 locs hR9 hk9 hS => ?_)
  obtain ⟨o, rfl, ho⟩ := hR9
  have hP := P_keep0 hP hk9
  clear hk9
  generalize H9 = H at hP hS ⊢
  refine W.eq (g2 := F0 m 9 ls [.int (lk o)]) rfl ?_
  have ho := placeR_pos (fun i hi => hk 0 i (by omega) hi) (fun i hi => hk 1 i (by omega) hi) ho
  refine lv_istore_n (lv' := [(3, .int (lk o)), (0, .ref (a 27)), (1, .int (x)), (2, .int (y))]) hx hb dX3_unlink_9 rfl hl (by decide) rfl (fun ls hl => ?_)
  refine lv_iload_n hx hb dX3_unlink_10 rfl (lv_at hl 0 rfl) ?_
  refine lv_iconst (v := (-1)) hx hb dX3_unlink_11 rfl ?_
  refine z_none_ne (tgt := 17) hx hb (fun k hk => by have := posR_lt ho k hk; omega) dX3_unlink_12 (by decide) (fun k hc1 => ?_) (fun hc1 => ?_)
  · subst hc1
    have hl : lv_has ls 4 [(3, .int (nI k)), (0, .ref (a 27)), (1, .int (x)), (2, .int (y))] := hl
    have hkl := posR_lt ho k rfl
    refine lv_aload_n hx hb dX3_unlink_17 rfl (lv_at hl 1 rfl) ?_
    refine va_get (D := G.1) (ci := 3) (v := .ref (a 0)) (C := RX3) (T := TX3) (N := 3) hx hb hts hinX3 hown hK.1 hP 11 rfl rfl 0 (by decide) (hts (.fieldLink RX3 10 "PairThreads" "pairs" "LPairThreads$Threads;") (by decide +kernel)) (fun _ h9 => h9) rfl dX3_unlink_18 ?_
    refine lv_iload_n hx hb dX3_unlink_21 rfl (lv_at hl 0 rfl) ?_
    refine z_callV (rest := []) 1 ⟨hx, hb, hml, hown, hts⟩ hK (c_takeOut l G a p N B F L hTI k hkl (aP_T hnd)) gX3_unlink_X2_takeOut rfl (by decide +kernel) ⟨Nat.le_of_ble_eq_true rfl, Nat.le_of_ble_eq_true rfl⟩ (hP.sub (ws' := cT G a p N B F L.length ++ []) [0, 1, 2, 3, 4, 5, 6, 7, 8, 9, 10] rfl) 0 rfl rfl rfl rfl hl.1 rfl (Nat.le_of_ble_eq_true rfl) dX3_unlink_22 ⟨Nat.le_refl _, Nat.le_refl _⟩ hS (fun q h => List.mem_append_left _ h) (fun v9 H9 locs hR9 hk9 hS => ?_)
    obtain ⟨rfl, p2, N2, B2, F2, hTI2, hP1⟩ := hR9
    have hPk := P_keep (hP.sub (ws' := cP a) [11] rfl) hk9 (aP_sep hnd)
    have hP := hP1.app hPk
    clear hk9
    generalize H9 = H at hP hS ⊢
    refine W.eq (g2 := F0 m 25 ls []) rfl ?_
    have hP : va_P G.1 vwCl (cT G a p2 N2 B2 F2 ((L.eraseIdx k).length) ++ cP a) H := hP
    refine lv_aload_n hx hb dX3_unlink_25 rfl (lv_at hl 1 rfl) ?_
    refine va_get (D := G.1) (ci := 3) (v := .ref (a 0)) (C := RX3) (T := TX3) (N := 3) hx hb hts hinX3 hown hK.1 hP 11 rfl rfl 0 (by decide) (hts (.fieldLink RX3 10 "PairThreads" "pairs" "LPairThreads$Threads;") (by decide +kernel)) (fun _ h9 => h9) rfl dX3_unlink_26 ?_
    refine va_getN (D := G.1) (host := "PairThreads") (ci := 2) (v := .int (nI ((L.eraseIdx k).length))) (C := RX2) (T := TX2) (N := 5) hx hb hts hinX2 hown hK.1 hP 0 rfl rfl 4 (by decide) hK.2.nlX3_size (fun _ h9 => h9) rfl dX3_unlink_29 ?_
    exact z_iret hx hb hr hlocks ⟨some k, ho, by rw [List.length_eraseIdx_of_lt hkl]; rfl, p2, N2, B2, F2, hTI2, hP⟩ hS dX3_unlink_32
  · subst hc1
    refine lv_iconst (v := (-1)) hx hb dX3_unlink_15 rfl ?_
    exact z_iret hx hb hr hlocks ⟨none, ho, rfl, p, N, B, F, hTI, hP⟩ hS dX3_unlink_16

set_option maxHeartbeats 4000000 in
set_option maxRecDepth 100000 in
/-- degree -/
theorem c_degree (l : Launch) (G : Gd) (a p : Nat → Nat) (N : Nat → Nat → Int32) (B F : Nat → Nat → Option Nat) (L : List Pr) (hTI : TI p N B F L) (sx v : Int32) : Mt l yX3_degree wsX3_degree 2 48 [.ref (a 27), .int (sx), .int (v)] G (cT G a p N B F L.length ++ cP a) (fun _ => False) (fun r _ => r = some (.int (degA L sx v))) := by
  refine Mt.mk cX3_degree 3 (some .int) (by decide) rfl (Nat.le_of_ble_eq_true rfl) ?_
  intro p9 e s m below meth c ls hx hb hr hml hts hown hlocks hP hK hl
  have hinX3 : ∀ w ∈ wsX30, w ∈ wsX3_degree := by decide +kernel
  have hS : va_S (fun _ => False) s.heap s.heap [] := va_S.rf
  have hl : lv_has ls 3 [(0, .ref (a 27)), (1, .int (sx)), (2, .int (v))] := hl
  have hown : s.vm.findClass RX3 = some m.cls := hown
  obtain ⟨hp, hinj, hn, hk, hlk⟩ := id hTI
  refine lv_iload_n hx hb dX3_degree_0 rfl (lv_at hl 1 rfl) ?_
  refine z_callS (rest := []) 1 ⟨hx, hb, hml, hown, hts⟩ hK (c_isSide3 l G sx) gX3_degree_X3_isSide rfl (by decide +kernel) ⟨Nat.le_of_ble_eq_true rfl, Nat.le_of_ble_eq_true rfl⟩ P_nil rfl hl.1 rfl (Nat.le_of_ble_eq_true rfl) dX3_degree_1 ⟨Nat.le_refl _, Nat.le_refl _⟩ hS (fun _ h => h.elim) (fun v9 H9 locs hR9 hk9 hS => ?_)
  obtain ⟨z, rfl, hz⟩ := hR9
  have hP := P_keep0 hP hk9
  clear hk9
  generalize H9 = H at hP hS ⊢
  refine W.eq (g2 := F0 m 4 ls [.int (nI z)]) rfl ?_
  rcases hz with ⟨rfl, hsd⟩ | ⟨rfl, d, hsd⟩
  · refine z_if_eq (tgt := 19) hx hb (by omega) dX3_degree_4 (by decide) (fun hc1 => ?_) (fun hc1 => ?_)
    · refine lv_iconst (v := (-1)) hx hb dX3_degree_19 rfl ?_
      exact z_iret hx hb hr hlocks (by unfold degA; rw [hsd]) hS dX3_degree_20
    · exact absurd hc1 (by decide)
  · refine z_if_eq (tgt := 19) hx hb (by omega) dX3_degree_4 (by decide) (fun hc2 => ?_) (fun hc2 => ?_)
    · exact absurd hc2 (by decide)
    · obtain ⟨hd, hsx⟩ := sideOf_some hsd
      subst hsx
      refine lv_aload_n hx hb dX3_degree_7 rfl (lv_at hl 0 rfl) ?_
      refine va_get (D := G.1) (ci := 3) (v := .ref (a 0)) (C := RX3) (T := TX3) (N := 3) hx hb hts hinX3 hown hK.1 hP 11 rfl rfl 0 (by decide) (hts (.fieldLink RX3 10 "PairThreads" "pairs" "LPairThreads$Threads;") (by decide +kernel)) (fun _ h9 => h9) rfl dX3_degree_8 ?_
      refine lv_iload_n hx hb dX3_degree_11 rfl (lv_at hl 1 rfl) ?_
      refine lv_iload_n hx hb dX3_degree_12 rfl (lv_at hl 2 rfl) ?_
      refine z_callV (rest := []) 2 ⟨hx, hb, hml, hown, hts⟩ hK (c_lengthOf l G a p N B F L.length d v hd hn hp (hlk d hd).2) gX3_degree_X2_lengthOf rfl (by decide +kernel) ⟨Nat.le_of_ble_eq_true rfl, Nat.le_of_ble_eq_true rfl⟩ (hP.sub (ws' := cT G a p N B F L.length ++ []) [0, 1, 2, 3, 4, 5, 6, 7, 8, 9, 10] rfl) 0 rfl rfl rfl rfl hl.1 rfl (Nat.le_of_ble_eq_true rfl) dX3_degree_13 ⟨Nat.le_refl _, Nat.le_refl _⟩ hS (fun _ h => h.elim) (fun v9 H9 locs hR9 hk9 hS => ?_)
      obtain rfl := hR9
      have hP := P_keep0 hP hk9
      clear hk9
      generalize H9 = H at hP hS ⊢
      refine W.eq (g2 := F0 m 16 ls [.int (nI (cnt (fun i => N d (p i)) v L.length))]) rfl ?_
      refine lv_goto (tgt := 20) hx hb dX3_degree_16 (by decide) ?_
      exact z_iret hx hb hr hlocks (by unfold degA; rw [hsd, cntK (fun i hi => hk d i hd hi)]) hS dX3_degree_20

set_option maxHeartbeats 4000000 in
set_option maxRecDepth 100000 in
/-- other -/
theorem c_other (l : Launch) (G : Gd) (a p : Nat → Nat) (N : Nat → Nat → Int32) (B F : Nat → Nat → Option Nat) (L : List Pr) (hTI : TI p N B F L) (sx v x : Int32) : Mt l yX3_other wsX3_other 2 48 [.ref (a 27), .int (sx), .int (v), .int (x)] G (cT G a p N B F L.length ++ cP a) (fun _ => False) (fun r _ => ∃ z : Int32, r = some (.int z) ∧ otherR L sx v x z) := by
  refine Mt.mk cX3_other 5 (some .int) (by decide) rfl (Nat.le_of_ble_eq_true rfl) ?_
  intro p9 e s m below meth c ls hx hb hr hml hts hown hlocks hP hK hl
  have hinX2 : ∀ w ∈ wsX20, w ∈ wsX3_other := by decide +kernel
  have hinX3 : ∀ w ∈ wsX30, w ∈ wsX3_other := by decide +kernel
  have hS : va_S (fun _ => False) s.heap s.heap [] := va_S.rf
  have hl : lv_has ls 5 [(0, .ref (a 27)), (1, .int (sx)), (2, .int (v)), (3, .int (x))] := hl
  have hown : s.vm.findClass RX3 = some m.cls := hown
  obtain ⟨hp, hinj, hn, hk, hlk⟩ := id hTI
  refine lv_iload_n hx hb dX3_other_0 rfl (lv_at hl 1 rfl) ?_
  refine z_callS (rest := []) 1 ⟨hx, hb, hml, hown, hts⟩ hK (c_isSide3 l G sx) gX3_other_X3_isSide rfl (by decide +kernel) ⟨Nat.le_of_ble_eq_true rfl, Nat.le_of_ble_eq_true rfl⟩ P_nil rfl hl.1 rfl (Nat.le_of_ble_eq_true rfl) dX3_other_1 ⟨Nat.le_refl _, Nat.le_refl _⟩ hS (fun _ h => h.elim) (fun v9 H9 locs hR9 hk9 hS => ?_)
  obtain ⟨z, rfl, hz⟩ := hR9
  have hP := P_keep0 hP hk9
  clear hk9
  generalize H9 = H at hP hS ⊢
  refine W.eq (g2 := F0 m 4 ls [.int (nI z)]) rfl ?_
  rcases hz with ⟨rfl, hsd⟩ | ⟨rfl, d, hsd⟩
  · refine z_if_ne (tgt := 9) hx hb (by omega) dX3_other_4 (by decide) (fun hc1 => ?_) (fun hc1 => ?_)
    · exact absurd hc1 (by decide)
    · refine lv_iconst (v := nI 0) hx hb dX3_other_7 rfl ?_
      exact z_iret hx hb hr hlocks ⟨nI 0, rfl, by unfold otherR; rw [hsd]⟩ hS dX3_other_8
  · refine z_if_ne (tgt := 9) hx hb (by omega) dX3_other_4 (by decide) (fun hc2 => ?_) (fun hc2 => ?_)
    · obtain ⟨hd, hsx⟩ := sideOf_some hsd
      subst hsx
      refine lv_aload_n hx hb dX3_other_9 rfl (lv_at hl 0 rfl) ?_
      refine va_get (D := G.1) (ci := 3) (v := .ref (a 0)) (C := RX3) (T := TX3) (N := 3) hx hb hts hinX3 hown hK.1 hP 11 rfl rfl 0 (by decide) (hts (.fieldLink RX3 10 "PairThreads" "pairs" "LPairThreads$Threads;") (by decide +kernel)) (fun _ h9 => h9) rfl dX3_other_10 ?_
      refine lv_iload_n hx hb dX3_other_13 rfl (lv_at hl 1 rfl) ?_
      refine lv_iload_n hx hb dX3_other_14 rfl (lv_at hl 2 rfl) ?_
      refine lv_iload_n hx hb dX3_other_15 rfl (lv_at hl 3 rfl) ?_
      refine z_callV (rest := []) 3 ⟨hx, hb, hml, hown, hts⟩ hK (c_inThread l G a p N B F L.length d v x hd hn hp (hlk d hd).2) gX3_other_X2_inThread rfl (by decide +kernel) ⟨Nat.le_of_ble_eq_true rfl, Nat.le_of_ble_eq_true rfl⟩ (hP.sub (ws' := cT G a p N B F L.length ++ []) [0, 1, 2, 3, 4, 5, 6, 7, 8, 9, 10] rfl) 0 rfl rfl rfl rfl hl.1 rfl (Nat.le_of_ble_eq_true rfl) dX3_other_16 ⟨Nat.le_refl _, Nat.le_refl _⟩ hS (fun _ h => h.elim) (fun v9 H9 locs hR9 hk9 hS => ?_)
      obtain ⟨o, rfl, ho⟩ := hR9
      have hP := P_keep0 hP hk9
      clear hk9
      generalize H9 = H at hP hS ⊢
      refine W.eq (g2 := F0 m 19 ls [.int (lk (Option.map p o))]) rfl ?_
      have hoL : ∀ j, o = some j → j < L.length := fun j hj => by rcases ho with ⟨e1, -⟩ | ⟨i, e1, h1, -⟩; rw [e1] at hj; cases hj; rw [e1] at hj; cases hj; exact h1
      have ho := nthR_to (fun i hi => hk d i hd hi) ho
      refine lv_istore (lv' := [(4, .int (lk (Option.map p o))), (0, .ref (a 27)), (1, .int (nI d)), (2, .int (v)), (3, .int (x))]) hx hb dX3_other_19 hl (by decide) rfl (fun ls hl => ?_)
      refine lv_iload hx hb dX3_other_21 (lv_at hl 0 rfl) ?_
      refine lv_iconst (v := (-1)) hx hb dX3_other_23 rfl ?_
      refine z_none_ne (tgt := 31) hx hb (fun k hk => by have := mp_lt hp hn hoL hk; omega) dX3_other_24 (by decide) (fun k hc3 => ?_) (fun hc3 => ?_)
      · obtain ⟨j, hoj, hjk⟩ := Option.map_eq_some_iff.mp hc3
        subst hoj
        clear hjk
        have hl : lv_has ls 5 [(4, .int (nI (p j))), (0, .ref (a 27)), (1, .int (nI d)), (2, .int (v)), (3, .int (x))] := hl
        have hjl := hoL j rfl
        have hpj := hp j (by omega)
        have h1d : 1 - d < 2 := by omega
        refine lv_aload_n hx hb dX3_other_31 rfl (lv_at hl 1 rfl) ?_
        refine va_get (D := G.1) (ci := 3) (v := .ref (a 0)) (C := RX3) (T := TX3) (N := 3) hx hb hts hinX3 hown hK.1 hP 11 rfl rfl 0 (by decide) (hts (.fieldLink RX3 10 "PairThreads" "pairs" "LPairThreads$Threads;") (by decide +kernel)) (fun _ h9 => h9) rfl dX3_other_32 ?_
        refine va_getN (D := G.1) (host := "PairThreads") (ci := 2) (v := .ref (a 2)) (C := RX2) (T := TX2) (N := 5) hx hb hts hinX2 hown hK.1 hP 0 rfl rfl 1 (by decide) hK.2.nlX3_number (fun _ h9 => h9) rfl dX3_other_35 ?_
        refine lv_iconst (v := nI 1) hx hb dX3_other_38 rfl ?_
        refine lv_iload_n hx hb dX3_other_39 rfl (lv_at hl 2 rfl) ?_
        refine lv_isub hx hb dX3_other_40 ?_
        refine z_top (y := nI (1 - d)) (pk_sub (by omega)) ?_
        refine z_ald hx hb hK hP 2 rfl (j := 1 - d) (by omega) (by decide) dX3_other_41 ?_
        refine lv_iload hx hb dX3_other_42 (lv_at hl 0 rfl) ?_
        refine z_iald hx hb hK hP (5 + (1 - d)) (cT_N h1d) (j := p j) (by omega) (by decide) dX3_other_44 ?_
        exact z_iret hx hb hr hlocks ⟨_, rfl, by unfold otherR; rw [hsd]; exact ⟨some j, ho, hk (1 - d) j h1d hjl⟩⟩ hS dX3_other_45
      · have hon : o = none := by cases o with | none => rfl | some j => cases hc3
        subst hon
        refine lv_iconst (v := nI 0) hx hb dX3_other_27 rfl ?_
        refine lv_goto (tgt := 45) hx hb dX3_other_28 (by decide) ?_
        exact z_iret hx hb hr hlocks ⟨nI 0, rfl, by unfold otherR; rw [hsd]; exact ⟨none, ho, rfl⟩⟩ hS dX3_other_45
    · exact absurd hc2 (by decide)

set_option maxHeartbeats 4000000 in
set_option maxRecDepth 100000 in
/-- drop -/
theorem c_drop (l : Launch) (G : Gd) (a p : Nat → Nat) (N : Nat → Nat → Int32) (B F : Nat → Nat → Option Nat) (L : List Pr) (hTI : TI p N B F L) (sx v : Int32) (hnd : (aP a).Nodup) : Mt l yX3_drop wsX3_drop 3 70 [.ref (a 27), .int (sx), .int (v)] G (cT G a p N B F L.length ++ cP a) (fun q => q ∈ aP a) (fun r h => r = some (.int (degA L sx v)) ∧ cPL G a (dropL L sx v) h) := by
  refine Mt.mk cX3_drop 3 (some .int) (by decide) rfl (Nat.le_of_ble_eq_true rfl) ?_
  intro p9 e s m below meth c ls hx hb hr hml hts hown hlocks hP hK hl
  have hinX3 : ∀ w ∈ wsX30, w ∈ wsX3_drop := by decide +kernel
  have hS : va_S (fun q => q ∈ aP a) s.heap s.heap [] := va_S.rf
  have hl : lv_has ls 3 [(0, .ref (a 27)), (1, .int (sx)), (2, .int (v))] := hl
  have hown : s.vm.findClass RX3 = some m.cls := hown
  have hDD : ∀ ws : va_W, ws.map Prod.fst = aP a → va_D (fun q => q ∈ aP a) ws := D_of hnd (fun q h => h)
  obtain ⟨hp, hinj, hn, hk, hlk⟩ := id hTI
  refine lv_iload_n hx hb dX3_drop_0 rfl (lv_at hl 1 rfl) ?_
  refine z_callS (rest := []) 1 ⟨hx, hb, hml, hown, hts⟩ hK (c_isSide3 l G sx) gX3_drop_X3_isSide rfl (by decide +kernel) ⟨Nat.le_of_ble_eq_true rfl, Nat.le_of_ble_eq_true rfl⟩ P_nil rfl hl.1 rfl (Nat.le_of_ble_eq_true rfl) dX3_drop_1 ⟨Nat.le_refl _, Nat.le_refl _⟩ hS (fun _ h => h.elim) (fun v9 H9 locs hR9 hk9 hS => ?_)
  obtain ⟨z, rfl, hz⟩ := hR9
  have hP := P_keep0 hP hk9
  clear hk9
  generalize H9 = H at hP hS ⊢
  refine W.eq (g2 := F0 m 4 ls [.int (nI z)]) rfl ?_
  rcases hz with ⟨rfl, hsd⟩ | ⟨rfl, d, hsd⟩
  · refine z_if_eq (tgt := 19) hx hb (by omega) dX3_drop_4 (by decide) (fun hc1 => ?_) (fun hc1 => ?_)
    · refine lv_iconst (v := (-1)) hx hb dX3_drop_19 rfl ?_
      exact z_iret hx hb hr hlocks ⟨by unfold degA; rw [hsd], p, N, B, F, by unfold dropL; rw [hsd]; exact ⟨hTI, hP⟩⟩ hS dX3_drop_20
    · exact absurd hc1 (by decide)
  · refine z_if_eq (tgt := 19) hx hb (by omega) dX3_drop_4 (by decide) (fun hc2 => ?_) (fun hc2 => ?_)
    · exact absurd hc2 (by decide)
    · obtain ⟨hd, hsx⟩ := sideOf_some hsd
      subst hsx
      refine lv_aload_n hx hb dX3_drop_7 rfl (lv_at hl 0 rfl) ?_
      refine va_get (D := G.1) (ci := 3) (v := .ref (a 0)) (C := RX3) (T := TX3) (N := 3) hx hb hts hinX3 hown hK.1 hP 11 rfl rfl 0 (by decide) (hts (.fieldLink RX3 10 "PairThreads" "pairs" "LPairThreads$Threads;") (by decide +kernel)) (fun _ h9 => h9) rfl dX3_drop_8 ?_
      refine lv_iload_n hx hb dX3_drop_11 rfl (lv_at hl 1 rfl) ?_
      refine lv_iload_n hx hb dX3_drop_12 rfl (lv_at hl 2 rfl) ?_
      refine z_callV (rest := []) 2 ⟨hx, hb, hml, hown, hts⟩ hK (c_takeOutAll l G a p N B F L hTI d v hd (aP_T hnd)) gX3_drop_X2_takeOutAll rfl (by decide +kernel) ⟨Nat.le_of_ble_eq_true rfl, Nat.le_of_ble_eq_true rfl⟩ (hP.sub (ws' := cT G a p N B F L.length ++ []) [0, 1, 2, 3, 4, 5, 6, 7, 8, 9, 10] rfl) 0 rfl rfl rfl rfl hl.1 rfl (Nat.le_of_ble_eq_true rfl) dX3_drop_13 ⟨Nat.le_refl _, Nat.le_refl _⟩ hS (fun q h => List.mem_append_left _ h) (fun v9 H9 locs hR9 hk9 hS => ?_)
      obtain ⟨rfl, p2, N2, B2, F2, hTI2, hP1⟩ := hR9
      have hPk := P_keep (hP.sub (ws' := cP a) [11] rfl) hk9 (aP_sep hnd)
      have hP := hP1.app hPk
      clear hk9
      generalize H9 = H at hP hS ⊢
      refine W.eq (g2 := F0 m 16 ls [.int (nI (cnt (key d L) v L.length))]) rfl ?_
      have hP : va_P G.1 vwCl (cT G a p2 N2 B2 F2 ((wo d v L).length) ++ cP a) H := hP
      refine lv_goto (tgt := 20) hx hb dX3_drop_16 (by decide) ?_
      exact z_iret hx hb hr hlocks ⟨by unfold degA; rw [hsd], p2, N2, B2, F2, by unfold dropL; rw [hsd]; exact ⟨hTI2, hP⟩⟩ hS dX3_drop_20

set_option maxHeartbeats 4000000 in
set_option maxRecDepth 100000 in
/-- rename -/
theorem c_rename (l : Launch) (G : Gd) (a p : Nat → Nat) (N : Nat → Nat → Int32) (B F : Nat → Nat → Option Nat) (L : List Pr) (hTI : TI p N B F L) (sx v to : Int32) (hnd : (aP a).Nodup) : Mt l yX3_rename wsX3_rename 4 100 [.ref (a 27), .int (sx), .int (v), .int (to)] G (cT G a p N B F L.length ++ cP a) (fun q => q ∈ aP a) (fun r h => r = some (.int (renA L sx v to)) ∧ cPL G a (renL L sx v to) h) := by
  refine Mt.mk cX3_rename 4 (some .int) (by decide) rfl (Nat.le_of_ble_eq_true rfl) ?_
  intro p9 e s m below meth c ls hx hb hr hml hts hown hlocks hP hK hl
  have hinX3 : ∀ w ∈ wsX30, w ∈ wsX3_rename := by decide +kernel
  have hS : va_S (fun q => q ∈ aP a) s.heap s.heap [] := va_S.rf
  have hl : lv_has ls 4 [(0, .ref (a 27)), (1, .int (sx)), (2, .int (v)), (3, .int (to))] := hl
  have hown : s.vm.findClass RX3 = some m.cls := hown
  have hDD : ∀ ws : va_W, ws.map Prod.fst = aP a → va_D (fun q => q ∈ aP a) ws := D_of hnd (fun q h => h)
  obtain ⟨hp, hinj, hn, hk, hlk⟩ := id hTI
  refine lv_iload_n hx hb dX3_rename_0 rfl (lv_at hl 1 rfl) ?_
  refine z_callS (rest := []) 1 ⟨hx, hb, hml, hown, hts⟩ hK (c_isSide3 l G sx) gX3_rename_X3_isSide rfl (by decide +kernel) ⟨Nat.le_of_ble_eq_true rfl, Nat.le_of_ble_eq_true rfl⟩ P_nil rfl hl.1 rfl (Nat.le_of_ble_eq_true rfl) dX3_rename_1 ⟨Nat.le_refl _, Nat.le_refl _⟩ hS (fun _ h => h.elim) (fun v9 H9 locs hR9 hk9 hS => ?_)
  obtain ⟨z, rfl, hz⟩ := hR9
  have hP := P_keep0 hP hk9
  clear hk9
  generalize H9 = H at hP hS ⊢
  refine W.eq (g2 := F0 m 4 ls [.int (nI z)]) rfl ?_
  rcases hz with ⟨rfl, hsd⟩ | ⟨rfl, d, hsd⟩
  · refine z_if_eq (tgt := 25) hx hb (by omega) dX3_rename_4 (by decide) (fun hc1 => ?_) (fun hc1 => ?_)
    · refine lv_iconst (v := (-1)) hx hb dX3_rename_25 rfl ?_
      exact z_iret hx hb hr hlocks ⟨by unfold renA; rw [hsd], p, N, B, F, by unfold renL; rw [hsd]; exact ⟨hTI, hP⟩⟩ hS dX3_rename_26
    · exact absurd hc1 (by decide)
  · refine z_if_eq (tgt := 25) hx hb (by omega) dX3_rename_4 (by decide) (fun hc2 => ?_) (fun hc2 => ?_)
    · exact absurd hc2 (by decide)
    · obtain ⟨hd, hsx⟩ := sideOf_some hsd
      subst hsx
      refine lv_iload_n hx hb dX3_rename_7 rfl (lv_at hl 2 rfl) ?_
      refine lv_iload_n hx hb dX3_rename_8 rfl (lv_at hl 3 rfl) ?_
      refine lv_icmp_eq (tgt := 25) hx hb dX3_rename_9 (by decide) (fun hc3 => ?_) (fun hc3 => ?_)
      · refine lv_iconst (v := (-1)) hx hb dX3_rename_25 rfl ?_
        exact z_iret hx hb hr hlocks ⟨by unfold renA; rw [hsd]; exact (congrArg (fun z => some (Value.int z)) (if_pos hc3)).symm, p, N, B, F, by unfold renL; rw [hsd]; dsimp only; rw [if_pos hc3]; exact ⟨hTI, hP⟩⟩ hS dX3_rename_26
      · refine lv_aload_n hx hb dX3_rename_12 rfl (lv_at hl 0 rfl) ?_
        refine va_get (D := G.1) (ci := 3) (v := .ref (a 0)) (C := RX3) (T := TX3) (N := 3) hx hb hts hinX3 hown hK.1 hP 11 rfl rfl 0 (by decide) (hts (.fieldLink RX3 10 "PairThreads" "pairs" "LPairThreads$Threads;") (by decide +kernel)) (fun _ h9 => h9) rfl dX3_rename_13 ?_
        refine lv_iload_n hx hb dX3_rename_16 rfl (lv_at hl 1 rfl) ?_
        refine lv_iload_n hx hb dX3_rename_17 rfl (lv_at hl 2 rfl) ?_
        refine lv_iload_n hx hb dX3_rename_18 rfl (lv_at hl 3 rfl) ?_
        refine z_callV (rest := []) 3 ⟨hx, hb, hml, hown, hts⟩ hK (c_moveAll l G a p N B F L hTI d v to hd (fun z => hc3 z.symm) (aP_T hnd)) gX3_rename_X2_moveAll rfl (by decide +kernel) ⟨Nat.le_of_ble_eq_true rfl, Nat.le_of_ble_eq_true rfl⟩ (hP.sub (ws' := cT G a p N B F L.length ++ []) [0, 1, 2, 3, 4, 5, 6, 7, 8, 9, 10] rfl) 0 rfl rfl rfl rfl hl.1 rfl (Nat.le_of_ble_eq_true rfl) dX3_rename_19 ⟨Nat.le_refl _, Nat.le_refl _⟩ hS (fun q h => List.mem_append_left _ h) (fun v9 H9 locs hR9 hk9 hS => ?_)
        obtain ⟨rfl, p2, N2, B2, F2, hTI2, hP1⟩ := hR9
        have hPk := P_keep (hP.sub (ws' := cP a) [11] rfl) hk9 (aP_sep hnd)
        have hP := hP1.app hPk
        clear hk9
        generalize H9 = H at hP hS ⊢
        refine W.eq (g2 := F0 m 22 ls [.int (nI ((ren d v to (wo d v L) L).2))]) rfl ?_
        have hP : va_P G.1 vwCl (cT G a p2 N2 B2 F2 ((wo d v L ++ (ren d v to (wo d v L) L).1).length) ++ cP a) H := hP
        refine lv_goto (tgt := 26) hx hb dX3_rename_22 (by decide) ?_
        exact z_iret hx hb hr hlocks ⟨by unfold renA; rw [hsd]; exact (congrArg (fun z => some (Value.int z)) (if_neg hc3)).symm, p2, N2, B2, F2, by unfold renL; rw [hsd]; dsimp only; rw [if_neg hc3]; exact ⟨hTI2, hP⟩⟩ hS dX3_rename_26

set_option maxHeartbeats 4000000 in
set_option maxRecDepth 100000 in
/-- at -/
theorem c_at (l : Launch) (G : Gd) (a p : Nat → Nat) (N : Nat → Nat → Int32) (B F : Nat → Nat → Option Nat) (L : List Pr) (hTI : TI p N B F L) (px sx : Int32) : Mt l yX3_at wsX3_at 1 22 [.ref (a 27), .int (px), .int (sx)] G (cT G a p N B F L.length ++ cP a) (fun _ => False) (fun r _ => r = some (.int (atA L px sx))) := by
  refine Mt.mk cX3_at 3 (some .int) (by decide) rfl (Nat.le_of_ble_eq_true rfl) ?_
  intro p9 e s m below meth c ls hx hb hr hml hts hown hlocks hP hK hl
  have hinX2 : ∀ w ∈ wsX20, w ∈ wsX3_at := by decide +kernel
  have hinX3 : ∀ w ∈ wsX30, w ∈ wsX3_at := by decide +kernel
  have hS : va_S (fun _ => False) s.heap s.heap [] := va_S.rf
  have hl : lv_has ls 3 [(0, .ref (a 27)), (1, .int (px)), (2, .int (sx))] := hl
  have hown : s.vm.findClass RX3 = some m.cls := hown
  obtain ⟨hp, hinj, hn, hk, hlk⟩ := id hTI
  refine lv_iload_n hx hb dX3_at_0 rfl (lv_at hl 2 rfl) ?_
  refine z_callS (rest := []) 1 ⟨hx, hb, hml, hown, hts⟩ hK (c_isSide3 l G sx) gX3_at_X3_isSide rfl (by decide +kernel) ⟨Nat.le_of_ble_eq_true rfl, Nat.le_of_ble_eq_true rfl⟩ P_nil rfl hl.1 rfl (Nat.le_of_ble_eq_true rfl) dX3_at_1 ⟨Nat.le_refl _, Nat.le_refl _⟩ hS (fun _ h => h.elim) (fun v9 H9 locs hR9 hk9 hS => ?_)
  obtain ⟨z, rfl, hz⟩ := hR9
  have hP := P_keep0 hP hk9
  clear hk9
  generalize H9 = H at hP hS ⊢
  refine W.eq (g2 := F0 m 4 ls [.int (nI z)]) rfl ?_
  rcases hz with ⟨rfl, hsd⟩ | ⟨rfl, d, hsd⟩
  · refine z_if_eq (tgt := 22) hx hb (by omega) dX3_at_4 (by decide) (fun hc1 => ?_) (fun hc1 => ?_)
    · refine lv_iconst (v := nI 0) hx hb dX3_at_22 rfl ?_
      exact z_iret hx hb hr hlocks (by unfold atA; rw [hsd]) hS dX3_at_23
    · exact absurd hc1 (by decide)
  · refine z_if_eq (tgt := 22) hx hb (by omega) dX3_at_4 (by decide) (fun hc2 => ?_) (fun hc2 => ?_)
    · exact absurd hc2 (by decide)
    · obtain ⟨hd, hsx⟩ := sideOf_some hsd
      subst hsx
      refine lv_iload_n hx hb dX3_at_7 rfl (lv_at hl 1 rfl) ?_
      refine lv_if_lt (tgt := 22) hx hb dX3_at_8 (by decide) (fun hc3 => ?_) (fun hc3 => ?_)
      · refine lv_iconst (v := nI 0) hx hb dX3_at_22 rfl ?_
        have hng : ¬ (0 ≤ px.toInt ∧ px.toInt < L.length) := fun z => by have h1 := Int32.lt_iff_toInt_lt.mp hc3; have h2 : (0 : Int32).toInt = 0 := rfl; omega
        exact z_iret hx hb hr hlocks (by unfold atA; rw [hsd]; exact (congrArg (fun z => some (Value.int z)) (if_neg hng)).symm) hS dX3_at_23
      · obtain ⟨x0, hx0, hxe⟩ := nI_of hc3
        subst hxe
        have hti := nI_toInt hx0
        refine lv_iload_n hx hb dX3_at_11 rfl (lv_at hl 1 rfl) ?_
        refine lv_aload_n hx hb dX3_at_12 rfl (lv_at hl 0 rfl) ?_
        refine va_get (D := G.1) (ci := 3) (v := .ref (a 0)) (C := RX3) (T := TX3) (N := 3) hx hb hts hinX3 hown hK.1 hP 11 rfl rfl 0 (by decide) (hts (.fieldLink RX3 10 "PairThreads" "pairs" "LPairThreads$Threads;") (by decide +kernel)) (fun _ h9 => h9) rfl dX3_at_13 ?_
        refine va_getN (D := G.1) (host := "PairThreads") (ci := 2) (v := .int (nI L.length)) (C := RX2) (T := TX2) (N := 5) hx hb hts hinX2 hown hK.1 hP 0 rfl rfl 4 (by decide) hK.2.nlX3_size (fun _ h9 => h9) rfl dX3_at_16 ?_
        refine z_icmp_lt (tgt := 24) hx hb (by omega) (by omega) dX3_at_19 (by decide) (fun hc4 => ?_) (fun hc4 => ?_)
        · have hpx := hp x0 (by omega)
          refine lv_aload_n hx hb dX3_at_24 rfl (lv_at hl 0 rfl) ?_
          refine va_get (D := G.1) (ci := 3) (v := .ref (a 0)) (C := RX3) (T := TX3) (N := 3) hx hb hts hinX3 hown hK.1 hP 11 rfl rfl 0 (by decide) (hts (.fieldLink RX3 10 "PairThreads" "pairs" "LPairThreads$Threads;") (by decide +kernel)) (fun _ h9 => h9) rfl dX3_at_25 ?_
          refine va_getN (D := G.1) (host := "PairThreads") (ci := 2) (v := .ref (a 2)) (C := RX2) (T := TX2) (N := 5) hx hb hts hinX2 hown hK.1 hP 0 rfl rfl 1 (by decide) hK.2.nlX3_number (fun _ h9 => h9) rfl dX3_at_28 ?_
          refine lv_iload_n hx hb dX3_at_31 rfl (lv_at hl 2 rfl) ?_
          refine z_ald hx hb hK hP 2 rfl (j := d) (by omega) (by decide) dX3_at_32 ?_
          refine lv_aload_n hx hb dX3_at_33 rfl (lv_at hl 0 rfl) ?_
          refine va_get (D := G.1) (ci := 3) (v := .ref (a 0)) (C := RX3) (T := TX3) (N := 3) hx hb hts hinX3 hown hK.1 hP 11 rfl rfl 0 (by decide) (hts (.fieldLink RX3 10 "PairThreads" "pairs" "LPairThreads$Threads;") (by decide +kernel)) (fun _ h9 => h9) rfl dX3_at_34 ?_
          refine va_getN (D := G.1) (host := "PairThreads") (ci := 2) (v := .ref (a 1)) (C := RX2) (T := TX2) (N := 5) hx hb hts hinX2 hown hK.1 hP 0 rfl rfl 0 (by decide) hK.2.nlX3_order (fun _ h9 => h9) rfl dX3_at_37 ?_
          refine lv_iload_n hx hb dX3_at_40 rfl (lv_at hl 1 rfl) ?_
          refine z_ialdN hx hb hK hP 1 rfl (j := x0) (by omega) (by decide) dX3_at_41 ?_
          refine z_iald hx hb hK hP (5 + d) (cT_N hd) (j := p x0) (by omega) (by decide) dX3_at_42 ?_
          exact z_iret hx hb hr hlocks (by unfold atA; rw [hsd]; dsimp only; rw [if_pos (by rw [hti]; omega), hti, hk d x0 hd (by omega)]; rfl) hS dX3_at_43
        · refine lv_iconst (v := nI 0) hx hb dX3_at_22 rfl ?_
          exact z_iret hx hb hr hlocks (by unfold atA; rw [hsd]; exact (congrArg (fun z => some (Value.int z)) (if_neg (by rw [hti]; omega))).symm) hS dX3_at_23

set_option maxHeartbeats 4000000 in
set_option maxRecDepth 100000 in
/-- clear -/
theorem c_clear (l : Launch) (G : Gd) (a p : Nat → Nat) (N : Nat → Nat → Int32) (B F : Nat → Nat → Option Nat) (L : List Pr) (hTI : TI p N B F L) (hnd : (aP a).Nodup) : Mt l yX3_clear wsX3_clear 0 0 [.ref (a 27)] G (cT G a p N B F L.length ++ cP a) (fun q => q ∈ aP a) (fun r h => r = some (.int (nI L.length)) ∧ cPL G a [] h) := by
  refine Mt.mk cX3_clear 2 (some .int) (by decide) rfl (Nat.le_of_ble_eq_true rfl) ?_
  intro p9 e s m below meth c ls hx hb hr hml hts hown hlocks hP hK hl
  have hinX2 : ∀ w ∈ wsX20, w ∈ wsX3_clear := by decide +kernel
  have hinX3 : ∀ w ∈ wsX30, w ∈ wsX3_clear := by decide +kernel
  have hS : va_S (fun q => q ∈ aP a) s.heap s.heap [] := va_S.rf
  have hl : lv_has ls 2 [(0, .ref (a 27))] := hl
  have hown : s.vm.findClass RX3 = some m.cls := hown
  have hDD : ∀ ws : va_W, ws.map Prod.fst = aP a → va_D (fun q => q ∈ aP a) ws := D_of hnd (fun q h => h)
  refine lv_aload_n hx hb dX3_clear_0 rfl (lv_at hl 0 rfl) ?_
  refine va_get (D := G.1) (ci := 3) (v := .ref (a 0)) (C := RX3) (T := TX3) (N := 3) hx hb hts hinX3 hown hK.1 hP 11 rfl rfl 0 (by decide) (hts (.fieldLink RX3 10 "PairThreads" "pairs" "LPairThreads$Threads;") (by decide +kernel)) (fun _ h9 => h9) rfl dX3_clear_1 ?_
  refine va_getN (D := G.1) (host := "PairThreads") (ci := 2) (v := .int (nI L.length)) (C := RX2) (T := TX2) (N := 5) hx hb hts hinX2 hown hK.1 hP 0 rfl rfl 4 (by decide) hK.2.nlX3_size (fun _ h9 => h9) rfl dX3_clear_4 ?_
  refine lv_istore_n (lv' := [(1, .int (nI L.length)), (0, .ref (a 27))]) hx hb dX3_clear_7 rfl hl (by decide) rfl (fun ls hl => ?_)
  refine lv_aload_n hx hb dX3_clear_8 rfl (lv_at hl 1 rfl) ?_
  refine va_get (D := G.1) (ci := 3) (v := .ref (a 0)) (C := RX3) (T := TX3) (N := 3) hx hb hts hinX3 hown hK.1 hP 11 rfl rfl 0 (by decide) (hts (.fieldLink RX3 10 "PairThreads" "pairs" "LPairThreads$Threads;") (by decide +kernel)) (fun _ h9 => h9) rfl dX3_clear_9 ?_
  refine lv_iconst (v := nI 0) hx hb dX3_clear_12 rfl ?_
  refine va_putN (D := G.1) (host := "PairThreads") (ci := 2) (v := .int (nI 0)) (ty := .int) (C := RX2) (T := TX2) (N := 5) hx hb hts hinX2 tyX2 tyX2_ok nmX2 hown hK.1 hP (hDD _ rfl) hS 0 rfl rfl 4 (by decide) hK.2.nlX3_size (fun _ h9 => h9) rfl (by decide +kernel) rfl rfl (Nat.le_of_ble_eq_true rfl) dX3_clear_13 (fun H locs hP _ hS => ?_)
  have hP : va_P G.1 vwCl (cT G a p N B F 0 ++ cP a) H := hP
  refine lv_iload_n hx hb dX3_clear_16 rfl (lv_at hl 0 rfl) ?_
  exact z_iret hx hb hr hlocks ⟨rfl, p, N, B, F, TI_clear hTI, hP⟩ hS dX3_clear_17

set_option maxHeartbeats 4000000 in
set_option maxRecDepth 100000 in
/-- check -/
theorem c_check (l : Launch) (G : Gd) (a p : Nat → Nat) (N : Nat → Nat → Int32) (B F : Nat → Nat → Option Nat) (L : List Pr) (hTI : TI p N B F L) : Mt l yX3_check wsX3_check 2 50 [.ref (a 27)] G (cT G a p N B F L.length ++ cP a) (fun _ => False) (fun r _ => r = some (.int (nI 1))) := by
  refine Mt.mk cX3_check 1 (some .int) (by decide) rfl (Nat.le_of_ble_eq_true rfl) ?_
  intro p9 e s m below meth c ls hx hb hr hml hts hown hlocks hP hK hl
  have hinX3 : ∀ w ∈ wsX30, w ∈ wsX3_check := by decide +kernel
  have hS : va_S (fun _ => False) s.heap s.heap [] := va_S.rf
  have hl : lv_has ls 1 [(0, .ref (a 27))] := hl
  have hown : s.vm.findClass RX3 = some m.cls := hown
  obtain ⟨hp, hinj, hn, hk, hlk⟩ := id hTI
  refine lv_aload_n hx hb dX3_check_0 rfl (lv_at hl 0 rfl) ?_
  refine va_get (D := G.1) (ci := 3) (v := .ref (a 0)) (C := RX3) (T := TX3) (N := 3) hx hb hts hinX3 hown hK.1 hP 11 rfl rfl 0 (by decide) (hts (.fieldLink RX3 10 "PairThreads" "pairs" "LPairThreads$Threads;") (by decide +kernel)) (fun _ h9 => h9) rfl dX3_check_1 ?_
  refine lv_iconst (v := nI 0) hx hb dX3_check_4 rfl ?_
  refine z_callV (rest := []) 1 ⟨hx, hb, hml, hown, hts⟩ hK (c_areSound l G a p N B F L.length 0 (by omega) hn hp hinj (hlk 0 (by omega)).1 (hlk 0 (by omega)).2) gX3_check_X2_areSound rfl (by decide +kernel) ⟨Nat.le_of_ble_eq_true rfl, Nat.le_of_ble_eq_true rfl⟩ (hP.sub (ws' := cT G a p N B F L.length ++ []) [0, 1, 2, 3, 4, 5, 6, 7, 8, 9, 10] rfl) 0 rfl rfl rfl rfl hl.1 rfl (Nat.le_of_ble_eq_true rfl) dX3_check_5 ⟨Nat.le_refl _, Nat.le_refl _⟩ hS (fun _ h => h.elim) (fun v9 H9 locs hR9 hk9 hS => ?_)
  obtain rfl := hR9
  have hP := P_keep0 hP hk9
  clear hk9
  generalize H9 = H at hP hS ⊢
  refine W.eq (g2 := F0 m 8 ls [.int (nI 1)]) rfl ?_
  refine z_if_eq (tgt := 26) hx hb (by omega) dX3_check_8 (by decide) (fun hc1 => ?_) (fun hc1 => ?_)
  · exact absurd hc1 (by decide)
  · refine lv_aload_n hx hb dX3_check_11 rfl (lv_at hl 0 rfl) ?_
    refine va_get (D := G.1) (ci := 3) (v := .ref (a 0)) (C := RX3) (T := TX3) (N := 3) hx hb hts hinX3 hown hK.1 hP 11 rfl rfl 0 (by decide) (hts (.fieldLink RX3 10 "PairThreads" "pairs" "LPairThreads$Threads;") (by decide +kernel)) (fun _ h9 => h9) rfl dX3_check_12 ?_
    refine lv_iconst (v := nI 1) hx hb dX3_check_15 rfl ?_
    refine z_callV (rest := []) 1 ⟨hx, hb, hml, hown, hts⟩ hK (c_areSound l G a p N B F L.length 1 (by omega) hn hp hinj (hlk 1 (by omega)).1 (hlk 1 (by omega)).2) gX3_check_X2_areSound rfl (by decide +kernel) ⟨Nat.le_of_ble_eq_true rfl, Nat.le_of_ble_eq_true rfl⟩ (hP.sub (ws' := cT G a p N B F L.length ++ []) [0, 1, 2, 3, 4, 5, 6, 7, 8, 9, 10] rfl) 0 rfl rfl rfl rfl hl.1 rfl (Nat.le_of_ble_eq_true rfl) dX3_check_16 ⟨Nat.le_refl _, Nat.le_refl _⟩ hS (fun _ h => h.elim) (fun v9 H9 locs hR9 hk9 hS => ?_)
    obtain rfl := hR9
    have hP := P_keep0 hP hk9
    clear hk9
    generalize H9 = H at hP hS ⊢
    refine W.eq (g2 := F0 m 19 ls [.int (nI 1)]) rfl ?_
    refine z_if_eq (tgt := 26) hx hb (by omega) dX3_check_19 (by decide) (fun hc2 => ?_) (fun hc2 => ?_)
    · exact absurd hc2 (by decide)
    · refine lv_iconst (v := nI 1) hx hb dX3_check_22 rfl ?_
      refine lv_goto (tgt := 27) hx hb dX3_check_23 (by decide) ?_
      exact z_iret hx hb hr hlocks rfl hS dX3_check_27
