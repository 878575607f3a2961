set_option maxHeartbeats 4000000 in
set_option maxRecDepth 100000 in
/-- Threads.append -/
theorem c_append (l : Launch) (G : Gd) (a p : Nat → Nat) (N : Nat → Nat → Int32) (B F : Nat → Nat → Option Nat) (L : List Pr) (hTI : TI p N B F L) (x y : Int32) (hlt : L.length < 300) (hnd : (aT a).Nodup) : Mt l yX2_append wsX2_append 2 47 [.ref (a 0), .int (x), .int (y)] G (cT G a p N B F L.length ++ []) (fun q => q ∈ aT a) (fun r h => r = none ∧ cTL G a (L ++ [(x, y)]) h) := by
  refine Mt.mk cX2_append 4 none (by decide) rfl (Nat.le_of_ble_eq_true rfl) ?_
  intro p9 e s m below meth c ls hx hb hr hml hts hown hlocks hP hK hl
  have hinX2 : ∀ w ∈ wsX20, w ∈ wsX2_append := by decide +kernel
  have hS : va_S (fun q => q ∈ aT a) s.heap s.heap [] := va_S.rf
  have hl : lv_has ls 4 [(0, .ref (a 0)), (1, .int (x)), (2, .int (y))] := hl
  have hown : s.vm.findClass RX2 = some m.cls := hown
  have hDD : ∀ ws : va_W, ws.map Prod.fst = aT a → va_D (fun q => q ∈ aT a) ws := D_of hnd (fun q h => h)
  obtain ⟨hp, hinj, hn, hk, hlk⟩ := id hTI
  have hpn := hp L.length (by omega)
  refine lv_aload_n hx hb dX2_append_0 rfl (lv_at hl 0 rfl) ?_
  refine va_get (D := G.1) (ci := 2) (v := .ref (a 1)) (C := RX2) (T := TX2) (N := 5) hx hb hts hinX2 hown hK.1 hP 0 rfl rfl 0 (by decide) (hts (.fieldLink RX2 9 "PairThreads$Threads" "order" "[I") (by decide +kernel)) (fun _ h9 => h9) rfl dX2_append_1 ?_
  refine lv_aload_n hx hb dX2_append_4 rfl (lv_at hl 0 rfl) ?_
  refine va_get (D := G.1) (ci := 2) (v := .int (nI L.length)) (C := RX2) (T := TX2) (N := 5) hx hb hts hinX2 hown hK.1 hP 0 rfl rfl 4 (by decide) (hts (.fieldLink RX2 26 "PairThreads$Threads" "size" "I") (by decide +kernel)) (fun _ h9 => h9) rfl dX2_append_5 ?_
  refine z_ialdN hx hb hK hP 1 rfl (j := L.length) (by omega) (by decide) dX2_append_8 ?_
  refine lv_istore_n (lv' := [(3, .int (nI (p L.length))), (0, .ref (a 0)), (1, .int (x)), (2, .int (y))]) hx hb dX2_append_9 rfl hl (by decide) rfl (fun ls hl => ?_)
  refine lv_aload_n hx hb dX2_append_10 rfl (lv_at hl 1 rfl) ?_
  refine lv_iconst (v := nI 0) hx hb dX2_append_11 rfl ?_
  refine lv_iload_n hx hb dX2_append_12 rfl (lv_at hl 0 rfl) ?_
  refine lv_iload_n hx hb dX2_append_13 rfl (lv_at hl 2 rfl) ?_
  refine z_callV (rest := []) 3 ⟨hx, hb, hml, hown, hts⟩ hK (c_tieOn l G a p N B F L.length 0 (p L.length) x (by omega) hpn hn hp hnd) gX2_append_X2_tieOn rfl (by decide +kernel) ⟨Nat.le_of_ble_eq_true rfl, Nat.le_of_ble_eq_true rfl⟩ hP 0 rfl rfl rfl rfl hl.1 rfl (Nat.le_of_ble_eq_true rfl) dX2_append_14 ⟨Nat.le_refl _, Nat.le_refl _⟩ hS (fun _ h => h) (fun v9 H9 locs hR9 hk9 hS => ?_)
  obtain ⟨rfl, o0, hl0, hP⟩ := hR9
  clear hk9
  generalize H9 = H at hP hS ⊢
  refine W.eq (g2 := F0 m 17 ls []) rfl ?_
  obtain ⟨N1, eN1⟩ : ∃ z, z = va_up N 0 (upd (N 0) (p L.length) x) := ⟨_, rfl⟩
  obtain ⟨B1, eB1⟩ : ∃ z, z = va_up B 0 (va_up (B 0) (p L.length) (Option.map p o0)) := ⟨_, rfl⟩
  obtain ⟨F1, eF1⟩ : ∃ z, z = va_up F 0 (tieFd p (F 0) (p L.length) o0) := ⟨_, rfl⟩
  rw [← eN1, ← eB1, ← eF1] at hP
  refine lv_aload_n hx hb dX2_append_17 rfl (lv_at hl 1 rfl) ?_
  refine lv_iconst (v := nI 1) hx hb dX2_append_18 rfl ?_
  refine lv_iload_n hx hb dX2_append_19 rfl (lv_at hl 0 rfl) ?_
  refine lv_iload_n hx hb dX2_append_20 rfl (lv_at hl 3 rfl) ?_
  refine z_callV (rest := []) 3 ⟨hx, hb, hml, hown, hts⟩ hK (c_tieOn l G a p N1 B1 F1 L.length 1 (p L.length) y (by omega) hpn hn hp hnd) gX2_append_X2_tieOn rfl (by decide +kernel) ⟨Nat.le_of_ble_eq_true rfl, Nat.le_of_ble_eq_true rfl⟩ hP 0 rfl rfl rfl rfl hl.1 rfl (Nat.le_of_ble_eq_true rfl) dX2_append_21 ⟨Nat.le_refl _, Nat.le_refl _⟩ hS (fun _ h => h) (fun v9 H9 locs hR9 hk9 hS => ?_)
  obtain ⟨rfl, o1, hl1, hP⟩ := hR9
  clear hk9
  generalize H9 = H at hP hS ⊢
  refine W.eq (g2 := F0 m 24 ls []) rfl ?_
  obtain ⟨N2, eN2⟩ : ∃ z, z = va_up N1 1 (upd (N1 1) (p L.length) y) := ⟨_, rfl⟩
  obtain ⟨B2, eB2⟩ : ∃ z, z = va_up B1 1 (va_up (B1 1) (p L.length) (Option.map p o1)) := ⟨_, rfl⟩
  obtain ⟨F2, eF2⟩ : ∃ z, z = va_up F1 1 (tieFd p (F1 1) (p L.length) o1) := ⟨_, rfl⟩
  rw [← eN2, ← eB2, ← eF2] at hP
  refine lv_aload_n hx hb dX2_append_24 rfl (lv_at hl 1 rfl) ?_
  refine lv_dup hx hb dX2_append_25 rfl ?_
  refine va_get (D := G.1) (ci := 2) (v := .int (nI L.length)) (C := RX2) (T := TX2) (N := 5) hx hb hts hinX2 hown hK.1 hP 0 rfl rfl 4 (by decide) (hts (.fieldLink RX2 26 "PairThreads$Threads" "size" "I") (by decide +kernel)) (fun _ h9 => h9) rfl dX2_append_26 ?_
  refine lv_iconst (v := nI 1) hx hb dX2_append_29 rfl ?_
  refine lv_iadd hx hb dX2_append_30 ?_
  refine z_top (y := nI (L.length + 1)) (nI_add _ _) ?_
  refine va_put (D := G.1) (ci := 2) (v := .int (nI (L.length + 1))) (ty := .int) (C := RX2) (T := TX2) (N := 5) hx hb hts hinX2 tyX2 tyX2_ok nmX2 hown hK.1 hP (hDD _ rfl) hS 0 rfl rfl 4 (by decide) (hts (.fieldLink RX2 26 "PairThreads$Threads" "size" "I") (by decide +kernel)) (fun _ h9 => h9) rfl (by decide +kernel) rfl rfl (Nat.le_of_ble_eq_true rfl) dX2_append_31 (fun H locs hP _ hS => ?_)
  have hP : va_P G.1 vwCl (cT G a p N2 B2 F2 (L.length + 1) ++ []) H := hP
  exact z_vret hx hb hr hlocks ⟨rfl, p, N2, B2, F2, TI_append hTI hlt N1 N2 B1 B2 F1 F2 eN1 eB1 eF1 eN2 eB2 eF2 hl0 hl1, by rw [show (L ++ [(x, y)]).length = L.length + 1 by simp]; exact hP⟩ hS dX2_append_34

set_option maxHeartbeats 4000000 in
set_option maxRecDepth 100000 in
/-- Threads.takeOut -/
theorem c_takeOut (l : Launch) (G : Gd) (a p : Nat → Nat) (N : Nat → Nat → Int32) (B F : Nat → Nat → Option Nat) (L : List Pr) (hTI : TI p N B F L) (t : Nat) (ht : t < L.length) (hnd : (aT a).Nodup) : Mt l yX2_takeOut wsX2_takeOut 1 24 [.ref (a 0), .int (nI t)] G (cT G a p N B F L.length ++ []) (fun q => q ∈ aT a) (fun r h => r = none ∧ cTL G a (L.eraseIdx t) h) := by
  refine Mt.mk cX2_takeOut 3 none (by decide) rfl (Nat.le_of_ble_eq_true rfl) ?_
  intro p9 e s m below meth c ls hx hb hr hml hts hown hlocks hP hK hl
  have hinX2 : ∀ w ∈ wsX20, w ∈ wsX2_takeOut := by decide +kernel
  have hS : va_S (fun q => q ∈ aT a) s.heap s.heap [] := va_S.rf
  have hl : lv_has ls 3 [(0, .ref (a 0)), (1, .int (nI t))] := hl
  have hown : s.vm.findClass RX2 = some m.cls := hown
  have hDD : ∀ ws : va_W, ws.map Prod.fst = aT a → va_D (fun q => q ∈ aT a) ws := D_of hnd (fun q h => h)
  obtain ⟨hp, hinj, hn, hk, hlk⟩ := id hTI
  have hpt := hp t (by omega)
  obtain ⟨ob0, hob0, hb0⟩ := (hlk 0 (by omega)).1 t ht
  obtain ⟨of0, hof0, hf0⟩ := (hlk 0 (by omega)).2 t ht
  obtain ⟨ob1, hob1, hb1⟩ := (hlk 1 (by omega)).1 t ht
  obtain ⟨of1, hof1, hf1⟩ := (hlk 1 (by omega)).2 t ht
  refine lv_aload_n hx hb dX2_takeOut_0 rfl (lv_at hl 0 rfl) ?_
  refine va_get (D := G.1) (ci := 2) (v := .ref (a 1)) (C := RX2) (T := TX2) (N := 5) hx hb hts hinX2 hown hK.1 hP 0 rfl rfl 0 (by decide) (hts (.fieldLink RX2 9 "PairThreads$Threads" "order" "[I") (by decide +kernel)) (fun _ h9 => h9) rfl dX2_takeOut_1 ?_
  refine lv_iload_n hx hb dX2_takeOut_4 rfl (lv_at hl 1 rfl) ?_
  refine z_ialdN hx hb hK hP 1 rfl (j := t) (by omega) (by decide) dX2_takeOut_5 ?_
  refine lv_istore_n (lv' := [(2, .int (nI (p t))), (0, .ref (a 0)), (1, .int (nI t))]) hx hb dX2_takeOut_6 rfl hl (by decide) rfl (fun ls hl => ?_)
  refine lv_aload_n hx hb dX2_takeOut_7 rfl (lv_at hl 1 rfl) ?_
  refine lv_iconst (v := nI 0) hx hb dX2_takeOut_8 rfl ?_
  refine lv_iload_n hx hb dX2_takeOut_9 rfl (lv_at hl 0 rfl) ?_
  refine z_callV (rest := []) 2 ⟨hx, hb, hml, hown, hts⟩ hK (c_untie l G a p N B F L.length 0 (p t) ob0 of0 (by omega) hpt hob0 hof0 (fun j hj => by have := prevR_lt hb0 j hj; omega) (nextR_lt hf0) hn hp hnd) gX2_takeOut_X2_untie rfl (by decide +kernel) ⟨Nat.le_of_ble_eq_true rfl, Nat.le_of_ble_eq_true rfl⟩ hP 0 rfl rfl rfl rfl hl.1 rfl (Nat.le_of_ble_eq_true rfl) dX2_takeOut_10 ⟨Nat.le_refl _, Nat.le_refl _⟩ hS (fun _ h => h) (fun v9 H9 locs hR9 hk9 hS => ?_)
  obtain ⟨rfl, hP⟩ := hR9
  clear hk9
  generalize H9 = H at hP hS ⊢
  refine W.eq (g2 := F0 m 13 ls []) rfl ?_
  obtain ⟨B1, eB1⟩ : ∃ z, z = va_up B 0 (unt p (B 0) of0 ob0) := ⟨_, rfl⟩
  obtain ⟨F1, eF1⟩ : ∃ z, z = va_up F 0 (unt p (F 0) ob0 of0) := ⟨_, rfl⟩
  rw [← eB1, ← eF1] at hP
  refine lv_aload_n hx hb dX2_takeOut_13 rfl (lv_at hl 1 rfl) ?_
  refine lv_iconst (v := nI 1) hx hb dX2_takeOut_14 rfl ?_
  refine lv_iload_n hx hb dX2_takeOut_15 rfl (lv_at hl 0 rfl) ?_
  refine z_callV (rest := []) 2 ⟨hx, hb, hml, hown, hts⟩ hK (c_untie l G a p N B1 F1 L.length 1 (p t) ob1 of1 (by omega) hpt (by rw [eB1, up_n (by decide)]; exact hob1) (by rw [eF1, up_n (by decide)]; exact hof1) (fun j hj => by have := prevR_lt hb1 j hj; omega) (nextR_lt hf1) hn hp hnd) gX2_takeOut_X2_untie rfl (by decide +kernel) ⟨Nat.le_of_ble_eq_true rfl, Nat.le_of_ble_eq_true rfl⟩ hP 0 rfl rfl rfl rfl hl.1 rfl (Nat.le_of_ble_eq_true rfl) dX2_takeOut_16 ⟨Nat.le_refl _, Nat.le_refl _⟩ hS (fun _ h => h) (fun v9 H9 locs hR9 hk9 hS => ?_)
  obtain ⟨rfl, hP⟩ := hR9
  clear hk9
  generalize H9 = H at hP hS ⊢
  refine W.eq (g2 := F0 m 19 ls []) rfl ?_
  obtain ⟨B2, eB2⟩ : ∃ z, z = va_up B1 1 (unt p (B1 1) of1 ob1) := ⟨_, rfl⟩
  obtain ⟨F2, eF2⟩ : ∃ z, z = va_up F1 1 (unt p (F1 1) ob1 of1) := ⟨_, rfl⟩
  rw [← eB2, ← eF2] at hP
  refine lv_aload_n hx hb dX2_takeOut_19 rfl (lv_at hl 1 rfl) ?_
  refine lv_dup hx hb dX2_takeOut_20 rfl ?_
  refine va_get (D := G.1) (ci := 2) (v := .int (nI L.length)) (C := RX2) (T := TX2) (N := 5) hx hb hts hinX2 hown hK.1 hP 0 rfl rfl 4 (by decide) (hts (.fieldLink RX2 26 "PairThreads$Threads" "size" "I") (by decide +kernel)) (fun _ h9 => h9) rfl dX2_takeOut_21 ?_
  refine lv_iconst (v := nI 1) hx hb dX2_takeOut_24 rfl ?_
  refine lv_isub hx hb dX2_takeOut_25 ?_
  refine z_top (y := nI (L.length - 1)) (pk_sub (by omega)) ?_
  refine va_put (D := G.1) (ci := 2) (v := .int (nI (L.length - 1))) (ty := .int) (C := RX2) (T := TX2) (N := 5) hx hb hts hinX2 tyX2 tyX2_ok nmX2 hown hK.1 hP (hDD _ rfl) hS 0 rfl rfl 4 (by decide) (hts (.fieldLink RX2 26 "PairThreads$Threads" "size" "I") (by decide +kernel)) (fun _ h9 => h9) rfl (by decide +kernel) rfl rfl (Nat.le_of_ble_eq_true rfl) dX2_takeOut_26 (fun H locs hP _ hS => ?_)
  have hP : va_P G.1 vwCl (cT G a p N B2 F2 (L.length - 1) ++ []) H := hP
  refine lv_aload_n hx hb dX2_takeOut_29 rfl (lv_at hl 1 rfl) ?_
  refine va_get (D := G.1) (ci := 2) (v := .ref (a 1)) (C := RX2) (T := TX2) (N := 5) hx hb hts hinX2 hown hK.1 hP 0 rfl rfl 0 (by decide) (hts (.fieldLink RX2 9 "PairThreads$Threads" "order" "[I") (by decide +kernel)) (fun _ h9 => h9) rfl dX2_takeOut_30 ?_
  refine lv_iload_n hx hb dX2_takeOut_33 rfl (lv_at hl 2 rfl) ?_
  refine lv_iconst (v := nI 1) hx hb dX2_takeOut_34 rfl ?_
  refine lv_iadd hx hb dX2_takeOut_35 ?_
  refine z_top (y := nI (t + 1)) (nI_add _ _) ?_
  refine lv_aload_n hx hb dX2_takeOut_36 rfl (lv_at hl 1 rfl) ?_
  refine va_get (D := G.1) (ci := 2) (v := .ref (a 1)) (C := RX2) (T := TX2) (N := 5) hx hb hts hinX2 hown hK.1 hP 0 rfl rfl 0 (by decide) (hts (.fieldLink RX2 9 "PairThreads$Threads" "order" "[I") (by decide +kernel)) (fun _ h9 => h9) rfl dX2_takeOut_37 ?_
  refine lv_iload_n hx hb dX2_takeOut_40 rfl (lv_at hl 2 rfl) ?_
  refine lv_aload_n hx hb dX2_takeOut_41 rfl (lv_at hl 1 rfl) ?_
  refine va_get (D := G.1) (ci := 2) (v := .int (nI (L.length - 1))) (C := RX2) (T := TX2) (N := 5) hx hb hts hinX2 hown hK.1 hP 0 rfl rfl 4 (by decide) (hts (.fieldLink RX2 26 "PairThreads$Threads" "size" "I") (by decide +kernel)) (fun _ h9 => h9) rfl dX2_takeOut_42 ?_
  refine lv_iload_n hx hb dX2_takeOut_45 rfl (lv_at hl 2 rfl) ?_
  refine lv_isub hx hb dX2_takeOut_46 ?_
  refine z_top (y := nI (L.length - 1 - t)) (pk_sub (by omega)) ?_
  refine va_copyi hx hb (hml.trans hl.1.symm) hown (hts (.methodLink RX2 45 arraycopyName) (by decide +kernel)) (hts (.native arraycopyName) (by decide +kernel)) (hts (.static arraycopyName) (by decide +kernel)) (hts (.initialized "java/lang/System") (by decide +kernel)) hK.1 hP (hDD _ rfl) hS 1 1 0 0 (ty := .int) rfl rfl rfl rfl rfl (sp := nI (t + 1)) (dp := nI t) (n := nI (L.length - 1 - t)) (nI_pos (by omega)) (nI_pos (by omega)) (nI_pos (by omega)) (by rw [nI_clamp (by omega), nI_clamp (by omega)]; omega) (by rw [nI_clamp (by omega), nI_clamp (by omega)]; omega) (fun _ _ => rfl) (Nat.le_of_ble_eq_true rfl) (Nat.le_of_ble_eq_true rfl) dX2_takeOut_47 (fun H locs hP _ hS => ?_)
  rw [nI_clamp (by omega), nI_clamp (by omega), nI_clamp (by omega), cpy_fN] at hP
  have hP : va_P G.1 vwCl (cT G a (va_cpy p p (t + 1) t (L.length - 1 - t)) N B2 F2 (L.length - 1) ++ []) H := hP
  refine lv_aload_n hx hb dX2_takeOut_50 rfl (lv_at hl 1 rfl) ?_
  refine va_get (D := G.1) (ci := 2) (v := .ref (a 1)) (C := RX2) (T := TX2) (N := 5) hx hb hts hinX2 hown hK.1 hP 0 rfl rfl 0 (by decide) (hts (.fieldLink RX2 9 "PairThreads$Threads" "order" "[I") (by decide +kernel)) (fun _ h9 => h9) rfl dX2_takeOut_51 ?_
  refine lv_aload_n hx hb dX2_takeOut_54 rfl (lv_at hl 1 rfl) ?_
  refine va_get (D := G.1) (ci := 2) (v := .int (nI (L.length - 1))) (C := RX2) (T := TX2) (N := 5) hx hb hts hinX2 hown hK.1 hP 0 rfl rfl 4 (by decide) (hts (.fieldLink RX2 26 "PairThreads$Threads" "size" "I") (by decide +kernel)) (fun _ h9 => h9) rfl dX2_takeOut_55 ?_
  refine lv_iload_n hx hb dX2_takeOut_58 rfl (lv_at hl 0 rfl) ?_
  refine z_iastN hx hb hK hP (hDD _ rfl) hS 1 rfl (j := L.length - 1) (by omega) (by decide) dX2_takeOut_59 (fun H locs hP hS => ?_)
  have hP : va_P G.1 vwCl (cT G a (va_up (va_cpy p p (t + 1) t (L.length - 1 - t)) (L.length - 1) (p t)) N B2 F2 (L.length - 1) ++ []) H := hP
  obtain ⟨p', ep⟩ : ∃ z, z = va_up (va_cpy p p (t + 1) t (L.length - 1 - t)) (L.length - 1) (p t) := ⟨_, rfl⟩
  rw [← ep] at hP
  exact z_vret hx hb hr hlocks ⟨rfl, p', N, B2, F2, TI_takeOut hTI ht B1 B2 F1 F2 eB1 eF1 eB2 eF2 hb0 hf0 hb1 hf1 ep, by rw [List.length_eraseIdx_of_lt ht]; exact hP⟩ hS dX2_takeOut_60

set_option maxHeartbeats 4000000 in
set_option maxRecDepth 100000 in
/-- Threads.takeOutAll -/
theorem c_takeOutAll (l : Launch) (G : Gd) (a p : Nat → Nat) (N : Nat → Nat → Int32) (B F : Nat → Nat → Option Nat) (L : List Pr) (hTI : TI p N B F L) (d : Nat) (v : Int32) (hd : d < 2) (hnd : (aT a).Nodup) : Mt l yX2_takeOutAll wsX2_takeOutAll 2 46 [.ref (a 0), .int (nI d), .int (v)] G (cT G a p N B F L.length ++ []) (fun q => q ∈ aT a) (fun r h => r = some (.int (nI (cnt (key d L) v L.length))) ∧ cTL G a (wo d v L) h) := by
  refine Mt.mk cX2_takeOutAll 5 (some .int) (by decide) rfl (Nat.le_of_ble_eq_true rfl) ?_
  intro p9 e s m below meth c ls hx hb hr hml hts hown hlocks hP hK hl
  have hinX2 : ∀ w ∈ wsX20, w ∈ wsX2_takeOutAll := by decide +kernel
  have hS : va_S (fun q => q ∈ aT a) s.heap s.heap [] := va_S.rf
  have hl : lv_has ls 5 [(0, .ref (a 0)), (1, .int (nI d)), (2, .int (v))] := hl
  have hown : s.vm.findClass RX2 = some m.cls := hown
  have hDD : ∀ ws : va_W, ws.map Prod.fst = aT a → va_D (fun q => q ∈ aT a) ws := D_of hnd (fun q h => h)
  refine lv_iconst (v := nI 0) hx hb dX2_takeOutAll_0 rfl ?_
  refine lv_istore_n (lv' := [(3, .int (nI 0)), (0, .ref (a 0)), (1, .int (nI d)), (2, .int (v))]) hx hb dX2_takeOutAll_1 rfl hl (by decide) rfl (fun ls hl => ?_)
  refine lv_aload_n hx hb dX2_takeOutAll_2 rfl (lv_at hl 1 rfl) ?_
  refine va_get (D := G.1) (ci := 2) (v := .int (nI L.length)) (C := RX2) (T := TX2) (N := 5) hx hb hts hinX2 hown hK.1 hP 0 rfl rfl 4 (by decide) (hts (.fieldLink RX2 26 "PairThreads$Threads" "size" "I") (by decide +kernel)) (fun _ h9 => h9) rfl dX2_takeOutAll_3 ?_
  refine lv_iconst (v := nI 1) hx hb dX2_takeOutAll_6 rfl ?_
  refine lv_isub hx hb dX2_takeOutAll_7 ?_
  refine z_top (y := lk (pr L.length)) (lk_pr _) ?_
  refine lv_istore (lv' := [(4, .int (lk (pr L.length))), (3, .int (nI 0)), (0, .ref (a 0)), (1, .int (nI d)), (2, .int (v))]) hx hb dX2_takeOutAll_8 hl (by decide) rfl (fun ls hl => ?_)
  have loop : ∀ (k9 : Nat) (k : Nat) (M : List Pr) (p : Nat → Nat) (N : Nat → Nat → Int32) (B : Nat → Nat → Option Nat) (F : Nat → Nat → Option Nat) (H : Heap) (locs : List Loc) (ls : Array Slot), k < k9 → k ≤ L.length → M = L.take k ++ wo d v (L.drop k) → TI p N B F M → va_P G.1 vwCl (cT G a p N B F M.length ++ []) H → va_S (fun q => q ∈ aT a) s.heap H locs → lv_has ls 5 [(4, .int (lk (pr k))), (3, .int (nI (cnt (key d L) v L.length - cnt (key d L) v k))), (0, .ref (a 0)), (1, .int (nI d)), (2, .int (v))] → Wz p9 l e 2 46 s m [.ref (a 0), .int (nI d), .int (v)] below meth c (fun q => q ∈ aT a) (fun r h => r = some (.int (nI (cnt (key d L) v L.length))) ∧ cTL G a (wo d v L) h) H locs (F0 m 10 ls []) := by
    intro k9
    induction k9 with
    | zero =>
      intro k M p N B F H locs ls hfuel hk hM hTI hP hS hl
      exact absurd hfuel (by omega)
    | succ k9 ih =>
      intro k M p N B F H locs ls hfuel hk hM hTI hP hS hl
      have hpk : ∀ i, pr k = some i → k = i + 1 := fun i hi => by cases k with | zero => cases hi | succ z => cases hi; rfl
      have hL3 := hTI.2.2.1
      have hML : k ≤ M.length := by rw [hM, List.length_append, List.length_take]; omega
      refine lv_iload hx hb dX2_takeOutAll_10 (lv_at hl 0 rfl) ?_
      refine z_if_lt (tgt := 48) hx hb (fun i hi => by have := hpk i hi; omega) dX2_takeOutAll_12 (by decide) (fun hc1 => ?_) (fun i hc1 => ?_)
      · have hk0 : k = 0 := by cases k with | zero => rfl | succ z => cases hc1
        subst hk0
        refine lv_iload_n hx hb dX2_takeOutAll_48 rfl (lv_at hl 1 rfl) ?_
        exact z_iret hx hb hr hlocks ⟨rfl, p, N, B, F, by have e : M = wo d v L := hM.trans rfl; rw [← e]; exact ⟨hTI, hP⟩⟩ hS dX2_takeOutAll_49
      · have hki := hpk i hc1
        rw [hc1] at hl
        have hl : lv_has ls 5 [(4, .int (nI i)), (3, .int (nI (cnt (key d L) v L.length - cnt (key d L) v k))), (0, .ref (a 0)), (1, .int (nI d)), (2, .int (v))] := hl
        have hpi := hTI.1 i (by omega)
        have hdr := drop_cons_pr L (show i < L.length by omega)
        have htk := take_succ_pr L (show i < L.length by omega)
        have hMi : M = L.take i ++ L.getD i (0, 0) :: wo d v (L.drop k) := by rw [hM, hki, htk, List.append_assoc]; rfl
        have hkey : N d (p i) = key d L i := by rw [hTI.2.2.2.1 d i hd (by omega), hMi]; unfold key; congr 1; rw [List.getD_eq_getElem?_getD, List.getElem?_append_right (by rw [List.length_take]; omega), List.length_take, show i - min i L.length = 0 by omega]; rfl
        refine lv_aload_n hx hb dX2_takeOutAll_15 rfl (lv_at hl 2 rfl) ?_
        refine va_get (D := G.1) (ci := 2) (v := .ref (a 2)) (C := RX2) (T := TX2) (N := 5) hx hb hts hinX2 hown hK.1 hP 0 rfl rfl 1 (by decide) (hts (.fieldLink RX2 17 "PairThreads$Threads" "number" "[[I") (by decide +kernel)) (fun _ h9 => h9) rfl dX2_takeOutAll_16 ?_
        refine lv_iload_n hx hb dX2_takeOutAll_19 rfl (lv_at hl 3 rfl) ?_
        refine z_ald hx hb hK hP 2 rfl (j := d) (by omega) (by decide) dX2_takeOutAll_20 ?_
        refine lv_aload_n hx hb dX2_takeOutAll_21 rfl (lv_at hl 2 rfl) ?_
        refine va_get (D := G.1) (ci := 2) (v := .ref (a 1)) (C := RX2) (T := TX2) (N := 5) hx hb hts hinX2 hown hK.1 hP 0 rfl rfl 0 (by decide) (hts (.fieldLink RX2 9 "PairThreads$Threads" "order" "[I") (by decide +kernel)) (fun _ h9 => h9) rfl dX2_takeOutAll_22 ?_
        refine lv_iload hx hb dX2_takeOutAll_25 (lv_at hl 0 rfl) ?_
        refine z_ialdN hx hb hK hP 1 rfl (j := i) (by omega) (by decide) dX2_takeOutAll_27 ?_
        refine z_iald hx hb hK hP (5 + d) (cT_N hd) (j := p i) (by omega) (by decide) dX2_takeOutAll_28 ?_
        refine lv_iload_n hx hb dX2_takeOutAll_29 rfl (lv_at hl 4 rfl) ?_
        refine lv_icmp_ne (tgt := 42) hx hb dX2_takeOutAll_30 (by decide) (fun hc2 => ?_) (fun hc2 => ?_)
        · rw [hkey] at hc2
          refine z_iincm (lv' := [(4, .int (lk (pr i))), (3, .int (nI (cnt (key d L) v L.length - cnt (key d L) v k))), (0, .ref (a 0)), (1, .int (nI d)), (2, .int (v))]) hx hb dX2_takeOutAll_42 hl (k := 0) rfl (by decide) rfl (fun ls hl => ?_)
          refine lv_goto (tgt := 10) hx hb dX2_takeOutAll_45 (by decide) ?_
          rw [hki, cnt_miss hc2] at hl
          have hl : lv_has ls 5 [(4, .int (lk (pr i))), (3, .int (nI (cnt (key d L) v L.length - cnt (key d L) v i))), (0, .ref (a 0)), (1, .int (nI d)), (2, .int (v))] := hl
          exact ih i M p N B F H locs ls (by omega) (by omega) (by rw [hMi, hdr, wo_miss hc2, hki]) hTI hP hS (lv_sub hl [0, 1, 2, 3, 4] rfl)
        · rw [hkey] at hc2
          refine lv_aload_n hx hb dX2_takeOutAll_33 rfl (lv_at hl 2 rfl) ?_
          refine lv_iload hx hb dX2_takeOutAll_34 (lv_at hl 0 rfl) ?_
          refine z_callV (rest := []) 1 ⟨hx, hb, hml, hown, hts⟩ hK (c_takeOut l G a p N B F M hTI i (by omega) hnd) gX2_takeOutAll_X2_takeOut rfl (by decide +kernel) ⟨Nat.le_of_ble_eq_true rfl, Nat.le_of_ble_eq_true rfl⟩ hP 0 rfl rfl rfl rfl hl.1 rfl (Nat.le_of_ble_eq_true rfl) dX2_takeOutAll_36 ⟨Nat.le_refl _, Nat.le_refl _⟩ hS (fun _ h => h) (fun v9 H9 locs hR9 hk9 hS => ?_)
          obtain ⟨rfl, p2, N2, B2, F2, hTI2, hP⟩ := hR9
          clear hk9
          generalize H9 = H at hP hS ⊢
          refine W.eq (g2 := F0 m 39 ls []) rfl ?_
          obtain ⟨M2, eM2⟩ : ∃ z, z = M.eraseIdx i := ⟨_, rfl⟩
          rw [← eM2] at hTI2 hP
          refine z_iinc (lv' := [(3, .int (nI (cnt (key d L) v L.length - cnt (key d L) v k + 1))), (4, .int (nI i)), (0, .ref (a 0)), (1, .int (nI d)), (2, .int (v))]) hx hb dX2_takeOutAll_39 hl (k := 1) rfl (by decide) rfl (fun ls hl => ?_)
          refine z_iincm (lv' := [(4, .int (lk (pr i))), (3, .int (nI (cnt (key d L) v L.length - cnt (key d L) v k + 1))), (0, .ref (a 0)), (1, .int (nI d)), (2, .int (v))]) hx hb dX2_takeOutAll_42 hl (k := 1) rfl (by decide) rfl (fun ls hl => ?_)
          refine lv_goto (tgt := 10) hx hb dX2_takeOutAll_45 (by decide) ?_
          have hc0 := cnt_mono (K := key d L) (v := v) (show i + 1 ≤ L.length by omega)
          have hc1 := cnt_hit (K := key d L) hc2
          rw [show cnt (key d L) v L.length - cnt (key d L) v k + 1 = cnt (key d L) v L.length - cnt (key d L) v i by rw [hki]; omega] at hl
          have hl : lv_has ls 5 [(4, .int (lk (pr i))), (3, .int (nI (cnt (key d L) v L.length - cnt (key d L) v i))), (0, .ref (a 0)), (1, .int (nI d)), (2, .int (v))] := hl
          exact ih i M2 p2 N2 B2 F2 H locs ls (by omega) (by omega) (by rw [eM2, hMi, hdr, wo_hit hc2, hki]; exact erase_at (by rw [List.length_take]; omega)) hTI2 hP hS (lv_sub hl [0, 1, 2, 3, 4] rfl)
  have hL3 := hTI.2.2.1
  have hl : lv_has ls 5 [(4, .int (lk (pr L.length))), (3, .int (nI (cnt (key d L) v L.length - cnt (key d L) v L.length))), (0, .ref (a 0)), (1, .int (nI d)), (2, .int (v))] := by rw [Nat.sub_self]; exact hl
  exact loop (L.length + 1) L.length L p N B F _ _ ls (by omega) (by omega) (by rw [List.take_length, List.drop_length]; simp [wo]) hTI hP hS (lv_sub hl [0, 1, 2, 3, 4] rfl)

set_option maxHeartbeats 4000000 in
set_option maxRecDepth 100000 in
/-- Threads.moveAll -/
theorem c_moveAll (l : Launch) (G : Gd) (a p : Nat → Nat) (N : Nat → Nat → Int32) (B F : Nat → Nat → Option Nat) (L : List Pr) (hTI : TI p N B F L) (d : Nat) (v to : Int32) (hd : d < 2) (hto : ¬ to = v) (hnd : (aT a).Nodup) : Mt l yX2_moveAll wsX2_moveAll 3 70 [.ref (a 0), .int (nI d), .int (v), .int (to)] G (cT G a p N B F L.length ++ []) (fun q => q ∈ aT a) (fun r h => r = some (.int (nI (ren d v to (wo d v L) L).2)) ∧ cTL G a (wo d v L ++ (ren d v to (wo d v L) L).1) h) := by
  refine Mt.mk cX2_moveAll 11 (some .int) (by decide) rfl (Nat.le_of_ble_eq_true rfl) ?_
  intro p9 e s m below meth c ls hx hb hr hml hts hown hlocks hP hK hl
  have hinX2 : ∀ w ∈ wsX20, w ∈ wsX2_moveAll := by decide +kernel
  have hS : va_S (fun q => q ∈ aT a) s.heap s.heap [] := va_S.rf
  have hl : lv_has ls 11 [(0, .ref (a 0)), (1, .int (nI d)), (2, .int (v)), (3, .int (to))] := hl
  have hown : s.vm.findClass RX2 = some m.cls := hown
  have hDD : ∀ ws : va_W, ws.map Prod.fst = aT a → va_D (fun q => q ∈ aT a) ws := D_of hnd (fun q h => h)
  have hL0 := hTI.2.2.1
  refine lv_iconst (v := nI 0) hx hb dX2_moveAll_0 rfl ?_
  refine lv_istore (lv' := [(4, .int (nI 0)), (0, .ref (a 0)), (1, .int (nI d)), (2, .int (v)), (3, .int (to))]) hx hb dX2_moveAll_1 hl (by decide) rfl (fun ls hl => ?_)
  refine lv_iconst (v := nI 0) hx hb dX2_moveAll_3 rfl ?_
  refine lv_istore (lv' := [(5, .int (nI 0)), (4, .int (nI 0)), (0, .ref (a 0)), (1, .int (nI d)), (2, .int (v)), (3, .int (to))]) hx hb dX2_moveAll_4 hl (by decide) rfl (fun ls hl => ?_)
  refine lv_aload_n hx hb dX2_moveAll_6 rfl (lv_at hl 2 rfl) ?_
  refine va_get (D := G.1) (ci := 2) (v := .int (nI L.length)) (C := RX2) (T := TX2) (N := 5) hx hb hts hinX2 hown hK.1 hP 0 rfl rfl 4 (by decide) (hts (.fieldLink RX2 26 "PairThreads$Threads" "size" "I") (by decide +kernel)) (fun _ h9 => h9) rfl dX2_moveAll_7 ?_
  refine lv_istore (lv' := [(6, .int (nI L.length)), (5, .int (nI 0)), (4, .int (nI 0)), (0, .ref (a 0)), (1, .int (nI d)), (2, .int (v)), (3, .int (to))]) hx hb dX2_moveAll_10 hl (by decide) rfl (fun ls hl => ?_)
  refine lv_iconst (v := nI 0) hx hb dX2_moveAll_12 rfl ?_
  refine lv_istore (lv' := [(7, .int (nI 0)), (6, .int (nI L.length)), (5, .int (nI 0)), (4, .int (nI 0)), (0, .ref (a 0)), (1, .int (nI d)), (2, .int (v)), (3, .int (to))]) hx hb dX2_moveAll_13 hl (by decide) rfl (fun ls hl => ?_)
  have loop : ∀ (k9 : Nat) (t : Nat) (M : List Pr) (p : Nat → Nat) (N : Nat → Nat → Int32) (B : Nat → Nat → Option Nat) (F : Nat → Nat → Option Nat) (H : Heap) (locs : List Loc) (ls : Array Slot), L.length < t + k9 → t ≤ L.length → M = wo d v (L.take t) ++ (L.drop t ++ (ren d v to (wo d v L) (L.take t)).1) → TI p N B F M → va_P G.1 vwCl (cT G a p N B F M.length ++ []) H → va_S (fun q => q ∈ aT a) s.heap H locs → lv_has ls 11 [(7, .int (nI t)), (6, .int (nI L.length)), (5, .int (nI ((wo d v (L.take t)).length))), (4, .int (nI ((ren d v to (wo d v L) (L.take t)).2))), (0, .ref (a 0)), (1, .int (nI d)), (2, .int (v)), (3, .int (to))] → Wz p9 l e 3 70 s m [.ref (a 0), .int (nI d), .int (v), .int (to)] below meth c (fun q => q ∈ aT a) (fun r h => r = some (.int (nI (ren d v to (wo d v L) L).2)) ∧ cTL G a (wo d v L ++ (ren d v to (wo d v L) L).1) h) H locs (F0 m 15 ls []) := by
    intro k9
    induction k9 with
    | zero =>
      intro t M p N B F H locs ls hfuel ht hM hTI hP hS hl
      exact absurd hfuel (by omega)
    | succ k9 ih =>
      intro t M p N B F H locs ls hfuel ht hM hTI hP hS hl
      have hL3 := hTI.2.2.1
      refine lv_iload hx hb dX2_moveAll_15 (lv_at hl 0 rfl) ?_
      refine lv_iload hx hb dX2_moveAll_17 (lv_at hl 1 rfl) ?_
      refine z_icmp_ge (tgt := 124) hx hb (by omega) (by omega) dX2_moveAll_19 (by decide) (fun hc1 => ?_) (fun hc1 => ?_)
      · have he : t = L.length := by omega
        subst he
        have hM2 : M = wo d v L ++ (ren d v to (wo d v L) L).1 := by rw [hM, List.take_length, List.drop_length]; rfl
        refine lv_iload hx hb dX2_moveAll_124 (lv_at hl 3 rfl) ?_
        exact z_iret hx hb hr hlocks ⟨by rw [List.take_length], p, N, B, F, by rw [← hM2]; exact ⟨hTI, hP⟩⟩ hS dX2_moveAll_126
      · obtain ⟨q, hq⟩ : ∃ z, z = (wo d v (L.take t)).length := ⟨_, rfl⟩
        have hl : lv_has ls 11 [(7, .int (nI t)), (6, .int (nI L.length)), (5, .int (nI q)), (4, .int (nI ((ren d v to (wo d v L) (L.take t)).2))), (0, .ref (a 0)), (1, .int (nI d)), (2, .int (v)), (3, .int (to))] := by rw [hq]; exact hl
        have hdr := drop_cons_pr L (show t < L.length by omega)
        have htk := take_succ_pr L (show t < L.length by omega)
        obtain ⟨x0, hx0⟩ : ∃ z, z = L.getD t (0, 0) := ⟨_, rfl⟩
        rw [← hx0] at hdr htk
        have hMi : M = wo d v (L.take t) ++ x0 :: (L.drop (t + 1) ++ (ren d v to (wo d v L) (L.take t)).1) := by rw [hM, hdr]; rfl
        have hqM : q < M.length := by rw [hMi, List.length_append, hq, List.length_cons]; omega
        have hpq := hTI.1 q (by omega)
        have hkey : ∀ e, e < 2 → N e (p q) = sd e x0 := fun e he => by rw [hTI.2.2.2.1 e q he hqM, hMi, hq, key_mid]
        refine lv_aload_n hx hb dX2_moveAll_22 rfl (lv_at hl 4 rfl) ?_
        refine va_get (D := G.1) (ci := 2) (v := .ref (a 1)) (C := RX2) (T := TX2) (N := 5) hx hb hts hinX2 hown hK.1 hP 0 rfl rfl 0 (by decide) (hts (.fieldLink RX2 9 "PairThreads$Threads" "order" "[I") (by decide +kernel)) (fun _ h9 => h9) rfl dX2_moveAll_23 ?_
        refine lv_iload hx hb dX2_moveAll_26 (lv_at hl 2 rfl) ?_
        refine z_ialdN hx hb hK hP 1 rfl (j := q) (by omega) (by decide) dX2_moveAll_28 ?_
        refine lv_istore (lv' := [(8, .int (nI (p q))), (7, .int (nI t)), (6, .int (nI L.length)), (5, .int (nI q)), (4, .int (nI ((ren d v to (wo d v L) (L.take t)).2))), (0, .ref (a 0)), (1, .int (nI d)), (2, .int (v)), (3, .int (to))]) hx hb dX2_moveAll_29 hl (by decide) rfl (fun ls hl => ?_)
        refine lv_aload_n hx hb dX2_moveAll_31 rfl (lv_at hl 5 rfl) ?_
        refine va_get (D := G.1) (ci := 2) (v := .ref (a 2)) (C := RX2) (T := TX2) (N := 5) hx hb hts hinX2 hown hK.1 hP 0 rfl rfl 1 (by decide) (hts (.fieldLink RX2 17 "PairThreads$Threads" "number" "[[I") (by decide +kernel)) (fun _ h9 => h9) rfl dX2_moveAll_32 ?_
        refine lv_iload_n hx hb dX2_moveAll_35 rfl (lv_at hl 6 rfl) ?_
        refine z_ald hx hb hK hP 2 rfl (j := d) (by omega) (by decide) dX2_moveAll_36 ?_
        refine lv_iload hx hb dX2_moveAll_37 (lv_at hl 0 rfl) ?_
        refine z_iald hx hb hK hP (5 + d) (cT_N hd) (j := p q) (by omega) (by decide) dX2_moveAll_39 ?_
        refine lv_iload_n hx hb dX2_moveAll_40 rfl (lv_at hl 7 rfl) ?_
        refine lv_icmp_eq (tgt := 50) hx hb dX2_moveAll_41 (by decide) (fun hc2 => ?_) (fun hc2 => ?_)
        · rw [hkey d hd] at hc2
          refine lv_iload_n hx hb dX2_moveAll_50 rfl (lv_at hl 6 rfl) ?_
          refine z_if_ne (tgt := 58) hx hb (by omega) dX2_moveAll_51 (by decide) (fun hc3 => ?_) (fun hc3 => ?_)
          · have hd1 : d = 1 := by omega
            refine lv_aload_n hx hb dX2_moveAll_58 rfl (lv_at hl 5 rfl) ?_
            refine va_get (D := G.1) (ci := 2) (v := .ref (a 2)) (C := RX2) (T := TX2) (N := 5) hx hb hts hinX2 hown hK.1 hP 0 rfl rfl 1 (by decide) (hts (.fieldLink RX2 17 "PairThreads$Threads" "number" "[[I") (by decide +kernel)) (fun _ h9 => h9) rfl dX2_moveAll_59 ?_
            refine lv_iconst (v := nI 0) hx hb dX2_moveAll_62 rfl ?_
            refine z_ald hx hb hK hP 2 rfl (j := 0) (by omega) (by decide) dX2_moveAll_63 ?_
            refine lv_iload hx hb dX2_moveAll_64 (lv_at hl 0 rfl) ?_
            refine z_iald hx hb hK hP 5 rfl (j := p q) (by omega) (by decide) dX2_moveAll_66 ?_
            refine lv_istore (lv' := [(9, .int (N 0 (p q))), (8, .int (nI (p q))), (7, .int (nI t)), (6, .int (nI L.length)), (5, .int (nI q)), (4, .int (nI ((ren d v to (wo d v L) (L.take t)).2))), (0, .ref (a 0)), (1, .int (nI d)), (2, .int (v)), (3, .int (to))]) hx hb dX2_moveAll_67 hl (by decide) rfl (fun ls hl => ?_)
            refine lv_iload_n hx hb dX2_moveAll_69 rfl (lv_at hl 7 rfl) ?_
            refine lv_iconst (v := nI 1) hx hb dX2_moveAll_70 rfl ?_
            refine z_icmp_ne (tgt := 78) hx hb (by omega) (by omega) dX2_moveAll_71 (by decide) (fun hc4 => ?_) (fun hc4 => ?_)
            · exact absurd hd1 hc4
            · refine lv_iload_n hx hb dX2_moveAll_74 rfl (lv_at hl 9 rfl) ?_
              refine lv_goto (tgt := 87) hx hb dX2_moveAll_75 (by decide) ?_
              refine lv_istore (lv' := [(10, .int (to)), (9, .int (N 0 (p q))), (8, .int (nI (p q))), (7, .int (nI t)), (6, .int (nI L.length)), (5, .int (nI q)), (4, .int (nI ((ren d v to (wo d v L) (L.take t)).2))), (0, .ref (a 0)), (1, .int (nI d)), (2, .int (v)), (3, .int (to))]) hx hb dX2_moveAll_87 hl (by decide) rfl (fun ls hl => ?_)
              have hxy : (N 0 (p q), to) = mkp d to (od d x0) := by rw [hkey 0 (by omega), hd1]; rfl
              refine lv_aload_n hx hb dX2_moveAll_89 rfl (lv_at hl 7 rfl) ?_
              refine lv_iload hx hb dX2_moveAll_90 (lv_at hl 5 rfl) ?_
              refine z_callV (rest := []) 1 ⟨hx, hb, hml, hown, hts⟩ hK (c_takeOut l G a p N B F M hTI q hqM hnd) gX2_moveAll_X2_takeOut rfl (by decide +kernel) ⟨Nat.le_of_ble_eq_true rfl, Nat.le_of_ble_eq_true rfl⟩ hP 0 rfl rfl rfl rfl hl.1 rfl (Nat.le_of_ble_eq_true rfl) dX2_moveAll_92 ⟨Nat.le_refl _, Nat.le_refl _⟩ hS (fun _ h => h) (fun v9 H9 locs hR9 hk9 hS => ?_)
              obtain ⟨rfl, p2, N2, B2, F2, hTI2, hP⟩ := hR9
              clear hk9
              generalize H9 = H at hP hS ⊢
              refine W.eq (g2 := F0 m 95 ls []) rfl ?_
              obtain ⟨M2, eM2⟩ : ∃ z, z = M.eraseIdx q := ⟨_, rfl⟩
              rw [← eM2] at hTI2 hP
              have hM2 : M2 = wo d v (L.take t) ++ (L.drop (t + 1) ++ (ren d v to (wo d v L) (L.take t)).1) := by rw [eM2, hMi]; exact erase_at hq.symm
              have hM2l : M2.length < 300 := by rw [eM2, List.length_eraseIdx_of_lt hqM]; omega
              refine lv_aload_n hx hb dX2_moveAll_95 rfl (lv_at hl 7 rfl) ?_
              refine lv_iload hx hb dX2_moveAll_96 (lv_at hl 1 rfl) ?_
              refine lv_iload hx hb dX2_moveAll_98 (lv_at hl 0 rfl) ?_
              refine z_callV (rest := []) 2 ⟨hx, hb, hml, hown, hts⟩ hK (c_placeOf l G a p2 N2 B2 F2 M2.length (N 0 (p q)) to (by omega) hTI2.1) gX2_moveAll_X2_placeOf rfl (by decide +kernel) ⟨Nat.le_of_ble_eq_true rfl, Nat.le_of_ble_eq_true rfl⟩ hP 0 rfl rfl rfl rfl hl.1 rfl (Nat.le_of_ble_eq_true rfl) dX2_moveAll_100 ⟨Nat.le_refl _, Nat.le_refl _⟩ hS (fun _ h => h.elim) (fun v9 H9 locs hR9 hk9 hS => ?_)
              obtain ⟨o, rfl, ho⟩ := hR9
              have hP := P_keep0 hP hk9
              clear hk9
              generalize H9 = H at hP hS ⊢
              refine W.eq (g2 := F0 m 103 ls [.int (lk o)]) rfl ?_
              have hmem := placeR_mem (fun i hi => hTI2.2.2.2.1 0 i (by omega) hi) (fun i hi => hTI2.2.2.2.1 1 i (by omega) hi) ho
              rw [hM2, hxy, move_mem (by omega) (by rw [← hx0]; exact hc2) hto (sd_mkp d to _)] at hmem
              have hwo : wo d v (L.take (t + 1)) = wo d v (L.take t) := by rw [htk, wo_app, wo_hit hc2]; exact List.append_nil _
              refine lv_iconst (v := (-1)) hx hb dX2_moveAll_103 rfl ?_
              refine z_none_ne (tgt := 118) hx hb (fun k hk => by rcases ho with ⟨e1, -⟩ | ⟨j, e1, h1, -⟩; rw [e1] at hk; cases hk; rw [e1] at hk; cases hk; omega) dX2_moveAll_104 (by decide) (fun k hc5 => ?_) (fun hc5 => ?_)
              · have hin : mkp d to (od d x0) ∈ wo d v L ++ (ren d v to (wo d v L) (L.take t)).1 := Decidable.byContradiction (fun z => by rw [hmem.mpr z] at hc5; cases hc5)
                have hrn : ren d v to (wo d v L) (L.take (t + 1)) = ren d v to (wo d v L) (L.take t) := by rw [htk, ren_snoc]; unfold renS; rw [if_pos hc2, if_pos hin]
                refine z_iinc (lv' := [(7, .int (nI (t + 1))), (10, .int (to)), (9, .int (N 0 (p q))), (8, .int (nI (p q))), (6, .int (nI L.length)), (5, .int (nI q)), (4, .int (nI ((ren d v to (wo d v L) (L.take t)).2))), (0, .ref (a 0)), (1, .int (nI d)), (2, .int (v)), (3, .int (to))]) hx hb dX2_moveAll_118 hl (k := 3) rfl (by decide) rfl (fun ls hl => ?_)
                refine lv_goto (tgt := 15) hx hb dX2_moveAll_121 (by decide) ?_
                have hl : lv_has ls 11 [(7, .int (nI (t + 1))), (10, .int (to)), (9, .int (N 0 (p q))), (8, .int (nI (p q))), (6, .int (nI L.length)), (5, .int (nI ((wo d v (L.take (t + 1))).length))), (4, .int (nI ((ren d v to (wo d v L) (L.take (t + 1))).2))), (0, .ref (a 0)), (1, .int (nI d)), (2, .int (v)), (3, .int (to))] := by rw [hwo, hrn, ← hq]; exact hl
                exact ih (t + 1) M2 p2 N2 B2 F2 H locs ls (by omega) (by omega) (by rw [hwo, hrn]; exact hM2) hTI2 hP hS (lv_sub hl [0, 4, 5, 6, 7, 8, 9, 10] rfl)
              · have hout : ¬ mkp d to (od d x0) ∈ wo d v L ++ (ren d v to (wo d v L) (L.take t)).1 := hmem.mp hc5
                have hrn : ren d v to (wo d v L) (L.take (t + 1)) = ((ren d v to (wo d v L) (L.take t)).1 ++ [mkp d to (od d x0)], (ren d v to (wo d v L) (L.take t)).2 + 1) := by rw [htk, ren_snoc]; unfold renS; rw [if_pos hc2, if_neg hout]
                refine lv_aload_n hx hb dX2_moveAll_107 rfl (lv_at hl 7 rfl) ?_
                refine lv_iload hx hb dX2_moveAll_108 (lv_at hl 1 rfl) ?_
                refine lv_iload hx hb dX2_moveAll_110 (lv_at hl 0 rfl) ?_
                refine z_callV (rest := []) 2 ⟨hx, hb, hml, hown, hts⟩ hK (c_append l G a p2 N2 B2 F2 M2 hTI2 (N 0 (p q)) to hM2l hnd) gX2_moveAll_X2_append rfl (by decide +kernel) ⟨Nat.le_of_ble_eq_true rfl, Nat.le_of_ble_eq_true rfl⟩ hP 0 rfl rfl rfl rfl hl.1 rfl (Nat.le_of_ble_eq_true rfl) dX2_moveAll_112 ⟨Nat.le_refl _, Nat.le_refl _⟩ hS (fun _ h => h) (fun v9 H9 locs hR9 hk9 hS => ?_)
                obtain ⟨rfl, p3, N3, B3, F3, hTI3, hP⟩ := hR9
                clear hk9
                generalize H9 = H at hP hS ⊢
                refine W.eq (g2 := F0 m 115 ls []) rfl ?_
                obtain ⟨M3, eM3⟩ : ∃ z, z = M2 ++ [(N 0 (p q), to)] := ⟨_, rfl⟩
                rw [← eM3] at hTI3 hP
                refine z_iinc (lv' := [(4, .int (nI ((ren d v to (wo d v L) (L.take t)).2 + 1))), (10, .int (to)), (9, .int (N 0 (p q))), (8, .int (nI (p q))), (7, .int (nI t)), (6, .int (nI L.length)), (5, .int (nI q)), (0, .ref (a 0)), (1, .int (nI d)), (2, .int (v)), (3, .int (to))]) hx hb dX2_moveAll_115 hl (k := 6) rfl (by decide) rfl (fun ls hl => ?_)
                refine z_iinc (lv' := [(7, .int (nI (t + 1))), (4, .int (nI ((ren d v to (wo d v L) (L.take t)).2 + 1))), (10, .int (to)), (9, .int (N 0 (p q))), (8, .int (nI (p q))), (6, .int (nI L.length)), (5, .int (nI q)), (0, .ref (a 0)), (1, .int (nI d)), (2, .int (v)), (3, .int (to))]) hx hb dX2_moveAll_118 hl (k := 4) rfl (by decide) rfl (fun ls hl => ?_)
                refine lv_goto (tgt := 15) hx hb dX2_moveAll_121 (by decide) ?_
                have hl : lv_has ls 11 [(7, .int (nI (t + 1))), (4, .int (nI ((ren d v to (wo d v L) (L.take (t + 1))).2))), (10, .int (to)), (9, .int (N 0 (p q))), (8, .int (nI (p q))), (6, .int (nI L.length)), (5, .int (nI ((wo d v (L.take (t + 1))).length))), (0, .ref (a 0)), (1, .int (nI d)), (2, .int (v)), (3, .int (to))] := by rw [hwo, hrn, ← hq]; exact hl
                exact ih (t + 1) M3 p3 N3 B3 F3 H locs ls (by omega) (by omega) (by rw [hwo, hrn, eM3, hM2, hxy]; simp only [List.append_assoc]) hTI3 hP hS (lv_sub hl [0, 5, 6, 1, 7, 8, 9, 10] rfl)
          · refine lv_iload_n hx hb dX2_moveAll_54 rfl (lv_at hl 8 rfl) ?_
            refine lv_goto (tgt := 67) hx hb dX2_moveAll_55 (by decide) ?_
            refine lv_istore (lv' := [(9, .int (to)), (8, .int (nI (p q))), (7, .int (nI t)), (6, .int (nI L.length)), (5, .int (nI q)), (4, .int (nI ((ren d v to (wo d v L) (L.take t)).2))), (0, .ref (a 0)), (1, .int (nI d)), (2, .int (v)), (3, .int (to))]) hx hb dX2_moveAll_67 hl (by decide) rfl (fun ls hl => ?_)
            refine lv_iload_n hx hb dX2_moveAll_69 rfl (lv_at hl 7 rfl) ?_
            refine lv_iconst (v := nI 1) hx hb dX2_moveAll_70 rfl ?_
            refine z_icmp_ne (tgt := 78) hx hb (by omega) (by omega) dX2_moveAll_71 (by decide) (fun hc6 => ?_) (fun hc6 => ?_)
            · refine lv_aload_n hx hb dX2_moveAll_78 rfl (lv_at hl 6 rfl) ?_
              refine va_get (D := G.1) (ci := 2) (v := .ref (a 2)) (C := RX2) (T := TX2) (N := 5) hx hb hts hinX2 hown hK.1 hP 0 rfl rfl 1 (by decide) (hts (.fieldLink RX2 17 "PairThreads$Threads" "number" "[[I") (by decide +kernel)) (fun _ h9 => h9) rfl dX2_moveAll_79 ?_
              refine lv_iconst (v := nI 1) hx hb dX2_moveAll_82 rfl ?_
              refine z_ald hx hb hK hP 2 rfl (j := 1) (by omega) (by decide) dX2_moveAll_83 ?_
              refine lv_iload hx hb dX2_moveAll_84 (lv_at hl 1 rfl) ?_
              refine z_iald hx hb hK hP 6 rfl (j := p q) (by omega) (by decide) dX2_moveAll_86 ?_
              refine lv_istore (lv' := [(10, .int (N 1 (p q))), (9, .int (to)), (8, .int (nI (p q))), (7, .int (nI t)), (6, .int (nI L.length)), (5, .int (nI q)), (4, .int (nI ((ren d v to (wo d v L) (L.take t)).2))), (0, .ref (a 0)), (1, .int (nI d)), (2, .int (v)), (3, .int (to))]) hx hb dX2_moveAll_87 hl (by decide) rfl (fun ls hl => ?_)
              have hxy : (to, N 1 (p q)) = mkp d to (od d x0) := by rw [hkey 1 (by omega), hc3]; rfl
              refine lv_aload_n hx hb dX2_moveAll_89 rfl (lv_at hl 7 rfl) ?_
              refine lv_iload hx hb dX2_moveAll_90 (lv_at hl 5 rfl) ?_
              refine z_callV (rest := []) 1 ⟨hx, hb, hml, hown, hts⟩ hK (c_takeOut l G a p N B F M hTI q hqM hnd) gX2_moveAll_X2_takeOut rfl (by decide +kernel) ⟨Nat.le_of_ble_eq_true rfl, Nat.le_of_ble_eq_true rfl⟩ hP 0 rfl rfl rfl rfl hl.1 rfl (Nat.le_of_ble_eq_true rfl) dX2_moveAll_92 ⟨Nat.le_refl _, Nat.le_refl _⟩ hS (fun _ h => h) (fun v9 H9 locs hR9 hk9 hS => ?_)
              obtain ⟨rfl, p2, N2, B2, F2, hTI2, hP⟩ := hR9
              clear hk9
              generalize H9 = H at hP hS ⊢
              refine W.eq (g2 := F0 m 95 ls []) rfl ?_
              obtain ⟨M2, eM2⟩ : ∃ z, z = M.eraseIdx q := ⟨_, rfl⟩
              rw [← eM2] at hTI2 hP
              have hM2 : M2 = wo d v (L.take t) ++ (L.drop (t + 1) ++ (ren d v to (wo d v L) (L.take t)).1) := by rw [eM2, hMi]; exact erase_at hq.symm
              have hM2l : M2.length < 300 := by rw [eM2, List.length_eraseIdx_of_lt hqM]; omega
              refine lv_aload_n hx hb dX2_moveAll_95 rfl (lv_at hl 7 rfl) ?_
              refine lv_iload hx hb dX2_moveAll_96 (lv_at hl 1 rfl) ?_
              refine lv_iload hx hb dX2_moveAll_98 (lv_at hl 0 rfl) ?_
              refine z_callV (rest := []) 2 ⟨hx, hb, hml, hown, hts⟩ hK (c_placeOf l G a p2 N2 B2 F2 M2.length to (N 1 (p q)) (by omega) hTI2.1) gX2_moveAll_X2_placeOf rfl (by decide +kernel) ⟨Nat.le_of_ble_eq_true rfl, Nat.le_of_ble_eq_true rfl⟩ hP 0 rfl rfl rfl rfl hl.1 rfl (Nat.le_of_ble_eq_true rfl) dX2_moveAll_100 ⟨Nat.le_refl _, Nat.le_refl _⟩ hS (fun _ h => h.elim) (fun v9 H9 locs hR9 hk9 hS => ?_)
              obtain ⟨o, rfl, ho⟩ := hR9
              have hP := P_keep0 hP hk9
              clear hk9
              generalize H9 = H at hP hS ⊢
              refine W.eq (g2 := F0 m 103 ls [.int (lk o)]) rfl ?_
              have hmem := placeR_mem (fun i hi => hTI2.2.2.2.1 0 i (by omega) hi) (fun i hi => hTI2.2.2.2.1 1 i (by omega) hi) ho
              rw [hM2, hxy, move_mem (by omega) (by rw [← hx0]; exact hc2) hto (sd_mkp d to _)] at hmem
              have hwo : wo d v (L.take (t + 1)) = wo d v (L.take t) := by rw [htk, wo_app, wo_hit hc2]; exact List.append_nil _
              refine lv_iconst (v := (-1)) hx hb dX2_moveAll_103 rfl ?_
              refine z_none_ne (tgt := 118) hx hb (fun k hk => by rcases ho with ⟨e1, -⟩ | ⟨j, e1, h1, -⟩; rw [e1] at hk; cases hk; rw [e1] at hk; cases hk; omega) dX2_moveAll_104 (by decide) (fun k hc7 => ?_) (fun hc7 => ?_)
              · have hin : mkp d to (od d x0) ∈ wo d v L ++ (ren d v to (wo d v L) (L.take t)).1 := Decidable.byContradiction (fun z => by rw [hmem.mpr z] at hc7; cases hc7)
                have hrn : ren d v to (wo d v L) (L.take (t + 1)) = ren d v to (wo d v L) (L.take t) := by rw [htk, ren_snoc]; unfold renS; rw [if_pos hc2, if_pos hin]
                refine z_iinc (lv' := [(7, .int (nI (t + 1))), (10, .int (N 1 (p q))), (9, .int (to)), (8, .int (nI (p q))), (6, .int (nI L.length)), (5, .int (nI q)), (4, .int (nI ((ren d v to (wo d v L) (L.take t)).2))), (0, .ref (a 0)), (1, .int (nI d)), (2, .int (v)), (3, .int (to))]) hx hb dX2_moveAll_118 hl (k := 3) rfl (by decide) rfl (fun ls hl => ?_)
                refine lv_goto (tgt := 15) hx hb dX2_moveAll_121 (by decide) ?_
                have hl : lv_has ls 11 [(7, .int (nI (t + 1))), (10, .int (N 1 (p q))), (9, .int (to)), (8, .int (nI (p q))), (6, .int (nI L.length)), (5, .int (nI ((wo d v (L.take (t + 1))).length))), (4, .int (nI ((ren d v to (wo d v L) (L.take (t + 1))).2))), (0, .ref (a 0)), (1, .int (nI d)), (2, .int (v)), (3, .int (to))] := by rw [hwo, hrn, ← hq]; exact hl
                exact ih (t + 1) M2 p2 N2 B2 F2 H locs ls (by omega) (by omega) (by rw [hwo, hrn]; exact hM2) hTI2 hP hS (lv_sub hl [0, 4, 5, 6, 7, 8, 9, 10] rfl)
              · have hout : ¬ mkp d to (od d x0) ∈ wo d v L ++ (ren d v to (wo d v L) (L.take t)).1 := hmem.mp hc7
                have hrn : ren d v to (wo d v L) (L.take (t + 1)) = ((ren d v to (wo d v L) (L.take t)).1 ++ [mkp d to (od d x0)], (ren d v to (wo d v L) (L.take t)).2 + 1) := by rw [htk, ren_snoc]; unfold renS; rw [if_pos hc2, if_neg hout]
                refine lv_aload_n hx hb dX2_moveAll_107 rfl (lv_at hl 7 rfl) ?_
                refine lv_iload hx hb dX2_moveAll_108 (lv_at hl 1 rfl) ?_
                refine lv_iload hx hb dX2_moveAll_110 (lv_at hl 0 rfl) ?_
                refine z_callV (rest := []) 2 ⟨hx, hb, hml, hown, hts⟩ hK (c_append l G a p2 N2 B2 F2 M2 hTI2 to (N 1 (p q)) hM2l hnd) gX2_moveAll_X2_append rfl (by decide +kernel) ⟨Nat.le_of_ble_eq_true rfl, Nat.le_of_ble_eq_true rfl⟩ hP 0 rfl rfl rfl rfl hl.1 rfl (Nat.le_of_ble_eq_true rfl) dX2_moveAll_112 ⟨Nat.le_refl _, Nat.le_refl _⟩ hS (fun _ h => h) (fun v9 H9 locs hR9 hk9 hS => ?_)
                obtain ⟨rfl, p3, N3, B3, F3, hTI3, hP⟩ := hR9
                clear hk9
                generalize H9 = H at hP hS ⊢
                refine W.eq (g2 := F0 m 115 ls []) rfl ?_
                obtain ⟨M3, eM3⟩ : ∃ z, z = M2 ++ [(to, N 1 (p q))] := ⟨_, rfl⟩
                rw [← eM3] at hTI3 hP
                refine z_iinc (lv' := [(4, .int (nI ((ren d v to (wo d v L) (L.take t)).2 + 1))), (10, .int (N 1 (p q))), (9, .int (to)), (8, .int (nI (p q))), (7, .int (nI t)), (6, .int (nI L.length)), (5, .int (nI q)), (0, .ref (a 0)), (1, .int (nI d)), (2, .int (v)), (3, .int (to))]) hx hb dX2_moveAll_115 hl (k := 6) rfl (by decide) rfl (fun ls hl => ?_)
                refine z_iinc (lv' := [(7, .int (nI (t + 1))), (4, .int (nI ((ren d v to (wo d v L) (L.take t)).2 + 1))), (10, .int (N 1 (p q))), (9, .int (to)), (8, .int (nI (p q))), (6, .int (nI L.length)), (5, .int (nI q)), (0, .ref (a 0)), (1, .int (nI d)), (2, .int (v)), (3, .int (to))]) hx hb dX2_moveAll_118 hl (k := 4) rfl (by decide) rfl (fun ls hl => ?_)
                refine lv_goto (tgt := 15) hx hb dX2_moveAll_121 (by decide) ?_
                have hl : lv_has ls 11 [(7, .int (nI (t + 1))), (4, .int (nI ((ren d v to (wo d v L) (L.take (t + 1))).2))), (10, .int (N 1 (p q))), (9, .int (to)), (8, .int (nI (p q))), (6, .int (nI L.length)), (5, .int (nI ((wo d v (L.take (t + 1))).length))), (0, .ref (a 0)), (1, .int (nI d)), (2, .int (v)), (3, .int (to))] := by rw [hwo, hrn, ← hq]; exact hl
                exact ih (t + 1) M3 p3 N3 B3 F3 H locs ls (by omega) (by omega) (by rw [hwo, hrn, eM3, hM2, hxy]; simp only [List.append_assoc]) hTI3 hP hS (lv_sub hl [0, 5, 6, 1, 7, 8, 9, 10] rfl)
            · exact absurd (hc3.symm.trans hc6) (by decide)
        · rw [hkey d hd] at hc2
          have hwo : wo d v (L.take (t + 1)) = wo d v (L.take t) ++ [x0] := by rw [htk, wo_app, wo_miss hc2]; rfl
          have hrn : ren d v to (wo d v L) (L.take (t + 1)) = ren d v to (wo d v L) (L.take t) := by rw [htk, ren_snoc]; unfold renS; rw [if_neg hc2]
          refine z_iinc (lv' := [(5, .int (nI (q + 1))), (8, .int (nI (p q))), (7, .int (nI t)), (6, .int (nI L.length)), (4, .int (nI ((ren d v to (wo d v L) (L.take t)).2))), (0, .ref (a 0)), (1, .int (nI d)), (2, .int (v)), (3, .int (to))]) hx hb dX2_moveAll_44 hl (k := 3) rfl (by decide) rfl (fun ls hl => ?_)
          refine lv_goto (tgt := 118) hx hb dX2_moveAll_47 (by decide) ?_
          refine z_iinc (lv' := [(7, .int (nI (t + 1))), (5, .int (nI (q + 1))), (8, .int (nI (p q))), (6, .int (nI L.length)), (4, .int (nI ((ren d v to (wo d v L) (L.take t)).2))), (0, .ref (a 0)), (1, .int (nI d)), (2, .int (v)), (3, .int (to))]) hx hb dX2_moveAll_118 hl (k := 2) rfl (by decide) rfl (fun ls hl => ?_)
          refine lv_goto (tgt := 15) hx hb dX2_moveAll_121 (by decide) ?_
          have hl : lv_has ls 11 [(7, .int (nI (t + 1))), (5, .int (nI ((wo d v (L.take (t + 1))).length))), (8, .int (nI (p q))), (6, .int (nI L.length)), (4, .int (nI ((ren d v to (wo d v L) (L.take (t + 1))).2))), (0, .ref (a 0)), (1, .int (nI d)), (2, .int (v)), (3, .int (to))] := by rw [hwo, hrn, List.length_append, ← hq]; exact hl
          exact ih (t + 1) M p N B F H locs ls (by omega) (by omega) (by rw [hwo, hrn, hMi, List.append_assoc]; rfl) hTI hP hS (lv_sub hl [0, 3, 1, 4, 5, 6, 7, 8] rfl)
  exact loop (L.length + 1) 0 L p N B F _ _ ls (by omega) (by omega) (by simp [wo, ren]) hTI hP hS (lv_sub hl [0, 1, 2, 3, 4, 5, 6, 7] rfl)
