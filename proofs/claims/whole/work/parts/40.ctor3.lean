theorem va_P_left {D : va_G} {cl : List vw_C} {w1 w2 : va_W} {H : Heap} (h : va_P D cl (w1 ++ w2) H) : va_P D cl w1 H := fun k q hk => h k q (by rw [List.getElem?_append_left (List.getElem?_eq_some_iff.mp hk).1]; exact hk)
theorem va_P_right {D : va_G} {cl : List vw_C} {w1 w2 : va_W} {H : Heap} (h : va_P D cl (w1 ++ w2) H) : va_P D cl w2 H := fun k q hk => h (w1.length + k) q (by rw [List.getElem?_append_right (by omega), show w1.length + k - w1.length = k by omega]; exact hk)
set_option maxHeartbeats 4000000 in
set_option maxRecDepth 100000 in
/-- PairThreads() -/
theorem c_X3_init (l : Launch) (G : Gd) (h0 sz : Nat) : Mn l yX3_init wsX3_init 2 27 5427 33 [.ref h0] G [(h0, .inr (3, [.null, .null, .null]))] sz (fun h => ∃ a : Nat → Nat, a 27 = h0 ∧ (aA a).Nodup ∧ (∀ x ∈ aA a, x = h0 ∨ sz ≤ x) ∧ cAL G a [] h) := by
  refine Mn.mk cX3_init 1 (by decide) rfl (Nat.le_of_ble_eq_true rfl) ?_
  intro p9 e s m below meth c ls hx hb hr hml hts hown hlocks hnm hsz hP hK hAO hl
  have hin9 : meth.name = "<init>" := hnm
  have hinX3 : ∀ w ∈ wsX30, w ∈ wsX3_init := by decide +kernel
  subst hsz
  obtain ⟨A, hAe⟩ : ∃ A, A = va_A [(h0, .inr (3, [.null, .null, .null]))] s.heap.size := ⟨_, rfl⟩
  have hD : va_D A [(h0, .inr (3, [.null, .null, .null]))] := by rw [hAe]; exact (D_of (A := fun _ => True) (AL := [h0]) (by simp) (fun _ _ => trivial) _ rfl).self
  have hA : ∀ q : Nat, s.heap.size ≤ q → A q := fun q h => by rw [hAe]; exact Or.inr h
  have hS : va_S A s.heap s.heap [] := va_S.rf
  have hl : lv_has ls 1 [(0, .ref h0)] := hl
  have hown : s.vm.findClass RX3 = some m.cls := hown
  rw [← hAe]
  refine lv_aload_n hx hb dX3_init_0 rfl (lv_at hl 0 rfl) ?_
  refine W.objInit hx hb hown (hts (.methodLink RX3 1 objectInit) (by decide +kernel)) (hts (.instanceMethod objectInit) (by decide +kernel)) (hts (.code objectInit ⟨#[0xb1]⟩ 1 none) (by decide +kernel)) rfl (by rw [hml]; exact hl.1) rfl dX3_init_1 (Nat.le_of_ble_eq_true rfl) (Nat.le_of_ble_eq_true rfl) ?_
  refine W.eq (g2 := F0 m 4 ls []) rfl ?_
  refine lv_aload_n hx hb dX3_init_4 rfl (lv_at hl 0 rfl) ?_
  have hinX2 : ∀ w ∈ wsX20, w ∈ wsX3_init := by decide +kernel
  have hinX1 : ∀ w ∈ wsX10, w ∈ wsX3_init := by decide +kernel
  have hinX0 : ∀ w ∈ wsX00, w ∈ wsX3_init := by decide +kernel
  have hnd0 : ([h0] : List Nat).Nodup := by simp
  have hAm0 : ∀ x ∈ ([h0] : List Nat), A x := fun x hx9 => by rw [List.mem_singleton.mp hx9, hAe]; exact Or.inl ⟨0, _, rfl⟩
  refine va_new (ci := 2) (fs := [.null, .null, .null, .null, .int 0]) (C := RX2) (T := TX2) (N := 5) hx hb hts hinX2 tyX2 tyX2_ok hown (hts (.classLink RX3 7 RX2) (by decide +kernel)) (hts (.instantiable RX2 5) (by decide +kernel)) (hts (.initialized RX2) (by decide +kernel)) hK.1 hP hD hS hA rfl (fun j hj => by rcases (show j = 0 ∨ j = 1 ∨ j = 2 ∨ j = 3 ∨ j = 4 by omega) with rfl | rfl | rfl | rfl | rfl <;> rfl) (Nat.le_of_ble_eq_true rfl) (Nat.le_of_ble_eq_true rfl) dX3_init_5 (fun q1 H hP hD hS => ?_)
  refine lv_dup hx hb dX3_init_8 rfl ?_
  have hPo : va_P G.1 vwCl ([(h0, .inr (3, [.null, .null, .null]))]) H := (va_P_left hP)
  have hPq : va_P G.1 vwCl [(q1, .inr (2, [.null, .null, .null, .null, .int 0]))] H := (va_P_right hP)
  have hnq : ([h0] ++ [q1]).Nodup := by have h9 := D_nodup hD; rw [List.map_append] at h9; exact h9
  have hAq : A q1 := D_mem hD q1 (by rw [List.map_append]; exact List.mem_append_right _ (List.mem_singleton.mpr rfl))
  have hlt9 : ∀ x ∈ [h0], x < H.size := fun x hx9 => lt_all hPo x hx9
  have hsH : s.heap.size ≤ H.size := hS.1
  refine z_callI (As := []) (rest := [.ref q1, .ref h0]) 0 ⟨hx, hb, hml, hown, hts⟩ hK hAO (c_X2_init l G q1 H.size) gX3_init_X2_init rfl (hts (.initialized RX2) (by decide +kernel)) (hts (.methodLink RX3 9 yX2_init) (by decide +kernel)) (hts (.instanceMethod yX2_init) (by decide +kernel)) rfl (by decide +kernel) ⟨Nat.le_of_ble_eq_true rfl, Nat.le_of_ble_eq_true rfl⟩ hPq rfl hl.1 (Nat.le_of_ble_eq_true rfl) dX3_init_9 ⟨Nat.le_of_ble_eq_true rfl, Nat.le_of_ble_eq_true rfl⟩ hS (fun x hx9 => by rcases A_one hx9 with z | z; rw [z]; exact hAq; exact hA x (Nat.le_trans hS.1 z)) (fun H1 locs hR9 hz9 hk9 hS => ?_)
  obtain ⟨a1, ⟨hh0, hn0, hm0⟩, hP1⟩ := hR9
  have hPk := P_keep hPo hk9 (A_not hnq hlt9)
  have hP := hPk.app hP1
  have hnd1 : ([h0] ++ aT a1).Nodup := nd_join hnq hlt9 hn0 hm0
  have hAm1 : ∀ x ∈ ([h0] ++ aT a1), A x := fun x hx9 => by rcases List.mem_append.mp hx9 with z | z; exact hAm0 x z; rcases hm0 x z with y | y; rw [y]; exact hAq; exact hA x (Nat.le_trans hsH y)
  generalize H1 = H at hP hS ⊢
  have hD : va_D A ([(h0, .inr (3, [.null, .null, .null]))] ++ (cT G a1 (og 300) (fun _ _ => 0) (fun _ _ => some 0) (fun _ _ => some 0) 0 ++ [])) := D_of hnd1 hAm1 _ rfl
  have hP : va_P G.1 vwCl ([(h0, .inr (3, [.null, .null, .null]))] ++ (cT G a1 (og 300) (fun _ _ => 0) (fun _ _ => some 0) (fun _ _ => some 0) 0 ++ [])) H := hP
  refine va_putF (D := G.1) (ci := 3) (v := .ref q1) (ty := .object "PairThreads$Threads") (C := RX3) (T := TX3) (N := 3) hx hb hts hinX3 tyX3 tyX3_ok nmX3 hown hK.1 hP hD hS 0 rfl rfl 0 (by decide) (hts (.fieldLink RX3 10 "PairThreads" "pairs" "LPairThreads$Threads;") (by decide +kernel)) (fun _ h9 => h9) rfl hin9 rfl (by decide +kernel) rfl rfl (Nat.le_of_ble_eq_true rfl) dX3_init_12 (fun H locs hP hD hS => ?_)
  have hP : va_P G.1 vwCl ([(h0, .inr (3, [.ref q1, .null, .null]))] ++ (cT G a1 (og 300) (fun _ _ => 0) (fun _ _ => some 0) (fun _ _ => some 0) 0 ++ [])) H := hP
  have hD : va_D A ([(h0, .inr (3, [.ref q1, .null, .null]))] ++ (cT G a1 (og 300) (fun _ _ => 0) (fun _ _ => some 0) (fun _ _ => some 0) 0 ++ [])) := hD
  refine lv_aload_n hx hb dX3_init_15 rfl (lv_at hl 0 rfl) ?_
  refine va_new (ci := 1) (fs := [.null, .int 0, .null, .null]) (C := RX1) (T := TX1) (N := 4) hx hb hts hinX1 tyX1 tyX1_ok hown (hts (.classLink RX3 16 RX1) (by decide +kernel)) (hts (.instantiable RX1 4) (by decide +kernel)) (hts (.initialized RX1) (by decide +kernel)) hK.1 hP hD hS hA rfl (fun j hj => by rcases (show j = 0 ∨ j = 1 ∨ j = 2 ∨ j = 3 by omega) with rfl | rfl | rfl | rfl <;> rfl) (Nat.le_of_ble_eq_true rfl) (Nat.le_of_ble_eq_true rfl) dX3_init_16 (fun q2 H hP hD hS => ?_)
  refine lv_dup hx hb dX3_init_19 rfl ?_
  have hPo : va_P G.1 vwCl ([(h0, .inr (3, [.ref q1, .null, .null]))] ++ (cT G a1 (og 300) (fun _ _ => 0) (fun _ _ => some 0) (fun _ _ => some 0) 0 ++ [])) H := (va_P_left hP)
  have hPq : va_P G.1 vwCl [(q2, .inr (1, [.null, .int 0, .null, .null]))] H := (va_P_right hP)
  have hnq : (([h0] ++ aT a1) ++ [q2]).Nodup := by have h9 := D_nodup hD; rw [List.map_append] at h9; exact h9
  have hAq : A q2 := D_mem hD q2 (by rw [List.map_append]; exact List.mem_append_right _ (List.mem_singleton.mpr rfl))
  have hlt9 : ∀ x ∈ ([h0] ++ aT a1), x < H.size := fun x hx9 => lt_all hPo x hx9
  have hsH : s.heap.size ≤ H.size := hS.1
  refine z_callIN (As := []) (rest := [.ref q2, .ref h0]) 0 ⟨hx, hb, hml, hown, hts⟩ hK hAO (c_X1_init l G q2 H.size) ggX3_init_X1_init rfl (hts (.initialized RX1) (by decide +kernel)) (host := "PairThreads") (va_Nw.of rfl (hK.2.nmX3_X1 (A := #[]))) (hts (.instanceMethod yX1_init) (by decide +kernel)) rfl (by decide +kernel) ⟨Nat.le_of_ble_eq_true rfl, Nat.le_of_ble_eq_true rfl⟩ hPq rfl hl.1 (Nat.le_of_ble_eq_true rfl) dX3_init_20 ⟨Nat.le_of_ble_eq_true rfl, Nat.le_of_ble_eq_true rfl⟩ hS (fun x hx9 => by rcases A_one hx9 with z | z; rw [z]; exact hAq; exact hA x (Nat.le_trans hS.1 z)) (fun H1 locs hR9 hz9 hk9 hS => ?_)
  obtain ⟨a2, ⟨hh1, hn1, hm1⟩, hP1⟩ := hR9
  have hPk := P_keep hPo hk9 (A_not hnq hlt9)
  have hP := hPk.app hP1
  have hnd2 : (([h0] ++ aT a1) ++ aS a2).Nodup := nd_join hnq hlt9 hn1 hm1
  have hAm2 : ∀ x ∈ (([h0] ++ aT a1) ++ aS a2), A x := fun x hx9 => by rcases List.mem_append.mp hx9 with z | z; exact hAm1 x z; rcases hm1 x z with y | y; rw [y]; exact hAq; exact hA x (Nat.le_trans hsH y)
  generalize H1 = H at hP hS ⊢
  have hD : va_D A ([(h0, .inr (3, [.ref q1, .null, .null]))] ++ (cT G a1 (og 300) (fun _ _ => 0) (fun _ _ => some 0) (fun _ _ => some 0) 0 ++ []) ++ (cS G a2 (fun _ => 0) (fun _ => 0) (fun _ _ => 0) 0)) := D_of hnd2 hAm2 _ rfl
  have hP : va_P G.1 vwCl ([(h0, .inr (3, [.ref q1, .null, .null]))] ++ (cT G a1 (og 300) (fun _ _ => 0) (fun _ _ => some 0) (fun _ _ => some 0) 0 ++ []) ++ (cS G a2 (fun _ => 0) (fun _ => 0) (fun _ _ => 0) 0)) H := hP
  refine va_putF (D := G.1) (ci := 3) (v := .ref q2) (ty := .object "PairThreads$Spread") (C := RX3) (T := TX3) (N := 3) hx hb hts hinX3 tyX3 tyX3_ok nmX3 hown hK.1 hP hD hS 0 rfl rfl 1 (by decide) (hts (.fieldLink RX3 19 "PairThreads" "spread" "LPairThreads$Spread;") (by decide +kernel)) (fun _ h9 => h9) rfl hin9 rfl (by decide +kernel) rfl rfl (Nat.le_of_ble_eq_true rfl) dX3_init_23 (fun H locs hP hD hS => ?_)
  have hP : va_P G.1 vwCl ([(h0, .inr (3, [.ref q1, .ref q2, .null]))] ++ (cT G a1 (og 300) (fun _ _ => 0) (fun _ _ => some 0) (fun _ _ => some 0) 0 ++ []) ++ (cS G a2 (fun _ => 0) (fun _ => 0) (fun _ _ => 0) 0)) H := hP
  have hD : va_D A ([(h0, .inr (3, [.ref q1, .ref q2, .null]))] ++ (cT G a1 (og 300) (fun _ _ => 0) (fun _ _ => some 0) (fun _ _ => some 0) 0 ++ []) ++ (cS G a2 (fun _ => 0) (fun _ => 0) (fun _ _ => 0) 0)) := hD
  refine lv_aload_n hx hb dX3_init_26 rfl (lv_at hl 0 rfl) ?_
  refine va_new (ci := 0) (fs := [.null, .null, .null, .int 0, .null, .null]) (C := RX0) (T := TX0) (N := 6) hx hb hts hinX0 tyX0 tyX0_ok hown (hts (.classLink RX3 23 RX0) (by decide +kernel)) (hts (.instantiable RX0 6) (by decide +kernel)) (hts (.initialized RX0) (by decide +kernel)) hK.1 hP hD hS hA rfl (fun j hj => by rcases (show j = 0 ∨ j = 1 ∨ j = 2 ∨ j = 3 ∨ j = 4 ∨ j = 5 by omega) with rfl | rfl | rfl | rfl | rfl | rfl <;> rfl) (Nat.le_of_ble_eq_true rfl) (Nat.le_of_ble_eq_true rfl) dX3_init_27 (fun q3 H hP hD hS => ?_)
  refine lv_dup hx hb dX3_init_30 rfl ?_
  have hPo : va_P G.1 vwCl ([(h0, .inr (3, [.ref q1, .ref q2, .null]))] ++ (cT G a1 (og 300) (fun _ _ => 0) (fun _ _ => some 0) (fun _ _ => some 0) 0 ++ []) ++ (cS G a2 (fun _ => 0) (fun _ => 0) (fun _ _ => 0) 0)) H := (va_P_left hP)
  have hPq : va_P G.1 vwCl [(q3, .inr (0, [.null, .null, .null, .int 0, .null, .null]))] H := (va_P_right hP)
  have hnq : ((([h0] ++ aT a1) ++ aS a2) ++ [q3]).Nodup := by have h9 := D_nodup hD; rw [List.map_append] at h9; exact h9
  have hAq : A q3 := D_mem hD q3 (by rw [List.map_append]; exact List.mem_append_right _ (List.mem_singleton.mpr rfl))
  have hlt9 : ∀ x ∈ (([h0] ++ aT a1) ++ aS a2), x < H.size := fun x hx9 => lt_all hPo x hx9
  have hsH : s.heap.size ≤ H.size := hS.1
  refine z_callIN (As := []) (rest := [.ref q3, .ref h0]) 0 ⟨hx, hb, hml, hown, hts⟩ hK hAO (c_X0_init l G q3 H.size) ggX3_init_X0_init rfl (hts (.initialized RX0) (by decide +kernel)) (host := "PairThreads") (va_Nw.of rfl (hK.2.nmX3_X0 (A := #[]))) (hts (.instanceMethod yX0_init) (by decide +kernel)) rfl (by decide +kernel) ⟨Nat.le_of_ble_eq_true rfl, Nat.le_of_ble_eq_true rfl⟩ hPq rfl hl.1 (Nat.le_of_ble_eq_true rfl) dX3_init_31 ⟨Nat.le_of_ble_eq_true rfl, Nat.le_of_ble_eq_true rfl⟩ hS (fun x hx9 => by rcases A_one hx9 with z | z; rw [z]; exact hAq; exact hA x (Nat.le_trans hS.1 z)) (fun H1 locs hR9 hz9 hk9 hS => ?_)
  obtain ⟨a3, ⟨hh2, hn2, hm2⟩, hP1⟩ := hR9
  have hPk := P_keep hPo hk9 (A_not hnq hlt9)
  have hP := hPk.app hP1
  have hnd3 : ((([h0] ++ aT a1) ++ aS a2) ++ aM a3).Nodup := nd_join hnq hlt9 hn2 hm2
  have hAm3 : ∀ x ∈ ((([h0] ++ aT a1) ++ aS a2) ++ aM a3), A x := fun x hx9 => by rcases List.mem_append.mp hx9 with z | z; exact hAm2 x z; rcases hm2 x z with y | y; rw [y]; exact hAq; exact hA x (Nat.le_trans hsH y)
  generalize H1 = H at hP hS ⊢
  have hD : va_D A ([(h0, .inr (3, [.ref q1, .ref q2, .null]))] ++ (cT G a1 (og 300) (fun _ _ => 0) (fun _ _ => some 0) (fun _ _ => some 0) 0 ++ []) ++ (cS G a2 (fun _ => 0) (fun _ => 0) (fun _ _ => 0) 0) ++ (cM G a3 (fun _ _ => 0) (fun _ _ => some 0) (fun _ => 0) 0 (fun _ => some 0) (fun _ => 0))) := D_of hnd3 hAm3 _ rfl
  have hP : va_P G.1 vwCl ([(h0, .inr (3, [.ref q1, .ref q2, .null]))] ++ (cT G a1 (og 300) (fun _ _ => 0) (fun _ _ => some 0) (fun _ _ => some 0) 0 ++ []) ++ (cS G a2 (fun _ => 0) (fun _ => 0) (fun _ _ => 0) 0) ++ (cM G a3 (fun _ _ => 0) (fun _ _ => some 0) (fun _ => 0) 0 (fun _ => some 0) (fun _ => 0))) H := hP
  refine va_putF (D := G.1) (ci := 3) (v := .ref q3) (ty := .object "PairThreads$Matching") (C := RX3) (T := TX3) (N := 3) hx hb hts hinX3 tyX3 tyX3_ok nmX3 hown hK.1 hP hD hS 0 rfl rfl 2 (by decide) (hts (.fieldLink RX3 26 "PairThreads" "matching" "LPairThreads$Matching;") (by decide +kernel)) (fun _ h9 => h9) rfl hin9 rfl (by decide +kernel) rfl rfl (Nat.le_of_ble_eq_true rfl) dX3_init_34 (fun H locs hP hD hS => ?_)
  have hP : va_P G.1 vwCl ([(h0, .inr (3, [.ref q1, .ref q2, .ref q3]))] ++ (cT G a1 (og 300) (fun _ _ => 0) (fun _ _ => some 0) (fun _ _ => some 0) 0 ++ []) ++ (cS G a2 (fun _ => 0) (fun _ => 0) (fun _ _ => 0) 0) ++ (cM G a3 (fun _ _ => 0) (fun _ _ => some 0) (fun _ => 0) 0 (fun _ => some 0) (fun _ => 0))) H := hP
  have hD : va_D A ([(h0, .inr (3, [.ref q1, .ref q2, .ref q3]))] ++ (cT G a1 (og 300) (fun _ _ => 0) (fun _ _ => some 0) (fun _ _ => some 0) 0 ++ []) ++ (cS G a2 (fun _ => 0) (fun _ => 0) (fun _ _ => 0) 0) ++ (cM G a3 (fun _ _ => 0) (fun _ _ => some 0) (fun _ => 0) 0 (fun _ => some 0) (fun _ => 0))) := hD
  obtain ⟨a, ha⟩ : ∃ a : Nat → Nat, a = fun i => if i < 11 then a1 i else if i < 17 then a2 i else if i < 27 then a3 i else h0 := ⟨_, rfl⟩
  have e1 : ∀ i, i < 11 → a i = a1 i := fun i hi => by rw [ha]; exact if_pos hi
  have e2 : ∀ i, 11 ≤ i → i < 17 → a i = a2 i := fun i h1 h2 => by rw [ha]; show (if i < 11 then a1 i else if i < 17 then a2 i else if i < 27 then a3 i else h0) = a2 i; rw [if_neg (by omega), if_pos h2]
  have e3 : ∀ i, 17 ≤ i → i < 27 → a i = a3 i := fun i h1 h2 => by rw [ha]; show (if i < 11 then a1 i else if i < 17 then a2 i else if i < 27 then a3 i else h0) = a3 i; rw [if_neg (by omega), if_neg (by omega), if_pos h2]
  have e4 : a 27 = h0 := by rw [ha]; rfl
  have t1 : aT a = aT a1 := by unfold aT; rw [e1 0 (by omega), e1 1 (by omega), e1 2 (by omega), e1 3 (by omega), e1 4 (by omega), e1 5 (by omega), e1 6 (by omega), e1 7 (by omega), e1 8 (by omega), e1 9 (by omega), e1 10 (by omega)]
  have t2 : aS a = aS a2 := by unfold aS; rw [e2 11 (by omega) (by omega), e2 12 (by omega) (by omega), e2 13 (by omega) (by omega), e2 14 (by omega) (by omega), e2 15 (by omega) (by omega), e2 16 (by omega) (by omega)]
  have t3 : aM a = aM a3 := by unfold aM; rw [e3 17 (by omega) (by omega), e3 18 (by omega) (by omega), e3 19 (by omega) (by omega), e3 20 (by omega) (by omega), e3 21 (by omega) (by omega), e3 22 (by omega) (by omega), e3 23 (by omega) (by omega), e3 24 (by omega) (by omega), e3 25 (by omega) (by omega), e3 26 (by omega) (by omega)]
  have hperm : (aA a).Perm ((([h0] ++ aT a1) ++ aS a2) ++ aM a3) := by
    unfold aA
    rw [t1, t2, t3, e4, ← List.append_assoc, ← List.append_assoc]
    refine List.perm_append_comm.trans ?_
    simp only [List.append_assoc]
    exact List.Perm.refl _
  have hT : va_P G.1 vwCl (cT G a1 (og 300) (fun _ _ => 0) (fun _ _ => some 0) (fun _ _ => some 0) 0 ++ []) H := hP.sub [1, 2, 3, 4, 5, 6, 7, 8, 9, 10, 11] rfl
  have hSx : va_P G.1 vwCl (cS G a2 (fun _ => 0) (fun _ => 0) (fun _ _ => 0) 0) H := hP.sub [12, 13, 14, 15, 16, 17] rfl
  have hMx : va_P G.1 vwCl (cM G a3 (fun _ _ => 0) (fun _ _ => some 0) (fun _ => 0) 0 (fun _ => some 0) (fun _ => 0)) H := hP.sub [18, 19, 20, 21, 22, 23, 24, 25, 26, 27] rfl
  have hOx : va_P G.1 vwCl (cP a) H := by
    intro k x hk
    match k, hk with
    | 0, hk => cases hk; rw [e4, e1 0 (by omega), e2 11 (by omega) (by omega), e3 17 (by omega) (by omega), hh0, hh1, hh2]; exact hP 0 _ rfl
    | k + 1, hk => simp [cP] at hk
  have hP9 := (cT_cg e1 hT).app ((cS_cg e2 hSx).app ((cM_cg e3 hMx).app hOx))
  exact z_vret hx hb hr hlocks ⟨rfl, a, e4, hperm.nodup_iff.mpr hnd3, fun x hx9 => by have h9 := hAm3 x (hperm.mem_iff.mp hx9); rw [hAe] at h9; exact A_one h9, og 300, fun _ _ => 0, fun _ _ => some 0, fun _ _ => some 0, fun _ => 0, fun _ => 0, fun _ _ => 0, 0, fun _ _ => 0, fun _ _ => some 0, fun _ => 0, 0, fun _ => some 0, fun _ => 0, TI_new _ _ _, hP9⟩ hS dX3_init_37
