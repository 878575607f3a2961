set_option maxHeartbeats 4000000 in
set_option maxRecDepth 100000 in
/-- the model: parts -/
theorem c_Rparts (l : Launch) (G : Gd) (b : Nat → Nat) (lf : Nat → Int32) (rt : Nat → Int32) (lo : Nat → Nat) (ro : Nat → Nat) (fo : Nat → Option Nat) (no : Nat → Option Nat) (lm : Nat) (rm : Nat) (pa : Nat → Option Nat) (mt : Nat → Int32) (q : Nat → Nat) (cf : Nat → Option Nat) (fa : Nat → Nat) (kp : Nat → Int32) (L : List Pr) (hMI : MI lf rt L) (hnd : (aR b).Nodup) : Mt l yX4_parts wsX4_parts 2 46 [.ref (b 0)] G (cR G b L.length lf rt lo ro fo no lm rm pa mt q cf fa kp) (fun q => q ∈ aR b) (fun r h => r = some (.int (nI (pcn (tch L) L.length L.length))) ∧ ∃ q' fa' : Nat → Nat, va_P G.1 vwCl (cR G b L.length lf rt lo ro fo no lm rm pa mt q' cf fa' kp) h) := by
  refine Mt.mk cX4_parts 3 (some .int) (by decide) rfl (Nat.le_of_ble_eq_true rfl) ?_
  intro p9 e s m below meth c ls hx hb hr hml hts hown hlocks hP hK hl
  have hinX4 : ∀ w ∈ wsX40, w ∈ wsX4_parts := by decide +kernel
  have hS : va_S (fun q => q ∈ aR b) s.heap s.heap [] := va_S.rf
  have hl : lv_has ls 3 [(0, .ref (b 0))] := hl
  have hown : s.vm.findClass RX4 = some m.cls := hown
  have hDD : ∀ ws : va_W, ws.map Prod.fst = aR b → va_D (fun q => q ∈ aR b) ws := D_of hnd (fun q h => h)
  have hn := hMI.1
  refine lv_aload_n hx hb dX4_parts_0 rfl (lv_at hl 0 rfl) ?_
  refine z_callV (rest := []) 0 ⟨hx, hb, hml, hown, hts⟩ hK (c_clearFar l G b lf rt lo ro fo no lm rm pa mt q cf fa kp L hMI hnd) gX4_parts_X4_clearFar rfl (by decide +kernel) ⟨Nat.le_of_ble_eq_true rfl, Nat.le_of_ble_eq_true rfl⟩ hP 0 rfl rfl rfl rfl hl.1 rfl (Nat.le_of_ble_eq_true rfl) dX4_parts_1 ⟨Nat.le_refl _, Nat.le_refl _⟩ hS (fun _ h => h) (fun v9 H9 locs hR9 hk9 hS => ?_)
  obtain ⟨rfl, fa1, hfa1, hP⟩ := hR9
  clear hk9
  generalize H9 = H at hP hS ⊢
  refine W.eq (g2 := F0 m 4 ls []) rfl ?_
  refine lv_iconst (v := nI 0) hx hb dX4_parts_4 rfl ?_
  refine lv_istore_n (lv' := [(1, .int (nI 0)), (0, .ref (b 0))]) hx hb dX4_parts_5 rfl hl (by decide) rfl (fun ls hl => ?_)
  refine lv_iconst (v := nI 0) hx hb dX4_parts_6 rfl ?_
  refine lv_istore_n (lv' := [(2, .int (nI 0)), (1, .int (nI 0)), (0, .ref (b 0))]) hx hb dX4_parts_7 rfl hl (by decide) rfl (fun ls hl => ?_)
  have loop : ∀ (k9 : Nat) (k : Nat) (q : Nat → Nat) (fa : Nat → Nat) (H : Heap) (locs : List Loc) (ls : Array Slot), (L.length < k + k9) → (k ≤ L.length) → (PI (tch L) L.length k fa) → (∀ x, x < L.length → fa x ≤ 300) → va_P G.1 vwCl (cR G b L.length lf rt lo ro fo no lm rm pa mt q cf fa kp) H → va_S (fun q => q ∈ aR b) s.heap H locs → lv_has ls 3 [(2, .int (nI k)), (1, .int (nI (pcn (tch L) L.length k))), (0, .ref (b 0))] → Wz p9 l e 2 46 s m [.ref (b 0)] below meth c (fun q => q ∈ aR b) (fun r h => r = some (.int (nI (pcn (tch L) L.length L.length))) ∧ ∃ q' fa' : Nat → Nat, va_P G.1 vwCl (cR G b L.length lf rt lo ro fo no lm rm pa mt q' cf fa' kp) h) H locs (F0 m 8 ls []) := by
    intro k9
    induction k9 with
    | zero =>
      intro k q fa H locs ls hfuel hk hPI hFB hP hS hl
      exact absurd hfuel (by omega)
    | succ k9 ih =>
      intro k q fa H locs ls hfuel hk hPI hFB hP hS hl
      refine lv_iload_n hx hb dX4_parts_8 rfl (lv_at hl 0 rfl) ?_
      refine lv_aload_n hx hb dX4_parts_9 rfl (lv_at hl 2 rfl) ?_
      refine va_get (D := G.1) (ci := 4) (v := .int (nI L.length)) (C := RX4) (T := TX4) (N := 15) hx hb hts hinX4 hown hK.1 hP 0 rfl rfl 0 (by decide) (hts (.fieldLink RX4 47 "PairThreadsModel" "many" "I") (by decide +kernel)) (fun _ h9 => h9) rfl dX4_parts_10 ?_
      refine z_icmp_ge (tgt := 54) hx hb (by omega) (by omega) dX4_parts_13 (by decide) (fun hc1 => ?_) (fun hc1 => ?_)
      · refine lv_iload_n hx hb dX4_parts_54 rfl (lv_at hl 1 rfl) ?_
        exact z_iret hx hb hr hlocks ⟨by rw [show k = L.length by omega], q, fa, hP⟩ hS dX4_parts_55
      · have hfk := hFB k (by omega)
        refine lv_aload_n hx hb dX4_parts_16 rfl (lv_at hl 2 rfl) ?_
        refine va_get (D := G.1) (ci := 4) (v := .ref (b 11)) (C := RX4) (T := TX4) (N := 15) hx hb hts hinX4 hown hK.1 hP 0 rfl rfl 13 (by decide) (hts (.fieldLink RX4 41 "PairThreadsModel" "far" "[I") (by decide +kernel)) (fun _ h9 => h9) rfl dX4_parts_17 ?_
        refine lv_iload_n hx hb dX4_parts_20 rfl (lv_at hl 0 rfl) ?_
        refine z_ialdN hx hb hK hP 11 rfl (j := k) (by omega) (by decide) dX4_parts_21 ?_
        refine z_if_ne (tgt := 48) hx hb (by omega) dX4_parts_22 (by decide) (fun hc2 => ?_) (fun hc2 => ?_)
        · refine z_iinc (lv' := [(2, .int (nI (k + 1))), (1, .int (nI (pcn (tch L) L.length k))), (0, .ref (b 0))]) hx hb dX4_parts_48 hl (k := 0) rfl (by decide) rfl (fun ls hl => ?_)
          refine lv_goto (tgt := 8) hx hb dX4_parts_51 (by decide) ?_
          have hl : lv_has ls 3 [(2, .int (nI (k + 1))), (1, .int (nI (pcn (tch L) L.length (k + 1)))), (0, .ref (b 0))] := by rw [pcn_old ((hPI k (by omega)).mp hc2)]; exact hl
          exact ih (k + 1) q fa H locs ls (by omega) (by omega) (PI_old (by omega) hPI hc2) hFB hP hS (lv_sub hl [0, 1, 2] rfl)
        · have hB0 : BJ (tch L) L.length (cz fa L.length) (fun x => x = k) (fun x => fa x ≠ 0) 0 0 q fa 1 := BJ_0 hn hFB (Nat.zero_add _)
          have hB1 := BJ_add hB0 (show k < L.length by omega) hc2 (by omega) (by omega) ⟨by omega, rfl⟩
          refine lv_aload_n hx hb dX4_parts_25 rfl (lv_at hl 2 rfl) ?_
          refine va_get (D := G.1) (ci := 4) (v := .ref (b 11)) (C := RX4) (T := TX4) (N := 15) hx hb hts hinX4 hown hK.1 hP 0 rfl rfl 13 (by decide) (hts (.fieldLink RX4 41 "PairThreadsModel" "far" "[I") (by decide +kernel)) (fun _ h9 => h9) rfl dX4_parts_26 ?_
          refine lv_iload_n hx hb dX4_parts_29 rfl (lv_at hl 0 rfl) ?_
          refine lv_iconst (v := nI 1) hx hb dX4_parts_30 rfl ?_
          refine z_iastN hx hb hK hP (hDD _ rfl) hS 11 rfl (j := k) (by omega) (by decide) dX4_parts_31 (fun H locs hP hS => ?_)
          have hP : va_P G.1 vwCl (cR G b L.length lf rt lo ro fo no lm rm pa mt q cf (va_up fa k 1) kp) H := hP
          refine lv_aload_n hx hb dX4_parts_32 rfl (lv_at hl 2 rfl) ?_
          refine va_get (D := G.1) (ci := 4) (v := .ref (b 9)) (C := RX4) (T := TX4) (N := 15) hx hb hts hinX4 hown hK.1 hP 0 rfl rfl 11 (by decide) (hts (.fieldLink RX4 35 "PairThreadsModel" "queue" "[I") (by decide +kernel)) (fun _ h9 => h9) rfl dX4_parts_33 ?_
          refine lv_iconst (v := nI 0) hx hb dX4_parts_36 rfl ?_
          refine lv_iload_n hx hb dX4_parts_37 rfl (lv_at hl 0 rfl) ?_
          refine z_iastN hx hb hK hP (hDD _ rfl) hS 9 rfl (j := 0) (by omega) (by decide) dX4_parts_38 (fun H locs hP hS => ?_)
          have hP : va_P G.1 vwCl (cR G b L.length lf rt lo ro fo no lm rm pa mt (va_up q 0 k) cf (va_up fa k 1) kp) H := hP
          refine lv_aload_n hx hb dX4_parts_39 rfl (lv_at hl 2 rfl) ?_
          refine lv_iconst (v := nI 1) hx hb dX4_parts_40 rfl ?_
          refine z_callV (rest := []) 1 ⟨hx, hb, hml, hown, hts⟩ hK (c_Rreach l G b lf rt lo ro fo no lm rm pa mt (va_up q 0 k) cf (va_up fa k 1) kp L hMI 1 (cz fa L.length) (fun x => x = k) (fun x => fa x ≠ 0) hB1 (fun x y hx2 hy2 ho hT => by obtain ⟨j, a1, a2⟩ := (hPI x hx2).mp ho; exact (hPI y hy2).mpr ⟨j, a1, conn_step a2 hy2 hT⟩) hnd) gX4_parts_X4_reach rfl (by decide +kernel) ⟨Nat.le_of_ble_eq_true rfl, Nat.le_of_ble_eq_true rfl⟩ hP 0 rfl rfl rfl rfl hl.1 rfl (Nat.le_of_ble_eq_true rfl) dX4_parts_41 ⟨Nat.le_refl _, Nat.le_refl _⟩ hS (fun _ h => h) (fun v9 H9 locs hR9 hk9 hS => ?_)
          obtain ⟨n1, b1, q2, fa2, rfl, hBJ, hPd, hEx, hP⟩ := hR9
          clear hk9
          generalize H9 = H at hP hS ⊢
          refine W.eq (g2 := F0 m 44 ls [.int (nI n1)]) rfl ?_
          have hPI2 : PI (tch L) L.length (k + 1) fa2 := PI_new (tch_sym L) (show k < L.length by omega) hPI hc2 (S := fun x => x = k) rfl (fun x hx2 he => by rw [he]; exact ⟨0, by omega, rfl⟩) hBJ.1 hPd (fun x hx2 he => by rw [he, hEx.2.2 k (by omega) (by rw [up_s]; omega), up_s]; omega) (fun x hx2 h0 => by have hne : x ≠ k := fun z => h0 (by rw [z]; exact hc2); rw [hEx.2.2 x hx2 (by rw [up_n hne]; exact h0), up_n hne])
          refine lv_pop hx hb dX4_parts_44 rfl ?_
          refine z_iinc (lv' := [(1, .int (nI (pcn (tch L) L.length k + 1))), (2, .int (nI k)), (0, .ref (b 0))]) hx hb dX4_parts_45 hl (k := 1) rfl (by decide) rfl (fun ls hl => ?_)
          refine z_iinc (lv' := [(2, .int (nI (k + 1))), (1, .int (nI (pcn (tch L) L.length k + 1))), (0, .ref (b 0))]) hx hb dX4_parts_48 hl (k := 1) rfl (by decide) rfl (fun ls hl => ?_)
          refine lv_goto (tgt := 8) hx hb dX4_parts_51 (by decide) ?_
          have hl : lv_has ls 3 [(2, .int (nI (k + 1))), (1, .int (nI (pcn (tch L) L.length (k + 1)))), (0, .ref (b 0))] := by rw [pcn_new (fun z => (hPI k (by omega)).mpr z hc2)]; exact hl
          exact ih (k + 1) q2 fa2 H locs ls (by omega) (by omega) hPI2 hBJ.2.2.1 hP hS (lv_sub hl [0, 1, 2] rfl)
  exact loop (L.length + 1) 0 q fa1 _ _ ls (by omega) (by omega) (PI_0 hfa1) (fun x hx2 => by rw [hfa1 x hx2]; omega) hP hS (lv_sub hl [0, 1, 2] rfl)

set_option maxHeartbeats 4000000 in
set_option maxRecDepth 100000 in
/-- the model: part -/
theorem c_Rpart (l : Launch) (G : Gd) (b : Nat → Nat) (lf : Nat → Int32) (rt : Nat → Int32) (lo : Nat → Nat) (ro : Nat → Nat) (fo : Nat → Option Nat) (no : Nat → Option Nat) (lm : Nat) (rm : Nat) (pa : Nat → Option Nat) (mt : Nat → Int32) (q : Nat → Nat) (cf : Nat → Option Nat) (fa : Nat → Nat) (kp : Nat → Int32) (L : List Pr) (hMI : MI lf rt L) (sx v : Int32) (hnd : (aR b).Nodup) : Mt l yX4_part wsX4_part 2 46 [.ref (b 0), .int (sx), .int (v)] G (cR G b L.length lf rt lo ro fo no lm rm pa mt q cf fa kp) (fun q => q ∈ aR b) (fun r h => ∃ z : Nat, r = some (.int (nI z)) ∧ partR L sx v z ∧ ∃ q' fa' : Nat → Nat, va_P G.1 vwCl (cR G b L.length lf rt lo ro fo no lm rm pa mt q' cf fa' kp) h) := by
  refine Mt.mk cX4_part 3 (some .int) (by decide) rfl (Nat.le_of_ble_eq_true rfl) ?_
  intro p9 e s m below meth c ls hx hb hr hml hts hown hlocks hP hK hl
  have hS : va_S (fun q => q ∈ aR b) s.heap s.heap [] := va_S.rf
  have hl : lv_has ls 3 [(0, .ref (b 0)), (1, .int (sx)), (2, .int (v))] := hl
  have hown : s.vm.findClass RX4 = some m.cls := hown
  have hDD : ∀ ws : va_W, ws.map Prod.fst = aR b → va_D (fun q => q ∈ aR b) ws := D_of hnd (fun q h => h)
  have hn := hMI.1
  refine lv_iload_n hx hb dX4_part_0 rfl (lv_at hl 1 rfl) ?_
  refine z_callS (rest := []) 1 ⟨hx, hb, hml, hown, hts⟩ hK (c_isSide4 l G sx) gX4_part_X4_isSide rfl (by decide +kernel) ⟨Nat.le_of_ble_eq_true rfl, Nat.le_of_ble_eq_true rfl⟩ P_nil rfl hl.1 rfl (Nat.le_of_ble_eq_true rfl) dX4_part_1 ⟨Nat.le_refl _, Nat.le_refl _⟩ hS (fun _ h => h.elim) (fun v9 H9 locs hR9 hk9 hS => ?_)
  obtain ⟨z, rfl, hz⟩ := hR9
  have hP := P_keep0 hP hk9
  clear hk9
  generalize H9 = H at hP hS ⊢
  refine W.eq (g2 := F0 m 4 ls [.int (nI z)]) rfl ?_
  rcases hz with ⟨rfl, hsd⟩ | ⟨rfl, d, hsd⟩
  · refine z_if_eq (tgt := 20) hx hb (by omega) dX4_part_4 (by decide) (fun hc1 => ?_) (fun hc1 => ?_)
    · refine lv_iconst (v := nI 0) hx hb dX4_part_20 rfl ?_
      exact z_iret hx hb hr hlocks ⟨0, rfl, by unfold partR; rw [hsd], q, fa, hP⟩ hS dX4_part_21
    · exact absurd hc1 (by decide)
  · refine z_if_eq (tgt := 20) hx hb (by omega) dX4_part_4 (by decide) (fun hc2 => ?_) (fun hc2 => ?_)
    · exact absurd hc2 (by decide)
    · obtain ⟨hd, hsx⟩ := sideOf_some hsd
      subst hsx
      refine lv_aload_n hx hb dX4_part_7 rfl (lv_at hl 0 rfl) ?_
      refine lv_aload_n hx hb dX4_part_8 rfl (lv_at hl 0 rfl) ?_
      refine lv_iload_n hx hb dX4_part_9 rfl (lv_at hl 1 rfl) ?_
      refine lv_iload_n hx hb dX4_part_10 rfl (lv_at hl 2 rfl) ?_
      refine z_callV (rest := [.ref (b 0)]) 2 ⟨hx, hb, hml, hown, hts⟩ hK (c_begin l G b lf rt lo ro fo no lm rm pa mt q cf fa kp L hMI d v hd hnd) gX4_part_X4_begin rfl (by decide +kernel) ⟨Nat.le_of_ble_eq_true rfl, Nat.le_of_ble_eq_true rfl⟩ hP 0 rfl rfl rfl rfl hl.1 rfl (Nat.le_of_ble_eq_true rfl) dX4_part_11 ⟨Nat.le_refl _, Nat.le_refl _⟩ hS (fun _ h => h) (fun v9 H9 locs hR9 hk9 hS => ?_)
      obtain ⟨n1, q1, fa1, rfl, hBJ1, hS1, hP⟩ := hR9
      clear hk9
      generalize H9 = H at hP hS ⊢
      refine W.eq (g2 := F0 m 14 ls [.int (nI n1), .ref (b 0)]) rfl ?_
      refine z_callV (rest := []) 1 ⟨hx, hb, hml, hown, hts⟩ hK (c_Rreach l G b lf rt lo ro fo no lm rm pa mt q1 cf fa1 kp L hMI n1 0 (fun i => key d L i = v) (fun _ => False) hBJ1 (fun x y _ _ h _ => h.elim) hnd) gX4_part_X4_reach rfl (by decide +kernel) ⟨Nat.le_of_ble_eq_true rfl, Nat.le_of_ble_eq_true rfl⟩ hP 0 rfl rfl rfl rfl hl.1 rfl (Nat.le_of_ble_eq_true rfl) dX4_part_14 ⟨Nat.le_refl _, Nat.le_refl _⟩ hS (fun _ h => h) (fun v9 H9 locs hR9 hk9 hS => ?_)
      obtain ⟨n2, b2, q2, fa2, rfl, hBJ2, hPd2, hEx2, hP⟩ := hR9
      clear hk9
      generalize H9 = H at hP hS ⊢
      refine W.eq (g2 := F0 m 17 ls [.int (nI n2)]) rfl ?_
      have hFar : IsFar (tch L) L.length (fun i => key d L i = v) fa2 := IsFar_of hBJ2.1 hPd2 (fun k hk hv => by have := hS1 k hk hv; rw [hEx2.2.2 k hk this.1]; exact this)
      refine lv_goto (tgt := 21) hx hb dX4_part_17 (by decide) ?_
      exact z_iret hx hb hr hlocks ⟨n2, rfl, by unfold partR; rw [hsd]; exact ⟨fa2, hFar, hBJ2.1.2.1⟩, q2, fa2, hP⟩ hS dX4_part_21

set_option maxHeartbeats 4000000 in
set_option maxRecDepth 100000 in
/-- the model: way -/
theorem c_Rway (l : Launch) (G : Gd) (b : Nat → Nat) (lf : Nat → Int32) (rt : Nat → Int32) (lo : Nat → Nat) (ro : Nat → Nat) (fo : Nat → Option Nat) (no : Nat → Option Nat) (lm : Nat) (rm : Nat) (pa : Nat → Option Nat) (mt : Nat → Int32) (q : Nat → Nat) (cf : Nat → Option Nat) (fa : Nat → Nat) (kp : Nat → Int32) (L : List Pr) (hMI : MI lf rt L) (sx v ox w : Int32) (hnd : (aR b).Nodup) : Mt l yX4_way wsX4_way 2 46 [.ref (b 0), .int (sx), .int (v), .int (ox), .int (w)] G (cR G b L.length lf rt lo ro fo no lm rm pa mt q cf fa kp) (fun q => q ∈ aR b) (fun r h => ∃ z : Nat, r = some (.int (nI z)) ∧ wayR L sx v ox w z ∧ ∃ q' fa' : Nat → Nat, va_P G.1 vwCl (cR G b L.length lf rt lo ro fo no lm rm pa mt q' cf fa' kp) h) := by
  refine Mt.mk cX4_way 7 (some .int) (by decide) rfl (Nat.le_of_ble_eq_true rfl) ?_
  intro p9 e s m below meth c ls hx hb hr hml hts hown hlocks hP hK hl
  have hinX4 : ∀ w ∈ wsX40, w ∈ wsX4_way := by decide +kernel
  have hS : va_S (fun q => q ∈ aR b) s.heap s.heap [] := va_S.rf
  have hl : lv_has ls 7 [(0, .ref (b 0)), (1, .int (sx)), (2, .int (v)), (3, .int (ox)), (4, .int (w))] := hl
  have hown : s.vm.findClass RX4 = some m.cls := hown
  have hDD : ∀ ws : va_W, ws.map Prod.fst = aR b → va_D (fun q => q ∈ aR b) ws := D_of hnd (fun q h => h)
  have hn := hMI.1
  refine lv_iload_n hx hb dX4_way_0 rfl (lv_at hl 1 rfl) ?_
  refine z_callS (rest := []) 1 ⟨hx, hb, hml, hown, hts⟩ hK (c_isSide4 l G sx) gX4_way_X4_isSide rfl (by decide +kernel) ⟨Nat.le_of_ble_eq_true rfl, Nat.le_of_ble_eq_true rfl⟩ P_nil rfl hl.1 rfl (Nat.le_of_ble_eq_true rfl) dX4_way_1 ⟨Nat.le_refl _, Nat.le_refl _⟩ hS (fun _ h => h.elim) (fun v9 H9 locs hR9 hk9 hS => ?_)
  obtain ⟨z, rfl, hz⟩ := hR9
  have hP := P_keep0 hP hk9
  clear hk9
  generalize H9 = H at hP hS ⊢
  refine W.eq (g2 := F0 m 4 ls [.int (nI z)]) rfl ?_
  rcases hz with ⟨rfl, hsd⟩ | ⟨rfl, d, hsd⟩
  · refine z_if_eq (tgt := 14) hx hb (by omega) dX4_way_4 (by decide) (fun hc1 => ?_) (fun hc1 => ?_)
    · refine lv_iconst (v := nI 0) hx hb dX4_way_14 rfl ?_
      exact z_iret hx hb hr hlocks ⟨0, rfl, by unfold wayR; rw [hsd], q, fa, hP⟩ hS dX4_way_15
    · exact absurd hc1 (by decide)
  · refine z_if_eq (tgt := 14) hx hb (by omega) dX4_way_4 (by decide) (fun hc2 => ?_) (fun hc2 => ?_)
    · exact absurd hc2 (by decide)
    · obtain ⟨hd, hsx⟩ := sideOf_some hsd
      subst hsx
      refine lv_iload_n hx hb dX4_way_7 rfl (lv_at hl 3 rfl) ?_
      refine z_callS (rest := []) 1 ⟨hx, hb, hml, hown, hts⟩ hK (c_isSide4 l G ox) gX4_way_X4_isSide rfl (by decide +kernel) ⟨Nat.le_of_ble_eq_true rfl, Nat.le_of_ble_eq_true rfl⟩ P_nil rfl hl.1 rfl (Nat.le_of_ble_eq_true rfl) dX4_way_8 ⟨Nat.le_refl _, Nat.le_refl _⟩ hS (fun _ h => h.elim) (fun v9 H9 locs hR9 hk9 hS => ?_)
      obtain ⟨z, rfl, hz⟩ := hR9
      have hP := P_keep0 hP hk9
      clear hk9
      generalize H9 = H at hP hS ⊢
      refine W.eq (g2 := F0 m 11 ls [.int (nI z)]) rfl ?_
      rcases hz with ⟨rfl, hso⟩ | ⟨rfl, o, hso⟩
      · refine z_if_ne (tgt := 16) hx hb (by omega) dX4_way_11 (by decide) (fun hc3 => ?_) (fun hc3 => ?_)
        · exact absurd hc3 (by decide)
        · refine lv_iconst (v := nI 0) hx hb dX4_way_14 rfl ?_
          exact z_iret hx hb hr hlocks ⟨0, rfl, by unfold wayR; rw [hsd, hso], q, fa, hP⟩ hS dX4_way_15
      · refine z_if_ne (tgt := 16) hx hb (by omega) dX4_way_11 (by decide) (fun hc4 => ?_) (fun hc4 => ?_)
        · obtain ⟨ho, hox⟩ := sideOf_some hso
          subst hox
          refine lv_aload_n hx hb dX4_way_16 rfl (lv_at hl 0 rfl) ?_
          refine lv_aload_n hx hb dX4_way_17 rfl (lv_at hl 0 rfl) ?_
          refine lv_iload_n hx hb dX4_way_18 rfl (lv_at hl 1 rfl) ?_
          refine lv_iload_n hx hb dX4_way_19 rfl (lv_at hl 2 rfl) ?_
          refine z_callV (rest := [.ref (b 0)]) 2 ⟨hx, hb, hml, hown, hts⟩ hK (c_begin l G b lf rt lo ro fo no lm rm pa mt q cf fa kp L hMI d v hd hnd) gX4_way_X4_begin rfl (by decide +kernel) ⟨Nat.le_of_ble_eq_true rfl, Nat.le_of_ble_eq_true rfl⟩ hP 0 rfl rfl rfl rfl hl.1 rfl (Nat.le_of_ble_eq_true rfl) dX4_way_20 ⟨Nat.le_refl _, Nat.le_refl _⟩ hS (fun _ h => h) (fun v9 H9 locs hR9 hk9 hS => ?_)
          obtain ⟨n1, q1, fa1, rfl, hBJ1, hS1, hP⟩ := hR9
          clear hk9
          generalize H9 = H at hP hS ⊢
          refine W.eq (g2 := F0 m 23 ls [.int (nI n1), .ref (b 0)]) rfl ?_
          refine z_callV (rest := []) 1 ⟨hx, hb, hml, hown, hts⟩ hK (c_Rreach l G b lf rt lo ro fo no lm rm pa mt q1 cf fa1 kp L hMI n1 0 (fun i => key d L i = v) (fun _ => False) hBJ1 (fun x y _ _ h _ => h.elim) hnd) gX4_way_X4_reach rfl (by decide +kernel) ⟨Nat.le_of_ble_eq_true rfl, Nat.le_of_ble_eq_true rfl⟩ hP 0 rfl rfl rfl rfl hl.1 rfl (Nat.le_of_ble_eq_true rfl) dX4_way_23 ⟨Nat.le_refl _, Nat.le_refl _⟩ hS (fun _ h => h) (fun v9 H9 locs hR9 hk9 hS => ?_)
          obtain ⟨n2, b2, q2, fa2, rfl, hBJ2, hPd2, hEx2, hP⟩ := hR9
          clear hk9
          generalize H9 = H at hP hS ⊢
          refine W.eq (g2 := F0 m 26 ls [.int (nI n2)]) rfl ?_
          have hFar : IsFar (tch L) L.length (fun i => key d L i = v) fa2 := IsFar_of hBJ2.1 hPd2 (fun k hk hv => by have := hS1 k hk hv; rw [hEx2.2.2 k hk this.1]; exact this)
          refine lv_pop hx hb dX4_way_26 rfl ?_
          refine lv_iconst (v := nI 0) hx hb dX4_way_27 rfl ?_
          refine lv_istore (lv' := [(5, .int (nI 0)), (0, .ref (b 0)), (1, .int (nI d)), (2, .int (v)), (3, .int (nI o)), (4, .int (w))]) hx hb dX4_way_28 hl (by decide) rfl (fun ls hl => ?_)
          refine lv_iconst (v := nI 0) hx hb dX4_way_30 rfl ?_
          refine lv_istore (lv' := [(6, .int (nI 0)), (5, .int (nI 0)), (0, .ref (b 0)), (1, .int (nI d)), (2, .int (v)), (3, .int (nI o)), (4, .int (w))]) hx hb dX4_way_31 hl (by decide) rfl (fun ls hl => ?_)
          have loop : ∀ (k9 : Nat) (k : Nat) (z : Nat) (H : Heap) (locs : List Loc) (ls : Array Slot), (L.length < k + k9) → (k ≤ L.length) → (z ≤ 300) → ((z = 0 ∧ ∀ j, j < L.length → (j < k ∧ key o L j = w) → fa2 j = 0) ∨ (∃ i, i < L.length ∧ key o L i = w ∧ fa2 i ≠ 0 ∧ z = fa2 i ∧ ∀ j, j < L.length → (j < k ∧ key o L j = w) → fa2 j ≠ 0 → fa2 i ≤ fa2 j)) → va_P G.1 vwCl (cR G b L.length lf rt lo ro fo no lm rm pa mt q2 cf fa2 kp) H → va_S (fun q => q ∈ aR b) s.heap H locs → lv_has ls 7 [(6, .int (nI k)), (5, .int (nI z)), (0, .ref (b 0)), (1, .int (nI d)), (2, .int (v)), (3, .int (nI o)), (4, .int (w))] → Wz p9 l e 2 46 s m [.ref (b 0), .int (nI d), .int (v), .int (nI o), .int (w)] below meth c (fun q => q ∈ aR b) (fun r h => ∃ z : Nat, r = some (.int (nI z)) ∧ wayR L (nI d) v (nI o) w z ∧ ∃ q' fa' : Nat → Nat, va_P G.1 vwCl (cR G b L.length lf rt lo ro fo no lm rm pa mt q' cf fa' kp) h) H locs (F0 m 33 ls []) := by
            intro k9
            induction k9 with
            | zero =>
              intro k z H locs ls hfuel hk hz3 hinv hP hS hl
              exact absurd hfuel (by omega)
            | succ k9 ih =>
              intro k z H locs ls hfuel hk hz3 hinv hP hS hl
              refine lv_iload hx hb dX4_way_33 (lv_at hl 0 rfl) ?_
              refine lv_aload_n hx hb dX4_way_35 rfl (lv_at hl 2 rfl) ?_
              refine va_get (D := G.1) (ci := 4) (v := .int (nI L.length)) (C := RX4) (T := TX4) (N := 15) hx hb hts hinX4 hown hK.1 hP 0 rfl rfl 0 (by decide) (hts (.fieldLink RX4 47 "PairThreadsModel" "many" "I") (by decide +kernel)) (fun _ h9 => h9) rfl dX4_way_36 ?_
              refine z_icmp_ge (tgt := 96) hx hb (by omega) (by omega) dX4_way_39 (by decide) (fun hc5 => ?_) (fun hc5 => ?_)
              · refine lv_iload hx hb dX4_way_96 (lv_at hl 1 rfl) ?_
                exact z_iret hx hb hr hlocks ⟨z, rfl, by unfold wayR; rw [hsd, hso]; exact ⟨fa2, hFar, by rcases hinv with ⟨h1, h2⟩ | ⟨i, h1, h2, h3, h4, h5⟩; exact Or.inl ⟨h1, fun j hj hw => h2 j hj ⟨by omega, hw⟩⟩; exact Or.inr ⟨i, h1, h2, h3, h4, fun j hj hw h0 => h5 j hj ⟨by omega, hw⟩ h0⟩⟩, q2, fa2, hP⟩ hS dX4_way_98
              · have hfk := hBJ2.2.2.1 k (by omega)
                refine lv_aload_n hx hb dX4_way_42 rfl (lv_at hl 2 rfl) ?_
                refine lv_iload_n hx hb dX4_way_43 rfl (lv_at hl 5 rfl) ?_
                refine lv_iload hx hb dX4_way_44 (lv_at hl 0 rfl) ?_
                refine z_callV (rest := []) 2 ⟨hx, hb, hml, hown, hts⟩ hK (c_own l G b L.length lf rt lo ro fo no lm rm pa mt q2 cf fa2 kp o k (by omega) (by omega)) gX4_way_X4_own rfl (by decide +kernel) ⟨Nat.le_of_ble_eq_true rfl, Nat.le_of_ble_eq_true rfl⟩ hP 0 rfl rfl rfl rfl hl.1 rfl (Nat.le_of_ble_eq_true rfl) dX4_way_46 ⟨Nat.le_refl _, Nat.le_refl _⟩ hS (fun _ h => h.elim) (fun v9 H9 locs hR9 hk9 hS => ?_)
                obtain rfl := hR9
                have hP := P_keep0 hP hk9
                clear hk9
                generalize H9 = H at hP hS ⊢
                refine W.eq (g2 := F0 m 49 ls [.int (ow o lf rt k)]) rfl ?_
                refine z_top (y := key o L k) (ow_key hMI ho (by omega)) ?_
                refine lv_iload hx hb dX4_way_49 (lv_at hl 6 rfl) ?_
                refine lv_icmp_ne (tgt := 90) hx hb dX4_way_51 (by decide) (fun hc6 => ?_) (fun hc6 => ?_)
                · refine z_iinc (lv' := [(6, .int (nI (k + 1))), (5, .int (nI z)), (0, .ref (b 0)), (1, .int (nI d)), (2, .int (v)), (3, .int (nI o)), (4, .int (w))]) hx hb dX4_way_90 hl (k := 0) rfl (by decide) rfl (fun ls hl => ?_)
                  refine lv_goto (tgt := 33) hx hb dX4_way_93 (by decide) ?_
                  exact ih (k + 1) z H locs ls (by omega) (by omega) hz3 (by rcases hinv with ⟨h1, h2⟩ | ⟨i, h1, h2, h3, h4, h5⟩; exact Or.inl ⟨h1, fun j hj hv => by rcases Nat.lt_succ_iff_lt_or_eq.mp hv.1 with y | y; exact h2 j hj ⟨y, hv.2⟩; subst y; exact absurd hv.2 hc6⟩; exact Or.inr ⟨i, h1, h2, h3, h4, fun j hj hv h0 => by rcases Nat.lt_succ_iff_lt_or_eq.mp hv.1 with y | y; exact h5 j hj ⟨y, hv.2⟩ h0; subst y; exact absurd hv.2 hc6⟩) hP hS (lv_sub hl [0, 1, 2, 3, 4, 5, 6] rfl)
                · refine lv_aload_n hx hb dX4_way_54 rfl (lv_at hl 2 rfl) ?_
                  refine va_get (D := G.1) (ci := 4) (v := .ref (b 11)) (C := RX4) (T := TX4) (N := 15) hx hb hts hinX4 hown hK.1 hP 0 rfl rfl 13 (by decide) (hts (.fieldLink RX4 41 "PairThreadsModel" "far" "[I") (by decide +kernel)) (fun _ h9 => h9) rfl dX4_way_55 ?_
                  refine lv_iload hx hb dX4_way_58 (lv_at hl 0 rfl) ?_
                  refine z_ialdN hx hb hK hP 11 rfl (j := k) (by omega) (by decide) dX4_way_60 ?_
                  refine z_if_le (tgt := 90) hx hb (by omega) dX4_way_61 (by decide) (fun hc7 => ?_) (fun hc7 => ?_)
                  · refine z_iinc (lv' := [(6, .int (nI (k + 1))), (5, .int (nI z)), (0, .ref (b 0)), (1, .int (nI d)), (2, .int (v)), (3, .int (nI o)), (4, .int (w))]) hx hb dX4_way_90 hl (k := 0) rfl (by decide) rfl (fun ls hl => ?_)
                    refine lv_goto (tgt := 33) hx hb dX4_way_93 (by decide) ?_
                    exact ih (k + 1) z H locs ls (by omega) (by omega) hz3 (by rcases hinv with ⟨h1, h2⟩ | ⟨i, h1, h2, h3, h4, h5⟩; exact Or.inl ⟨h1, fun j hj hv => by rcases Nat.lt_succ_iff_lt_or_eq.mp hv.1 with y | y; exact h2 j hj ⟨y, hv.2⟩; subst y; exact hc7⟩; exact Or.inr ⟨i, h1, h2, h3, h4, fun j hj hv h0 => by rcases Nat.lt_succ_iff_lt_or_eq.mp hv.1 with y | y; exact h5 j hj ⟨y, hv.2⟩ h0; subst y; exact absurd hc7 h0⟩) hP hS (lv_sub hl [0, 1, 2, 3, 4, 5, 6] rfl)
                  · refine lv_iload hx hb dX4_way_64 (lv_at hl 1 rfl) ?_
                    refine z_if_eq (tgt := 81) hx hb (by omega) dX4_way_66 (by decide) (fun hc8 => ?_) (fun hc8 => ?_)
                    · refine lv_aload_n hx hb dX4_way_81 rfl (lv_at hl 2 rfl) ?_
                      refine va_get (D := G.1) (ci := 4) (v := .ref (b 11)) (C := RX4) (T := TX4) (N := 15) hx hb hts hinX4 hown hK.1 hP 0 rfl rfl 13 (by decide) (hts (.fieldLink RX4 41 "PairThreadsModel" "far" "[I") (by decide +kernel)) (fun _ h9 => h9) rfl dX4_way_82 ?_
                      refine lv_iload hx hb dX4_way_85 (lv_at hl 0 rfl) ?_
                      refine z_ialdN hx hb hK hP 11 rfl (j := k) (by omega) (by decide) dX4_way_87 ?_
                      refine lv_istore (lv' := [(5, .int (nI (fa2 k))), (6, .int (nI k)), (0, .ref (b 0)), (1, .int (nI d)), (2, .int (v)), (3, .int (nI o)), (4, .int (w))]) hx hb dX4_way_88 hl (by decide) rfl (fun ls hl => ?_)
                      refine z_iinc (lv' := [(6, .int (nI (k + 1))), (5, .int (nI (fa2 k))), (0, .ref (b 0)), (1, .int (nI d)), (2, .int (v)), (3, .int (nI o)), (4, .int (w))]) hx hb dX4_way_90 hl (k := 1) rfl (by decide) rfl (fun ls hl => ?_)
                      refine lv_goto (tgt := 33) hx hb dX4_way_93 (by decide) ?_
                      exact ih (k + 1) (fa2 k) H locs ls (by omega) (by omega) hfk (Or.inr ⟨k, by omega, hc6, hc7, rfl, fun j hj hv h0 => by rcases Nat.lt_succ_iff_lt_or_eq.mp hv.1 with y | y; rcases hinv with ⟨h1, h2⟩ | ⟨i, h1, h2, h3, h4, h5⟩; exact absurd (h2 j hj ⟨y, hv.2⟩) h0; exact absurd (hc8.symm.trans h4).symm h3; subst y; exact Nat.le_refl _⟩) hP hS (lv_sub hl [0, 1, 2, 3, 4, 5, 6] rfl)
                    · refine lv_aload_n hx hb dX4_way_69 rfl (lv_at hl 2 rfl) ?_
                      refine va_get (D := G.1) (ci := 4) (v := .ref (b 11)) (C := RX4) (T := TX4) (N := 15) hx hb hts hinX4 hown hK.1 hP 0 rfl rfl 13 (by decide) (hts (.fieldLink RX4 41 "PairThreadsModel" "far" "[I") (by decide +kernel)) (fun _ h9 => h9) rfl dX4_way_70 ?_
                      refine lv_iload hx hb dX4_way_73 (lv_at hl 0 rfl) ?_
                      refine z_ialdN hx hb hK hP 11 rfl (j := k) (by omega) (by decide) dX4_way_75 ?_
                      refine lv_iload hx hb dX4_way_76 (lv_at hl 1 rfl) ?_
                      refine z_icmp_ge (tgt := 90) hx hb (by omega) (by omega) dX4_way_78 (by decide) (fun hc9 => ?_) (fun hc9 => ?_)
                      · refine z_iinc (lv' := [(6, .int (nI (k + 1))), (5, .int (nI z)), (0, .ref (b 0)), (1, .int (nI d)), (2, .int (v)), (3, .int (nI o)), (4, .int (w))]) hx hb dX4_way_90 hl (k := 0) rfl (by decide) rfl (fun ls hl => ?_)
                        refine lv_goto (tgt := 33) hx hb dX4_way_93 (by decide) ?_
                        exact ih (k + 1) z H locs ls (by omega) (by omega) hz3 (by rcases hinv with ⟨h1, h2⟩ | ⟨i, h1, h2, h3, h4, h5⟩; exact Or.inl ⟨h1, fun j hj hv => by rcases Nat.lt_succ_iff_lt_or_eq.mp hv.1 with y | y; exact h2 j hj ⟨y, hv.2⟩; subst y; exact absurd h1 hc8⟩; exact Or.inr ⟨i, h1, h2, h3, h4, fun j hj hv h0 => by rcases Nat.lt_succ_iff_lt_or_eq.mp hv.1 with y | y; exact h5 j hj ⟨y, hv.2⟩ h0; subst y; omega⟩) hP hS (lv_sub hl [0, 1, 2, 3, 4, 5, 6] rfl)
                      · refine lv_aload_n hx hb dX4_way_81 rfl (lv_at hl 2 rfl) ?_
                        refine va_get (D := G.1) (ci := 4) (v := .ref (b 11)) (C := RX4) (T := TX4) (N := 15) hx hb hts hinX4 hown hK.1 hP 0 rfl rfl 13 (by decide) (hts (.fieldLink RX4 41 "PairThreadsModel" "far" "[I") (by decide +kernel)) (fun _ h9 => h9) rfl dX4_way_82 ?_
                        refine lv_iload hx hb dX4_way_85 (lv_at hl 0 rfl) ?_
                        refine z_ialdN hx hb hK hP 11 rfl (j := k) (by omega) (by decide) dX4_way_87 ?_
                        refine lv_istore (lv' := [(5, .int (nI (fa2 k))), (6, .int (nI k)), (0, .ref (b 0)), (1, .int (nI d)), (2, .int (v)), (3, .int (nI o)), (4, .int (w))]) hx hb dX4_way_88 hl (by decide) rfl (fun ls hl => ?_)
                        refine z_iinc (lv' := [(6, .int (nI (k + 1))), (5, .int (nI (fa2 k))), (0, .ref (b 0)), (1, .int (nI d)), (2, .int (v)), (3, .int (nI o)), (4, .int (w))]) hx hb dX4_way_90 hl (k := 1) rfl (by decide) rfl (fun ls hl => ?_)
                        refine lv_goto (tgt := 33) hx hb dX4_way_93 (by decide) ?_
                        exact ih (k + 1) (fa2 k) H locs ls (by omega) (by omega) hfk (Or.inr ⟨k, by omega, hc6, hc7, rfl, fun j hj hv h0 => by rcases Nat.lt_succ_iff_lt_or_eq.mp hv.1 with y | y; rcases hinv with ⟨h1, h2⟩ | ⟨i, h1, h2, h3, h4, h5⟩; exact absurd h1 hc8; have := h5 j hj ⟨y, hv.2⟩ h0; omega; subst y; exact Nat.le_refl _⟩) hP hS (lv_sub hl [0, 1, 2, 3, 4, 5, 6] rfl)
          exact loop (L.length + 1) 0 0 _ _ ls (by omega) (by omega) (by omega) (Or.inl ⟨rfl, fun j _ hv => absurd hv.1 (Nat.not_lt_zero j)⟩) hP hS (lv_sub hl [0, 1, 2, 3, 4, 5, 6] rfl)
        · exact absurd hc4 (by decide)
