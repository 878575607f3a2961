set_option maxHeartbeats 4000000 in
set_option maxRecDepth 100000 in
/-- the model: touch -/
theorem c_touch (l : Launch) (G : Gd) (b : Nat → Nat) (lf : Nat → Int32) (rt : Nat → Int32) (lo : Nat → Nat) (ro : Nat → Nat) (fo : Nat → Option Nat) (no : Nat → Option Nat) (lm : Nat) (rm : Nat) (pa : Nat → Option Nat) (mt : Nat → Int32) (q : Nat → Nat) (cf : Nat → Option Nat) (fa : Nat → Nat) (kp : Nat → Int32) (L : List Pr) (hMI : MI lf rt L) (i j : Nat) (hi : i < L.length) (hj : j < L.length) : Mt l yX4_touch wsX4_touch 0 0 [.ref (b 0), .int (nI i), .int (nI j)] G (cR G b L.length lf rt lo ro fo no lm rm pa mt q cf fa kp) (fun _ => False) (fun r _ => ∃ z : Nat, r = some (.int (nI z)) ∧ ((z = 1 ∧ tch L i j) ∨ (z = 0 ∧ ¬ tch L i j))) := by
  refine Mt.mk cX4_touch 3 (some .boolean) (by decide) rfl (Nat.le_of_ble_eq_true rfl) ?_
  intro p9 e s m below meth c ls hx hb hr hml hts hown hlocks hP hK hl
  have hinX4 : ∀ w ∈ wsX40, w ∈ wsX4_touch := by decide +kernel
  have hS : va_S (fun _ => False) s.heap s.heap [] := va_S.rf
  have hl : lv_has ls 3 [(0, .ref (b 0)), (1, .int (nI i)), (2, .int (nI j))] := hl
  have hown : s.vm.findClass RX4 = some m.cls := hown
  have hn := hMI.1
  have hi0 := hMI.2 i hi
  have hj0 := hMI.2 j hj
  refine lv_aload_n hx hb dX4_touch_0 rfl (lv_at hl 0 rfl) ?_
  refine va_get (D := G.1) (ci := 4) (v := .ref (b 1)) (C := RX4) (T := TX4) (N := 15) hx hb hts hinX4 hown hK.1 hP 0 rfl rfl 1 (by decide) (hts (.fieldLink RX4 7 "PairThreadsModel" "lefts" "[I") (by decide +kernel)) (fun _ h9 => h9) rfl dX4_touch_1 ?_
  refine lv_iload_n hx hb dX4_touch_4 rfl (lv_at hl 1 rfl) ?_
  refine z_iald hx hb hK hP 1 rfl (j := i) (by omega) (by decide) dX4_touch_5 ?_
  refine lv_aload_n hx hb dX4_touch_6 rfl (lv_at hl 0 rfl) ?_
  refine va_get (D := G.1) (ci := 4) (v := .ref (b 1)) (C := RX4) (T := TX4) (N := 15) hx hb hts hinX4 hown hK.1 hP 0 rfl rfl 1 (by decide) (hts (.fieldLink RX4 7 "PairThreadsModel" "lefts" "[I") (by decide +kernel)) (fun _ h9 => h9) rfl dX4_touch_7 ?_
  refine lv_iload_n hx hb dX4_touch_10 rfl (lv_at hl 2 rfl) ?_
  refine z_iald hx hb hK hP 1 rfl (j := j) (by omega) (by decide) dX4_touch_11 ?_
  refine lv_icmp_eq (tgt := 30) hx hb dX4_touch_12 (by decide) (fun hc1 => ?_) (fun hc1 => ?_)
  · refine lv_iconst (v := nI 1) hx hb dX4_touch_30 rfl ?_
    refine lv_goto (tgt := 35) hx hb dX4_touch_31 (by decide) ?_
    exact z_zret hx hb hr rfl hlocks ⟨1, rfl, Or.inl ⟨rfl, Or.inl (by rw [← hi0.1, ← hj0.1]; exact hc1)⟩⟩ hS dX4_touch_35
  · refine lv_aload_n hx hb dX4_touch_15 rfl (lv_at hl 0 rfl) ?_
    refine va_get (D := G.1) (ci := 4) (v := .ref (b 2)) (C := RX4) (T := TX4) (N := 15) hx hb hts hinX4 hown hK.1 hP 0 rfl rfl 2 (by decide) (hts (.fieldLink RX4 13 "PairThreadsModel" "rights" "[I") (by decide +kernel)) (fun _ h9 => h9) rfl dX4_touch_16 ?_
    refine lv_iload_n hx hb dX4_touch_19 rfl (lv_at hl 1 rfl) ?_
    refine z_iald hx hb hK hP 2 rfl (j := i) (by omega) (by decide) dX4_touch_20 ?_
    refine lv_aload_n hx hb dX4_touch_21 rfl (lv_at hl 0 rfl) ?_
    refine va_get (D := G.1) (ci := 4) (v := .ref (b 2)) (C := RX4) (T := TX4) (N := 15) hx hb hts hinX4 hown hK.1 hP 0 rfl rfl 2 (by decide) (hts (.fieldLink RX4 13 "PairThreadsModel" "rights" "[I") (by decide +kernel)) (fun _ h9 => h9) rfl dX4_touch_22 ?_
    refine lv_iload_n hx hb dX4_touch_25 rfl (lv_at hl 2 rfl) ?_
    refine z_iald hx hb hK hP 2 rfl (j := j) (by omega) (by decide) dX4_touch_26 ?_
    refine lv_icmp_ne (tgt := 34) hx hb dX4_touch_27 (by decide) (fun hc2 => ?_) (fun hc2 => ?_)
    · refine lv_iconst (v := nI 0) hx hb dX4_touch_34 rfl ?_
      exact z_zret hx hb hr rfl hlocks ⟨0, rfl, Or.inr ⟨rfl, fun z => by unfold tch at z; rw [← hi0.1, ← hj0.1, ← hi0.2, ← hj0.2] at z; exact z.elim hc1 hc2⟩⟩ hS dX4_touch_35
    · refine lv_iconst (v := nI 1) hx hb dX4_touch_30 rfl ?_
      refine lv_goto (tgt := 35) hx hb dX4_touch_31 (by decide) ?_
      exact z_zret hx hb hr rfl hlocks ⟨1, rfl, Or.inl ⟨rfl, Or.inr (by rw [← hi0.2, ← hj0.2]; exact hc2)⟩⟩ hS dX4_touch_35

set_option maxHeartbeats 4000000 in
set_option maxRecDepth 100000 in
/-- the model: clearFar -/
theorem c_clearFar (l : Launch) (G : Gd) (b : Nat → Nat) (lf : Nat → Int32) (rt : Nat → Int32) (lo : Nat → Nat) (ro : Nat → Nat) (fo : Nat → Option Nat) (no : Nat → Option Nat) (lm : Nat) (rm : Nat) (pa : Nat → Option Nat) (mt : Nat → Int32) (q : Nat → Nat) (cf : Nat → Option Nat) (fa : Nat → Nat) (kp : Nat → Int32) (L : List Pr) (hMI : MI lf rt L) (hnd : (aR b).Nodup) : Mt l yX4_clearFar wsX4_clearFar 0 0 [.ref (b 0)] G (cR G b L.length lf rt lo ro fo no lm rm pa mt q cf fa kp) (fun q => q ∈ aR b) (fun r h => r = none ∧ ∃ fa' : Nat → Nat, (∀ k, k < L.length → fa' k = 0) ∧ va_P G.1 vwCl (cR G b L.length lf rt lo ro fo no lm rm pa mt q cf fa' kp) h) := by
  refine Mt.mk cX4_clearFar 2 none (by decide) rfl (Nat.le_of_ble_eq_true rfl) ?_
  intro p9 e s m below meth c ls hx hb hr hml hts hown hlocks hP hK hl
  have hinX4 : ∀ w ∈ wsX40, w ∈ wsX4_clearFar := by decide +kernel
  have hS : va_S (fun q => q ∈ aR b) s.heap s.heap [] := va_S.rf
  have hl : lv_has ls 2 [(0, .ref (b 0))] := hl
  have hown : s.vm.findClass RX4 = some m.cls := hown
  have hDD : ∀ ws : va_W, ws.map Prod.fst = aR b → va_D (fun q => q ∈ aR b) ws := D_of hnd (fun q h => h)
  have hn := hMI.1
  refine lv_iconst (v := nI 0) hx hb dX4_clearFar_0 rfl ?_
  refine lv_istore_n (lv' := [(1, .int (nI 0)), (0, .ref (b 0))]) hx hb dX4_clearFar_1 rfl hl (by decide) rfl (fun ls hl => ?_)
  have loop : ∀ (k9 : Nat) (k : Nat) (H : Heap) (locs : List Loc) (ls : Array Slot), (L.length < k + k9) → (k ≤ L.length) → va_P G.1 vwCl (cR G b L.length lf rt lo ro fo no lm rm pa mt q cf (zr k fa) kp) H → va_S (fun q => q ∈ aR b) s.heap H locs → lv_has ls 2 [(1, .int (nI k)), (0, .ref (b 0))] → Wz p9 l e 0 0 s m [.ref (b 0)] below meth c (fun q => q ∈ aR b) (fun r h => r = none ∧ ∃ fa' : Nat → Nat, (∀ k, k < L.length → fa' k = 0) ∧ va_P G.1 vwCl (cR G b L.length lf rt lo ro fo no lm rm pa mt q cf fa' kp) h) H locs (F0 m 2 ls []) := by
    intro k9
    induction k9 with
    | zero =>
      intro k H locs ls hfuel hk hP hS hl
      exact absurd hfuel (by omega)
    | succ k9 ih =>
      intro k H locs ls hfuel hk hP hS hl
      refine lv_iload_n hx hb dX4_clearFar_2 rfl (lv_at hl 0 rfl) ?_
      refine lv_aload_n hx hb dX4_clearFar_3 rfl (lv_at hl 1 rfl) ?_
      refine va_get (D := G.1) (ci := 4) (v := .int (nI L.length)) (C := RX4) (T := TX4) (N := 15) hx hb hts hinX4 hown hK.1 hP 0 rfl rfl 0 (by decide) (hts (.fieldLink RX4 47 "PairThreadsModel" "many" "I") (by decide +kernel)) (fun _ h9 => h9) rfl dX4_clearFar_4 ?_
      refine z_icmp_ge (tgt := 23) hx hb (by omega) (by omega) dX4_clearFar_7 (by decide) (fun hc1 => ?_) (fun hc1 => ?_)
      · exact z_vret hx hb hr hlocks ⟨rfl, _, fun j hj => if_pos (by omega), hP⟩ hS dX4_clearFar_23
      · refine lv_aload_n hx hb dX4_clearFar_10 rfl (lv_at hl 1 rfl) ?_
        refine va_get (D := G.1) (ci := 4) (v := .ref (b 11)) (C := RX4) (T := TX4) (N := 15) hx hb hts hinX4 hown hK.1 hP 0 rfl rfl 13 (by decide) (hts (.fieldLink RX4 41 "PairThreadsModel" "far" "[I") (by decide +kernel)) (fun _ h9 => h9) rfl dX4_clearFar_11 ?_
        refine lv_iload_n hx hb dX4_clearFar_14 rfl (lv_at hl 0 rfl) ?_
        refine lv_iconst (v := nI 0) hx hb dX4_clearFar_15 rfl ?_
        refine z_iastN hx hb hK hP (hDD _ rfl) hS 11 rfl (j := k) (by omega) (by decide) dX4_clearFar_16 (fun H locs hP hS => ?_)
        have hP : va_P G.1 vwCl (cR G b L.length lf rt lo ro fo no lm rm pa mt q cf (va_up (zr k fa) k 0) kp) H := hP
        refine z_iinc (lv' := [(1, .int (nI (k + 1))), (0, .ref (b 0))]) hx hb dX4_clearFar_17 hl (k := 0) rfl (by decide) rfl (fun ls hl => ?_)
        refine lv_goto (tgt := 2) hx hb dX4_clearFar_20 (by decide) ?_
        rw [zr_s] at hP
        exact ih (k + 1) H locs ls (by omega) (by omega) hP hS (lv_sub hl [0, 1] rfl)
  rw [← zr_0 fa] at hP
  exact loop (L.length + 1) 0 _ _ ls (by omega) (by omega) hP hS (lv_sub hl [0, 1] rfl)

set_option maxHeartbeats 4000000 in
set_option maxRecDepth 100000 in
/-- the model: begin -/
theorem c_begin (l : Launch) (G : Gd) (b : Nat → Nat) (lf : Nat → Int32) (rt : Nat → Int32) (lo : Nat → Nat) (ro : Nat → Nat) (fo : Nat → Option Nat) (no : Nat → Option Nat) (lm : Nat) (rm : Nat) (pa : Nat → Option Nat) (mt : Nat → Int32) (q : Nat → Nat) (cf : Nat → Option Nat) (fa : Nat → Nat) (kp : Nat → Int32) (L : List Pr) (hMI : MI lf rt L) (d : Nat) (v : Int32) (hd : d < 2) (hnd : (aR b).Nodup) : Mt l yX4_begin wsX4_begin 1 22 [.ref (b 0), .int (nI d), .int (v)] G (cR G b L.length lf rt lo ro fo no lm rm pa mt q cf fa kp) (fun q => q ∈ aR b) (fun r h => ∃ (n1 : Nat) (q' fa' : Nat → Nat), r = some (.int (nI n1)) ∧ BJ (tch L) L.length 0 (fun i => key d L i = v) (fun _ => False) 0 n1 q' fa' 1 ∧ (∀ k, k < L.length → key d L k = v → fa' k ≠ 0 ∧ fa' k ≤ 1) ∧ va_P G.1 vwCl (cR G b L.length lf rt lo ro fo no lm rm pa mt q' cf fa' kp) h) := by
  refine Mt.mk cX4_begin 5 (some .int) (by decide) rfl (Nat.le_of_ble_eq_true rfl) ?_
  intro p9 e s m below meth c ls hx hb hr hml hts hown hlocks hP hK hl
  have hinX4 : ∀ w ∈ wsX40, w ∈ wsX4_begin := by decide +kernel
  have hS : va_S (fun q => q ∈ aR b) s.heap s.heap [] := va_S.rf
  have hl : lv_has ls 5 [(0, .ref (b 0)), (1, .int (nI d)), (2, .int (v))] := hl
  have hown : s.vm.findClass RX4 = some m.cls := hown
  have hDD : ∀ ws : va_W, ws.map Prod.fst = aR b → va_D (fun q => q ∈ aR b) ws := D_of hnd (fun q h => h)
  have hn := hMI.1
  refine lv_aload_n hx hb dX4_begin_0 rfl (lv_at hl 0 rfl) ?_
  refine z_callV (rest := []) 0 ⟨hx, hb, hml, hown, hts⟩ hK (c_clearFar l G b lf rt lo ro fo no lm rm pa mt q cf fa kp L hMI hnd) gX4_begin_X4_clearFar rfl (by decide +kernel) ⟨Nat.le_of_ble_eq_true rfl, Nat.le_of_ble_eq_true rfl⟩ hP 0 rfl rfl rfl rfl hl.1 rfl (Nat.le_of_ble_eq_true rfl) dX4_begin_1 ⟨Nat.le_refl _, Nat.le_refl _⟩ hS (fun _ h => h) (fun v9 H9 locs hR9 hk9 hS => ?_)
  obtain ⟨rfl, fa1, hfa1, hP⟩ := hR9
  clear hk9
  generalize H9 = H at hP hS ⊢
  refine W.eq (g2 := F0 m 4 ls []) rfl ?_
  refine lv_iconst (v := nI 0) hx hb dX4_begin_4 rfl ?_
  refine lv_istore_n (lv' := [(3, .int (nI 0)), (0, .ref (b 0)), (1, .int (nI d)), (2, .int (v))]) hx hb dX4_begin_5 rfl hl (by decide) rfl (fun ls hl => ?_)
  refine lv_iconst (v := nI 0) hx hb dX4_begin_6 rfl ?_
  refine lv_istore (lv' := [(4, .int (nI 0)), (3, .int (nI 0)), (0, .ref (b 0)), (1, .int (nI d)), (2, .int (v))]) hx hb dX4_begin_7 hl (by decide) rfl (fun ls hl => ?_)
  have loop : ∀ (k9 : Nat) (k : Nat) (n1 : Nat) (q : Nat → Nat) (fa : Nat → Nat) (H : Heap) (locs : List Loc) (ls : Array Slot), (L.length < k + k9) → (k ≤ L.length) → (BJ (tch L) L.length 0 (fun i => key d L i = v) (fun _ => False) 0 n1 q fa 1) → (∀ j, j < L.length → (j < k ∧ key d L j = v) → fa j ≠ 0 ∧ fa j ≤ 1) → (∀ j, j < L.length → k ≤ j → fa j = 0) → va_P G.1 vwCl (cR G b L.length lf rt lo ro fo no lm rm pa mt q cf fa kp) H → va_S (fun q => q ∈ aR b) s.heap H locs → lv_has ls 5 [(4, .int (nI k)), (3, .int (nI n1)), (0, .ref (b 0)), (1, .int (nI d)), (2, .int (v))] → Wz p9 l e 1 22 s m [.ref (b 0), .int (nI d), .int (v)] below meth c (fun q => q ∈ aR b) (fun r h => ∃ (n1 : Nat) (q' fa' : Nat → Nat), r = some (.int (nI n1)) ∧ BJ (tch L) L.length 0 (fun i => key d L i = v) (fun _ => False) 0 n1 q' fa' 1 ∧ (∀ k, k < L.length → key d L k = v → fa' k ≠ 0 ∧ fa' k ≤ 1) ∧ va_P G.1 vwCl (cR G b L.length lf rt lo ro fo no lm rm pa mt q' cf fa' kp) h) H locs (F0 m 9 ls []) := by
    intro k9
    induction k9 with
    | zero =>
      intro k n1 q fa H locs ls hfuel hk hBJ hv1 hv2 hP hS hl
      exact absurd hfuel (by omega)
    | succ k9 ih =>
      intro k n1 q fa H locs ls hfuel hk hBJ hv1 hv2 hP hS hl
      have hle := BJ_le hBJ
      refine lv_iload hx hb dX4_begin_9 (lv_at hl 0 rfl) ?_
      refine lv_aload_n hx hb dX4_begin_11 rfl (lv_at hl 2 rfl) ?_
      refine va_get (D := G.1) (ci := 4) (v := .int (nI L.length)) (C := RX4) (T := TX4) (N := 15) hx hb hts hinX4 hown hK.1 hP 0 rfl rfl 0 (by decide) (hts (.fieldLink RX4 47 "PairThreadsModel" "many" "I") (by decide +kernel)) (fun _ h9 => h9) rfl dX4_begin_12 ?_
      refine z_icmp_ge (tgt := 54) hx hb (by omega) (by omega) dX4_begin_15 (by decide) (fun hc1 => ?_) (fun hc1 => ?_)
      · refine lv_iload_n hx hb dX4_begin_54 rfl (lv_at hl 1 rfl) ?_
        exact z_iret hx hb hr hlocks ⟨n1, q, fa, rfl, hBJ, fun j hj hv => hv1 j hj ⟨by omega, hv⟩, hP⟩ hS dX4_begin_55
      · refine lv_aload_n hx hb dX4_begin_18 rfl (lv_at hl 2 rfl) ?_
        refine lv_iload_n hx hb dX4_begin_19 rfl (lv_at hl 3 rfl) ?_
        refine lv_iload hx hb dX4_begin_20 (lv_at hl 0 rfl) ?_
        refine z_callV (rest := []) 2 ⟨hx, hb, hml, hown, hts⟩ hK (c_own l G b L.length lf rt lo ro fo no lm rm pa mt q cf fa kp d k (by omega) (by omega)) gX4_begin_X4_own rfl (by decide +kernel) ⟨Nat.le_of_ble_eq_true rfl, Nat.le_of_ble_eq_true rfl⟩ hP 0 rfl rfl rfl rfl hl.1 rfl (Nat.le_of_ble_eq_true rfl) dX4_begin_22 ⟨Nat.le_refl _, Nat.le_refl _⟩ hS (fun _ h => h.elim) (fun v9 H9 locs hR9 hk9 hS => ?_)
        obtain rfl := hR9
        have hP := P_keep0 hP hk9
        clear hk9
        generalize H9 = H at hP hS ⊢
        refine W.eq (g2 := F0 m 25 ls [.int (ow d lf rt k)]) rfl ?_
        refine z_top (y := key d L k) (ow_key hMI hd (by omega)) ?_
        refine lv_iload_n hx hb dX4_begin_25 rfl (lv_at hl 4 rfl) ?_
        refine lv_icmp_ne (tgt := 48) hx hb dX4_begin_26 (by decide) (fun hc2 => ?_) (fun hc2 => ?_)
        · refine z_iinc (lv' := [(4, .int (nI (k + 1))), (3, .int (nI n1)), (0, .ref (b 0)), (1, .int (nI d)), (2, .int (v))]) hx hb dX4_begin_48 hl (k := 0) rfl (by decide) rfl (fun ls hl => ?_)
          refine lv_goto (tgt := 9) hx hb dX4_begin_51 (by decide) ?_
          exact ih (k + 1) n1 q fa H locs ls (by omega) (by omega) hBJ (fun j hj hv => hv1 j hj ⟨by rcases Nat.lt_succ_iff_lt_or_eq.mp hv.1 with z | z; exact z; exact absurd (z ▸ hv.2) hc2, hv.2⟩) (fun j hj hj2 => hv2 j hj (by omega)) hP hS (lv_sub hl [0, 1, 2, 3, 4] rfl)
        · have hf0 := hv2 k (by omega) (Nat.le_refl _)
          have hlt := BJ_lt hBJ (show k < L.length by omega) hf0
          refine lv_aload_n hx hb dX4_begin_29 rfl (lv_at hl 2 rfl) ?_
          refine va_get (D := G.1) (ci := 4) (v := .ref (b 11)) (C := RX4) (T := TX4) (N := 15) hx hb hts hinX4 hown hK.1 hP 0 rfl rfl 13 (by decide) (hts (.fieldLink RX4 41 "PairThreadsModel" "far" "[I") (by decide +kernel)) (fun _ h9 => h9) rfl dX4_begin_30 ?_
          refine lv_iload hx hb dX4_begin_33 (lv_at hl 0 rfl) ?_
          refine lv_iconst (v := nI 1) hx hb dX4_begin_35 rfl ?_
          refine z_iastN hx hb hK hP (hDD _ rfl) hS 11 rfl (j := k) (by omega) (by decide) dX4_begin_36 (fun H locs hP hS => ?_)
          have hP : va_P G.1 vwCl (cR G b L.length lf rt lo ro fo no lm rm pa mt q cf (va_up fa k 1) kp) H := hP
          refine lv_aload_n hx hb dX4_begin_37 rfl (lv_at hl 2 rfl) ?_
          refine va_get (D := G.1) (ci := 4) (v := .ref (b 9)) (C := RX4) (T := TX4) (N := 15) hx hb hts hinX4 hown hK.1 hP 0 rfl rfl 11 (by decide) (hts (.fieldLink RX4 35 "PairThreadsModel" "queue" "[I") (by decide +kernel)) (fun _ h9 => h9) rfl dX4_begin_38 ?_
          refine lv_iload_n hx hb dX4_begin_41 rfl (lv_at hl 1 rfl) ?_
          refine lv_iload hx hb dX4_begin_42 (lv_at hl 0 rfl) ?_
          refine z_iastN hx hb hK hP (hDD _ rfl) hS 9 rfl (j := n1) (by omega) (by decide) dX4_begin_44 (fun H locs hP hS => ?_)
          have hP : va_P G.1 vwCl (cR G b L.length lf rt lo ro fo no lm rm pa mt (va_up q n1 k) cf (va_up fa k 1) kp) H := hP
          refine z_iinc (lv' := [(3, .int (nI (n1 + 1))), (4, .int (nI k)), (0, .ref (b 0)), (1, .int (nI d)), (2, .int (v))]) hx hb dX4_begin_45 hl (k := 1) rfl (by decide) rfl (fun ls hl => ?_)
          refine z_iinc (lv' := [(4, .int (nI (k + 1))), (3, .int (nI (n1 + 1))), (0, .ref (b 0)), (1, .int (nI d)), (2, .int (v))]) hx hb dX4_begin_48 hl (k := 1) rfl (by decide) rfl (fun ls hl => ?_)
          refine lv_goto (tgt := 9) hx hb dX4_begin_51 (by decide) ?_
          exact ih (k + 1) (n1 + 1) (va_up q n1 k) (va_up fa k 1) H locs ls (by omega) (by omega) (BJ_add hBJ (by omega) hf0 (by omega) (by omega) ⟨by omega, hc2⟩) (fun j hj hv => by rcases Nat.lt_succ_iff_lt_or_eq.mp hv.1 with z | z; rw [up_n (by omega)]; exact hv1 j hj ⟨z, hv.2⟩; rw [z, up_s]; exact ⟨by omega, Nat.le_refl _⟩) (fun j hj hj2 => by rw [up_n (by omega)]; exact hv2 j hj (by omega)) hP hS (lv_sub hl [0, 1, 2, 3, 4] rfl)
  exact loop (L.length + 1) 0 0 q fa1 _ _ ls (by omega) (by omega) (BJ_F hn hfa1) (fun j _ hj => absurd hj.1 (Nat.not_lt_zero j)) (fun j hj _ => hfa1 j hj) hP hS (lv_sub hl [0, 1, 2, 3, 4] rfl)

set_option maxHeartbeats 4000000 in
set_option maxRecDepth 100000 in
/-- the model: reach -/
theorem c_Rreach (l : Launch) (G : Gd) (b : Nat → Nat) (lf : Nat → Int32) (rt : Nat → Int32) (lo : Nat → Nat) (ro : Nat → Nat) (fo : Nat → Option Nat) (no : Nat → Option Nat) (lm : Nat) (rm : Nat) (pa : Nat → Option Nat) (mt : Nat → Int32) (q : Nat → Nat) (cf : Nat → Option Nat) (fa : Nat → Nat) (kp : Nat → Int32) (L : List Pr) (hMI : MI lf rt L) (n0 c0 : Nat) (S O : Nat → Prop) (hBJ0 : BJ (tch L) L.length c0 S O 0 n0 q fa 1) (hcl : ∀ x y, x < L.length → y < L.length → O x → tch L x y → O y) (hnd : (aR b).Nodup) : Mt l yX4_reach wsX4_reach 1 22 [.ref (b 0), .int (nI n0)] G (cR G b L.length lf rt lo ro fo no lm rm pa mt q cf fa kp) (fun q => q ∈ aR b) (fun r h => ∃ (n1 : Nat) (b1 : Nat) (q' fa' : Nat → Nat), r = some (.int (nI n1)) ∧ BJ (tch L) L.length c0 S O 0 n1 q' fa' b1 ∧ Pd (tch L) L.length 0 n1 q' fa' ∧ Ext L.length n0 q fa n1 q' fa' ∧ va_P G.1 vwCl (cR G b L.length lf rt lo ro fo no lm rm pa mt q' cf fa' kp) h) := by
  refine Mt.mk cX4_reach 5 (some .int) (by decide) rfl (Nat.le_of_ble_eq_true rfl) ?_
  intro p9 e s m below meth c ls hx hb hr hml hts hown hlocks hP hK hl
  have hinX4 : ∀ w ∈ wsX40, w ∈ wsX4_reach := by decide +kernel
  have hS : va_S (fun q => q ∈ aR b) s.heap s.heap [] := va_S.rf
  have hl : lv_has ls 5 [(0, .ref (b 0)), (1, .int (nI n0))] := hl
  have hown : s.vm.findClass RX4 = some m.cls := hown
  have hDD : ∀ ws : va_W, ws.map Prod.fst = aR b → va_D (fun q => q ∈ aR b) ws := D_of hnd (fun q h => h)
  have hn := hMI.1
  refine lv_iload_n hx hb dX4_reach_0 rfl (lv_at hl 1 rfl) ?_
  refine lv_istore_n (lv' := [(2, .int (nI n0)), (0, .ref (b 0)), (1, .int (nI n0))]) hx hb dX4_reach_1 rfl hl (by decide) rfl (fun ls hl => ?_)
  refine lv_iconst (v := nI 0) hx hb dX4_reach_2 rfl ?_
  refine lv_istore_n (lv' := [(3, .int (nI 0)), (2, .int (nI n0)), (0, .ref (b 0)), (1, .int (nI n0))]) hx hb dX4_reach_3 rfl hl (by decide) rfl (fun ls hl => ?_)
  obtain ⟨q0, hq0⟩ : ∃ z, z = q := ⟨_, rfl⟩
  obtain ⟨f0, hf0⟩ : ∃ z, z = fa := ⟨_, rfl⟩
  have loop : ∀ (k9 : Nat) (t : Nat) (n1 : Nat) (b1 : Nat) (q : Nat → Nat) (fa : Nat → Nat) (H : Heap) (locs : List Loc) (ls : Array Slot), (L.length < t + k9 ∧ n1 ≤ L.length) → (t ≤ n1) → (BJ (tch L) L.length c0 S O 0 n1 q fa b1) → (t < n1 → b1 ≤ fa (q t) + 1) → (Pd (tch L) L.length 0 t q fa) → (Ext L.length n0 q0 f0 n1 q fa) → va_P G.1 vwCl (cR G b L.length lf rt lo ro fo no lm rm pa mt q cf fa kp) H → va_S (fun q => q ∈ aR b) s.heap H locs → lv_has ls 5 [(3, .int (nI t)), (2, .int (nI n1)), (0, .ref (b 0)), (1, .int (nI n0))] → Wz p9 l e 1 22 s m [.ref (b 0), .int (nI n0)] below meth c (fun q => q ∈ aR b) (fun r h => ∃ (n1 : Nat) (b1 : Nat) (q' fa' : Nat → Nat), r = some (.int (nI n1)) ∧ BJ (tch L) L.length c0 S O 0 n1 q' fa' b1 ∧ Pd (tch L) L.length 0 n1 q' fa' ∧ Ext L.length n0 q0 f0 n1 q' fa' ∧ va_P G.1 vwCl (cR G b L.length lf rt lo ro fo no lm rm pa mt q' cf fa' kp) h) H locs (F0 m 4 ls []) := by
    intro k9
    induction k9 with
    | zero =>
      intro t n1 b1 q fa H locs ls hfuel ht hBJ hb1 hPd hEx hP hS hl
      exact absurd hfuel (by omega)
    | succ k9 ih =>
      intro t n1 b1 q fa H locs ls hfuel ht hBJ hb1 hPd hEx hP hS hl
      have hle := BJ_le hBJ
      refine lv_iload_n hx hb dX4_reach_4 rfl (lv_at hl 0 rfl) ?_
      refine lv_iload_n hx hb dX4_reach_5 rfl (lv_at hl 1 rfl) ?_
      refine z_icmp_ge (tgt := 89) hx hb (by omega) (by omega) dX4_reach_6 (by decide) (fun hc1 => ?_) (fun hc1 => ?_)
      · refine lv_iload_n hx hb dX4_reach_89 rfl (lv_at hl 1 rfl) ?_
        have he : t = n1 := by omega
        subst he
        exact z_iret hx hb hr hlocks ⟨t, b1, q, fa, rfl, hBJ, hPd, hEx, hP⟩ hS dX4_reach_90
      · have hBJ := BJ_wk (hb1 (by omega)) hBJ
        obtain ⟨x, hxe⟩ : ∃ z, z = q t := ⟨_, rfl⟩
        obtain ⟨fr, hfr⟩ : ∃ z, z = fa x := ⟨_, rfl⟩
        rw [← hxe, ← hfr] at hBJ
        refine lv_iconst (v := nI 0) hx hb dX4_reach_9 rfl ?_
        refine lv_istore (lv' := [(4, .int (nI 0)), (3, .int (nI t)), (2, .int (nI n1)), (0, .ref (b 0)), (1, .int (nI n0))]) hx hb dX4_reach_10 hl (by decide) rfl (fun ls hl => ?_)
        have ihout := ih
        have loop2 : ∀ (k9 : Nat) (k : Nat) (n1 : Nat) (q : Nat → Nat) (fa : Nat → Nat) (H : Heap) (locs : List Loc) (ls : Array Slot), (L.length < k + k9) → (k ≤ L.length) → (t < n1) → (q t = x ∧ fa x = fr) → (BJ (tch L) L.length c0 S O 0 n1 q fa (fr + 1)) → (Pd (tch L) L.length 0 t q fa) → (Ext L.length n0 q0 f0 n1 q fa) → (∀ j, j < L.length → (j < k ∧ tch L x j) → fa j ≠ 0 ∧ fa j ≤ fr + 1) → va_P G.1 vwCl (cR G b L.length lf rt lo ro fo no lm rm pa mt q cf fa kp) H → va_S (fun q => q ∈ aR b) s.heap H locs → lv_has ls 5 [(4, .int (nI k)), (3, .int (nI t)), (2, .int (nI n1)), (0, .ref (b 0)), (1, .int (nI n0))] → Wz p9 l e 1 22 s m [.ref (b 0), .int (nI n0)] below meth c (fun q => q ∈ aR b) (fun r h => ∃ (n1 : Nat) (b1 : Nat) (q' fa' : Nat → Nat), r = some (.int (nI n1)) ∧ BJ (tch L) L.length c0 S O 0 n1 q' fa' b1 ∧ Pd (tch L) L.length 0 n1 q' fa' ∧ Ext L.length n0 q0 f0 n1 q' fa' ∧ va_P G.1 vwCl (cR G b L.length lf rt lo ro fo no lm rm pa mt q' cf fa' kp) h) H locs (F0 m 12 ls []) := by
          intro k9
          induction k9 with
          | zero =>
            intro k n1 q fa H locs ls hfuel hk ht hx2 hBJ hPd hEx hPk hP hS hl
            exact absurd hfuel (by omega)
          | succ k9 ih =>
            intro k n1 q fa H locs ls hfuel hk ht hx2 hBJ hPd hEx hPk hP hS hl
            have hle := BJ_le hBJ
            obtain ⟨hqn, hq1, hq2, hq3⟩ := hBJ.1.2.2.1 t (by omega) ht
            have hJ := hBJ.2.1 t (by omega) ht
            refine lv_iload hx hb dX4_reach_12 (lv_at hl 0 rfl) ?_
            refine lv_aload_n hx hb dX4_reach_14 rfl (lv_at hl 3 rfl) ?_
            refine va_get (D := G.1) (ci := 4) (v := .int (nI L.length)) (C := RX4) (T := TX4) (N := 15) hx hb hts hinX4 hown hK.1 hP 0 rfl rfl 0 (by decide) (hts (.fieldLink RX4 47 "PairThreadsModel" "many" "I") (by decide +kernel)) (fun _ h9 => h9) rfl dX4_reach_15 ?_
            refine z_icmp_ge (tgt := 83) hx hb (by omega) (by omega) dX4_reach_18 (by decide) (fun hc2 => ?_) (fun hc2 => ?_)
            · refine z_iinc (lv' := [(3, .int (nI (t + 1))), (4, .int (nI k)), (2, .int (nI n1)), (0, .ref (b 0)), (1, .int (nI n0))]) hx hb dX4_reach_83 hl (k := 1) rfl (by decide) rfl (fun ls hl => ?_)
              refine lv_goto (tgt := 4) hx hb dX4_reach_86 (by decide) ?_
              have hPd2 : Pd (tch L) L.length 0 (t + 1) q fa := fun i a1 a2 y hy hT => by
                rcases Nat.lt_succ_iff_lt_or_eq.mp a2 with z | z
                · exact hPd i a1 z y hy hT
                · subst z; rw [hx2.1] at hT ⊢; rw [hx2.2]; exact hPk y hy ⟨by omega, hT⟩
              exact ihout (t + 1) n1 (fr + 1) q fa H locs ls (by omega) (by omega) hBJ (fun h1 => by have h2 := hBJ.1.2.2.2.2.2.1 t (t + 1) (by omega) (by omega) h1; rw [hx2.1, hx2.2] at h2; omega) hPd2 hEx hP hS (lv_sub hl [0, 2, 3, 4] rfl)
            · have hfk := hBJ.2.2.1 k (by omega)
              refine lv_aload_n hx hb dX4_reach_21 rfl (lv_at hl 3 rfl) ?_
              refine va_get (D := G.1) (ci := 4) (v := .ref (b 11)) (C := RX4) (T := TX4) (N := 15) hx hb hts hinX4 hown hK.1 hP 0 rfl rfl 13 (by decide) (hts (.fieldLink RX4 41 "PairThreadsModel" "far" "[I") (by decide +kernel)) (fun _ h9 => h9) rfl dX4_reach_22 ?_
              refine lv_iload hx hb dX4_reach_25 (lv_at hl 0 rfl) ?_
              refine z_ialdN hx hb hK hP 11 rfl (j := k) (by omega) (by decide) dX4_reach_27 ?_
              refine z_if_ne (tgt := 77) hx hb (by omega) dX4_reach_28 (by decide) (fun hc3 => ?_) (fun hc3 => ?_)
              · refine z_iinc (lv' := [(4, .int (nI (k + 1))), (3, .int (nI t)), (2, .int (nI n1)), (0, .ref (b 0)), (1, .int (nI n0))]) hx hb dX4_reach_77 hl (k := 0) rfl (by decide) rfl (fun ls hl => ?_)
                refine lv_goto (tgt := 12) hx hb dX4_reach_80 (by decide) ?_
                exact ih (k + 1) n1 q fa H locs ls (by omega) (by omega) ht hx2 hBJ hPd hEx (fun j hj hv => by rcases Nat.lt_succ_iff_lt_or_eq.mp hv.1 with z | z; exact hPk j hj ⟨z, hv.2⟩; subst z; exact ⟨hc3, BJ_far hBJ hj hc3 (fun ho => (hx2.1 ▸ hq2) (hcl j x hj (hx2.1 ▸ hqn) ho (tch_sym L _ _ hv.2)))⟩) hP hS (lv_sub hl [0, 1, 2, 3, 4] rfl)
              · refine lv_aload_n hx hb dX4_reach_31 rfl (lv_at hl 3 rfl) ?_
                refine lv_aload_n hx hb dX4_reach_32 rfl (lv_at hl 3 rfl) ?_
                refine va_get (D := G.1) (ci := 4) (v := .ref (b 9)) (C := RX4) (T := TX4) (N := 15) hx hb hts hinX4 hown hK.1 hP 0 rfl rfl 11 (by decide) (hts (.fieldLink RX4 35 "PairThreadsModel" "queue" "[I") (by decide +kernel)) (fun _ h9 => h9) rfl dX4_reach_33 ?_
                refine lv_iload_n hx hb dX4_reach_36 rfl (lv_at hl 1 rfl) ?_
                refine z_ialdN hx hb hK hP 9 rfl (j := t) (by omega) (by decide) dX4_reach_37 ?_
                refine lv_iload hx hb dX4_reach_38 (lv_at hl 0 rfl) ?_
                refine z_callV (rest := []) 2 ⟨hx, hb, hml, hown, hts⟩ hK (c_touch l G b lf rt lo ro fo no lm rm pa mt q cf fa kp L hMI (q t) k hqn (by omega)) gX4_reach_X4_touch rfl (by decide +kernel) ⟨Nat.le_of_ble_eq_true rfl, Nat.le_of_ble_eq_true rfl⟩ hP 0 rfl rfl rfl rfl hl.1 rfl (Nat.le_of_ble_eq_true rfl) dX4_reach_40 ⟨Nat.le_refl _, Nat.le_refl _⟩ hS (fun _ h => h.elim) (fun v9 H9 locs hR9 hk9 hS => ?_)
                obtain ⟨z, rfl, hz⟩ := hR9
                have hP := P_keep0 hP hk9
                clear hk9
                generalize H9 = H at hP hS ⊢
                refine W.eq (g2 := F0 m 43 ls [.int (nI z)]) rfl ?_
                rcases hz with ⟨rfl, hT⟩ | ⟨rfl, hT⟩
                · refine z_if_eq (tgt := 77) hx hb (by omega) dX4_reach_43 (by decide) (fun hc4 => ?_) (fun hc4 => ?_)
                  · exact absurd hc4 (by decide)
                  · have hlt := BJ_lt hBJ (show k < L.length by omega) hc3
                    have hqL : q t < 300 := by omega
                    have hfq : fa (q t) = fr := by rw [hx2.1]; exact hx2.2
                    have hne : x ≠ k := fun z => hq1 (by rw [hx2.1, z]; exact hc3)
                    have hrc := BJ_nb hBJ (by omega) ht (show k < L.length by omega) hT
                    refine lv_aload_n hx hb dX4_reach_46 rfl (lv_at hl 3 rfl) ?_
                    refine va_get (D := G.1) (ci := 4) (v := .ref (b 11)) (C := RX4) (T := TX4) (N := 15) hx hb hts hinX4 hown hK.1 hP 0 rfl rfl 13 (by decide) (hts (.fieldLink RX4 41 "PairThreadsModel" "far" "[I") (by decide +kernel)) (fun _ h9 => h9) rfl dX4_reach_47 ?_
                    refine lv_iload hx hb dX4_reach_50 (lv_at hl 0 rfl) ?_
                    refine lv_aload_n hx hb dX4_reach_52 rfl (lv_at hl 3 rfl) ?_
                    refine va_get (D := G.1) (ci := 4) (v := .ref (b 11)) (C := RX4) (T := TX4) (N := 15) hx hb hts hinX4 hown hK.1 hP 0 rfl rfl 13 (by decide) (hts (.fieldLink RX4 41 "PairThreadsModel" "far" "[I") (by decide +kernel)) (fun _ h9 => h9) rfl dX4_reach_53 ?_
                    refine lv_aload_n hx hb dX4_reach_56 rfl (lv_at hl 3 rfl) ?_
                    refine va_get (D := G.1) (ci := 4) (v := .ref (b 9)) (C := RX4) (T := TX4) (N := 15) hx hb hts hinX4 hown hK.1 hP 0 rfl rfl 11 (by decide) (hts (.fieldLink RX4 35 "PairThreadsModel" "queue" "[I") (by decide +kernel)) (fun _ h9 => h9) rfl dX4_reach_57 ?_
                    refine lv_iload_n hx hb dX4_reach_60 rfl (lv_at hl 1 rfl) ?_
                    refine z_ialdN hx hb hK hP 9 rfl (j := t) (by omega) (by decide) dX4_reach_61 ?_
                    refine z_ialdN hx hb hK hP 11 rfl (j := q t) (by omega) (by decide) dX4_reach_62 ?_
                    refine lv_iconst (v := nI 1) hx hb dX4_reach_63 rfl ?_
                    refine lv_iadd hx hb dX4_reach_64 ?_
                    refine z_top (y := nI (fa (q t) + 1)) (nI_add _ _) ?_
                    refine z_iastN hx hb hK hP (hDD _ rfl) hS 11 rfl (j := k) (by omega) (by decide) dX4_reach_65 (fun H locs hP hS => ?_)
                    have hP : va_P G.1 vwCl (cR G b L.length lf rt lo ro fo no lm rm pa mt q cf (va_up fa k (fa (q t) + 1)) kp) H := hP
                    refine lv_aload_n hx hb dX4_reach_66 rfl (lv_at hl 3 rfl) ?_
                    refine va_get (D := G.1) (ci := 4) (v := .ref (b 9)) (C := RX4) (T := TX4) (N := 15) hx hb hts hinX4 hown hK.1 hP 0 rfl rfl 11 (by decide) (hts (.fieldLink RX4 35 "PairThreadsModel" "queue" "[I") (by decide +kernel)) (fun _ h9 => h9) rfl dX4_reach_67 ?_
                    refine lv_iload_n hx hb dX4_reach_70 rfl (lv_at hl 2 rfl) ?_
                    refine lv_iload hx hb dX4_reach_71 (lv_at hl 0 rfl) ?_
                    refine z_iastN hx hb hK hP (hDD _ rfl) hS 9 rfl (j := n1) (by omega) (by decide) dX4_reach_73 (fun H locs hP hS => ?_)
                    have hP : va_P G.1 vwCl (cR G b L.length lf rt lo ro fo no lm rm pa mt (va_up q n1 k) cf (va_up fa k (fa (q t) + 1)) kp) H := hP
                    refine z_iinc (lv' := [(2, .int (nI (n1 + 1))), (4, .int (nI k)), (3, .int (nI t)), (0, .ref (b 0)), (1, .int (nI n0))]) hx hb dX4_reach_74 hl (k := 2) rfl (by decide) rfl (fun ls hl => ?_)
                    refine z_iinc (lv' := [(4, .int (nI (k + 1))), (2, .int (nI (n1 + 1))), (3, .int (nI t)), (0, .ref (b 0)), (1, .int (nI n0))]) hx hb dX4_reach_77 hl (k := 1) rfl (by decide) rfl (fun ls hl => ?_)
                    refine lv_goto (tgt := 12) hx hb dX4_reach_80 (by decide) ?_
                    rw [hfq] at hP hrc
                    have hBJ2 := BJ_add hBJ (show k < L.length by omega) hc3 (by omega) (by rw [hfq] at hJ; omega) hrc
                    have hE2 : Ext L.length n1 q fa (n1 + 1) (va_up q n1 k) (va_up fa k (fr + 1)) := Ext_add hc3
                    exact ih (k + 1) (n1 + 1) (va_up q n1 k) (va_up fa k (fr + 1)) H locs ls (by omega) (by omega) (by omega) ⟨by rw [up_n (by omega)]; exact hx2.1, by rw [up_n hne]; exact hx2.2⟩ hBJ2 (Pd_ext (by omega) (fun i a1 a2 => ⟨(hBJ.1.2.2.1 i a1 a2).1, (hBJ.1.2.2.1 i a1 a2).2.1⟩) hPd hE2) (Ext_tr hEx hE2) (fun j hj hv => by rcases Nat.lt_succ_iff_lt_or_eq.mp hv.1 with z | z; exact vis_add (P := fun j => j < k ∧ tch L x j) hc3 hPk j hj ⟨z, hv.2⟩; rw [z, up_s]; exact ⟨by omega, Nat.le_refl _⟩) hP hS (lv_sub hl [0, 2, 1, 3, 4] rfl)
                · refine z_if_eq (tgt := 77) hx hb (by omega) dX4_reach_43 (by decide) (fun hc5 => ?_) (fun hc5 => ?_)
                  · refine z_iinc (lv' := [(4, .int (nI (k + 1))), (3, .int (nI t)), (2, .int (nI n1)), (0, .ref (b 0)), (1, .int (nI n0))]) hx hb dX4_reach_77 hl (k := 0) rfl (by decide) rfl (fun ls hl => ?_)
                    refine lv_goto (tgt := 12) hx hb dX4_reach_80 (by decide) ?_
                    exact ih (k + 1) n1 q fa H locs ls (by omega) (by omega) ht hx2 hBJ hPd hEx (fun j hj hv => by rcases Nat.lt_succ_iff_lt_or_eq.mp hv.1 with z | z; exact hPk j hj ⟨z, hv.2⟩; subst z; exact absurd hv.2 (hx2.1 ▸ hT)) hP hS (lv_sub hl [0, 1, 2, 3, 4] rfl)
                  · exact absurd rfl hc5
        exact loop2 (L.length + 1) 0 n1 q fa _ _ ls (by omega) (by omega) (by omega) ⟨hxe.symm, hfr.symm⟩ hBJ hPd hEx (fun j _ hj => absurd hj.1 (Nat.not_lt_zero j)) hP hS (lv_sub hl [0, 1, 2, 3, 4] rfl)
  have hle := BJ_le hBJ0
  rw [hq0, hf0] at loop
  exact loop (L.length + 1) 0 n0 1 q fa _ _ ls ⟨by omega, by omega⟩ (by omega) hBJ0 (fun h => by have := (hBJ0.1.2.2.1 0 (by omega) h).2.1; omega) (fun i _ a2 => absurd a2 (by omega)) Ext_rf hP hS (lv_sub hl [0, 1, 2, 3] rfl)
