set_option maxHeartbeats 4000000 in
set_option maxRecDepth 100000 in
/-- isSide -/
theorem c_isSide4 (l : Launch) (G : Gd) (sx : Int32) : Mt l yX4_isSide wsX4_isSide 0 0 [.int sx] G [] (fun _ => False) (fun r _ => ∃ z : Nat, r = some (.int (nI z)) ∧ ((z = 0 ∧ sideOf sx = none) ∨ (z = 1 ∧ ∃ d, sideOf sx = some d))) := by
  refine Mt.mk cX4_isSide 1 (some .boolean) (by decide) rfl (Nat.le_of_ble_eq_true rfl) ?_
  intro p9 e s m below meth c ls hx hb hr hml hts hown hlocks hP hK hl
  have hS : va_S (fun _ => False) s.heap s.heap [] := va_S.rf
  have hl : lv_has ls 1 [(0, .int (sx))] := hl
  have hown : s.vm.findClass RX4 = some m.cls := hown
  refine lv_iload_n hx hb dX4_isSide_0 rfl (lv_at hl 0 rfl) ?_
  refine lv_if_eq (tgt := 9) hx hb dX4_isSide_1 (by decide) (fun hc1 => ?_) (fun hc1 => ?_)
  · refine lv_iconst (v := nI 1) hx hb dX4_isSide_9 rfl ?_
    refine lv_goto (tgt := 14) hx hb dX4_isSide_10 (by decide) ?_
    exact z_zret hx hb hr rfl hlocks ⟨1, rfl, Or.inr ⟨rfl, 0, by unfold sideOf; rw [if_pos (show sx = nI 0 from hc1)]⟩⟩ hS dX4_isSide_14
  · refine lv_iload_n hx hb dX4_isSide_4 rfl (lv_at hl 0 rfl) ?_
    refine lv_iconst (v := nI 1) hx hb dX4_isSide_5 rfl ?_
    refine lv_icmp_ne (tgt := 13) hx hb dX4_isSide_6 (by decide) (fun hc2 => ?_) (fun hc2 => ?_)
    · refine lv_iconst (v := nI 0) hx hb dX4_isSide_13 rfl ?_
      exact z_zret hx hb hr rfl hlocks ⟨0, rfl, Or.inl ⟨rfl, by unfold sideOf; rw [if_neg (show ¬ sx = nI 0 from hc1), if_neg hc2]⟩⟩ hS dX4_isSide_14
    · refine lv_iconst (v := nI 1) hx hb dX4_isSide_9 rfl ?_
      refine lv_goto (tgt := 14) hx hb dX4_isSide_10 (by decide) ?_
      exact z_zret hx hb hr rfl hlocks ⟨1, rfl, Or.inr ⟨rfl, 1, by unfold sideOf; rw [if_neg (show ¬ sx = nI 0 from hc1), if_pos hc2]⟩⟩ hS dX4_isSide_14

set_option maxHeartbeats 4000000 in
set_option maxRecDepth 100000 in
/-- isSide -/
theorem c_isSide3 (l : Launch) (G : Gd) (sx : Int32) : Mt l yX3_isSide wsX3_isSide 0 0 [.int sx] G [] (fun _ => False) (fun r _ => ∃ z : Nat, r = some (.int (nI z)) ∧ ((z = 0 ∧ sideOf sx = none) ∨ (z = 1 ∧ ∃ d, sideOf sx = some d))) := by
  refine Mt.mk cX3_isSide 1 (some .boolean) (by decide) rfl (Nat.le_of_ble_eq_true rfl) ?_
  intro p9 e s m below meth c ls hx hb hr hml hts hown hlocks hP hK hl
  have hS : va_S (fun _ => False) s.heap s.heap [] := va_S.rf
  have hl : lv_has ls 1 [(0, .int (sx))] := hl
  have hown : s.vm.findClass RX3 = some m.cls := hown
  refine lv_iload_n hx hb dX3_isSide_0 rfl (lv_at hl 0 rfl) ?_
  refine lv_if_eq (tgt := 9) hx hb dX3_isSide_1 (by decide) (fun hc1 => ?_) (fun hc1 => ?_)
  · refine lv_iconst (v := nI 1) hx hb dX3_isSide_9 rfl ?_
    refine lv_goto (tgt := 14) hx hb dX3_isSide_10 (by decide) ?_
    exact z_zret hx hb hr rfl hlocks ⟨1, rfl, Or.inr ⟨rfl, 0, by unfold sideOf; rw [if_pos (show sx = nI 0 from hc1)]⟩⟩ hS dX3_isSide_14
  · refine lv_iload_n hx hb dX3_isSide_4 rfl (lv_at hl 0 rfl) ?_
    refine lv_iconst (v := nI 1) hx hb dX3_isSide_5 rfl ?_
    refine lv_icmp_ne (tgt := 13) hx hb dX3_isSide_6 (by decide) (fun hc2 => ?_) (fun hc2 => ?_)
    · refine lv_iconst (v := nI 0) hx hb dX3_isSide_13 rfl ?_
      exact z_zret hx hb hr rfl hlocks ⟨0, rfl, Or.inl ⟨rfl, by unfold sideOf; rw [if_neg (show ¬ sx = nI 0 from hc1), if_neg hc2]⟩⟩ hS dX3_isSide_14
    · refine lv_iconst (v := nI 1) hx hb dX3_isSide_9 rfl ?_
      refine lv_goto (tgt := 14) hx hb dX3_isSide_10 (by decide) ?_
      exact z_zret hx hb hr rfl hlocks ⟨1, rfl, Or.inr ⟨rfl, 1, by unfold sideOf; rw [if_neg (show ¬ sx = nI 0 from hc1), if_pos hc2]⟩⟩ hS dX3_isSide_14

set_option maxHeartbeats 4000000 in
set_option maxRecDepth 100000 in
/-- the model: own -/
theorem c_own (l : Launch) (G : Gd) (b : Nat → Nat) (n : Nat) (lf : Nat → Int32) (rt : Nat → Int32) (lo : Nat → Nat) (ro : Nat → Nat) (fo : Nat → Option Nat) (no : Nat → Option Nat) (lm : Nat) (rm : Nat) (pa : Nat → Option Nat) (mt : Nat → Int32) (q : Nat → Nat) (cf : Nat → Option Nat) (fa : Nat → Nat) (kp : Nat → Int32) (d k : Nat) (hd : d < 2) (hk : k < 300) : Mt l yX4_own wsX4_own 0 0 [.ref (b 0), .int (nI d), .int (nI k)] G (cR G b n lf rt lo ro fo no lm rm pa mt q cf fa kp) (fun _ => False) (fun r _ => r = some (.int (ow d lf rt k))) := by
  refine Mt.mk cX4_own 3 (some .int) (by decide) rfl (Nat.le_of_ble_eq_true rfl) ?_
  intro p9 e s m below meth c ls hx hb hr hml hts hown hlocks hP hK hl
  have hinX4 : ∀ w ∈ wsX40, w ∈ wsX4_own := by decide +kernel
  have hS : va_S (fun _ => False) s.heap s.heap [] := va_S.rf
  have hl : lv_has ls 3 [(0, .ref (b 0)), (1, .int (nI d)), (2, .int (nI k))] := hl
  have hown : s.vm.findClass RX4 = some m.cls := hown
  refine lv_iload_n hx hb dX4_own_0 rfl (lv_at hl 1 rfl) ?_
  refine z_if_ne (tgt := 13) hx hb (by omega) dX4_own_1 (by decide) (fun hc1 => ?_) (fun hc1 => ?_)
  · refine lv_aload_n hx hb dX4_own_13 rfl (lv_at hl 0 rfl) ?_
    refine va_get (D := G.1) (ci := 4) (v := .ref (b 2)) (C := RX4) (T := TX4) (N := 15) hx hb hts hinX4 hown hK.1 hP 0 rfl rfl 2 (by decide) (hts (.fieldLink RX4 13 "PairThreadsModel" "rights" "[I") (by decide +kernel)) (fun _ h9 => h9) rfl dX4_own_14 ?_
    refine lv_iload_n hx hb dX4_own_17 rfl (lv_at hl 2 rfl) ?_
    refine z_iald hx hb hK hP 2 rfl (j := k) (by omega) (by decide) dX4_own_18 ?_
    exact z_iret hx hb hr hlocks (by rw [show ow d lf rt k = rt k from if_neg hc1]) hS dX4_own_19
  · refine lv_aload_n hx hb dX4_own_4 rfl (lv_at hl 0 rfl) ?_
    refine va_get (D := G.1) (ci := 4) (v := .ref (b 1)) (C := RX4) (T := TX4) (N := 15) hx hb hts hinX4 hown hK.1 hP 0 rfl rfl 1 (by decide) (hts (.fieldLink RX4 7 "PairThreadsModel" "lefts" "[I") (by decide +kernel)) (fun _ h9 => h9) rfl dX4_own_5 ?_
    refine lv_iload_n hx hb dX4_own_8 rfl (lv_at hl 2 rfl) ?_
    refine z_iald hx hb hK hP 1 rfl (j := k) (by omega) (by decide) dX4_own_9 ?_
    refine lv_goto (tgt := 19) hx hb dX4_own_10 (by decide) ?_
    exact z_iret hx hb hr hlocks (by rw [show ow d lf rt k = lf k from if_pos hc1]) hS dX4_own_19

set_option maxHeartbeats 4000000 in
set_option maxRecDepth 100000 in
/-- the model: find -/
theorem c_find (l : Launch) (G : Gd) (b : Nat → Nat) (lf : Nat → Int32) (rt : Nat → Int32) (lo : Nat → Nat) (ro : Nat → Nat) (fo : Nat → Option Nat) (no : Nat → Option Nat) (lm : Nat) (rm : Nat) (pa : Nat → Option Nat) (mt : Nat → Int32) (q : Nat → Nat) (cf : Nat → Option Nat) (fa : Nat → Nat) (kp : Nat → Int32) (L : List Pr) (hMI : MI lf rt L) (x y : Int32) : Mt l yX4_find wsX4_find 0 0 [.ref (b 0), .int (x), .int (y)] G (cR G b L.length lf rt lo ro fo no lm rm pa mt q cf fa kp) (fun _ => False) (fun r _ => ∃ o : Option Nat, r = some (.int (lk o)) ∧ posR L x y o) := by
  refine Mt.mk cX4_find 5 (some .int) (by decide) rfl (Nat.le_of_ble_eq_true rfl) ?_
  intro p9 e s m below meth c ls hx hb hr hml hts hown hlocks hP hK hl
  have hinX4 : ∀ w ∈ wsX40, w ∈ wsX4_find := by decide +kernel
  have hS : va_S (fun _ => False) s.heap s.heap [] := va_S.rf
  have hl : lv_has ls 5 [(0, .ref (b 0)), (1, .int (x)), (2, .int (y))] := hl
  have hown : s.vm.findClass RX4 = some m.cls := hown
  have hn := hMI.1
  refine lv_iconst (v := (-1)) hx hb dX4_find_0 rfl ?_
  refine lv_istore_n (lv' := [(3, .int ((-1))), (0, .ref (b 0)), (1, .int (x)), (2, .int (y))]) hx hb dX4_find_1 rfl hl (by decide) rfl (fun ls hl => ?_)
  refine lv_iconst (v := nI 0) hx hb dX4_find_2 rfl ?_
  refine lv_istore (lv' := [(4, .int (nI 0)), (3, .int ((-1))), (0, .ref (b 0)), (1, .int (x)), (2, .int (y))]) hx hb dX4_find_3 hl (by decide) rfl (fun ls hl => ?_)
  have hl : lv_has ls 5 [(4, .int (nI 0)), (3, .int (lk none)), (0, .ref (b 0)), (1, .int (x)), (2, .int (y))] := hl
  have loop : ∀ (k9 : Nat) (k : Nat) (o : Option Nat) (H : Heap) (locs : List Loc) (ls : Array Slot), L.length < k + k9 → k ≤ L.length → ((o = none ∧ ∀ j, j < k → ¬ (lf j = x ∧ rt j = y)) ∨ ∃ j, o = some j ∧ j < k ∧ lf j = x ∧ rt j = y) → va_P G.1 vwCl (cR G b L.length lf rt lo ro fo no lm rm pa mt q cf fa kp) H → va_S (fun _ => False) s.heap H locs → lv_has ls 5 [(4, .int (nI k)), (3, .int (lk o)), (0, .ref (b 0)), (1, .int (x)), (2, .int (y))] → Wz p9 l e 0 0 s m [.ref (b 0), .int (x), .int (y)] below meth c (fun _ => False) (fun r _ => ∃ o : Option Nat, r = some (.int (lk o)) ∧ posR L x y o) H locs (F0 m 5 ls []) := by
    intro k9
    induction k9 with
    | zero =>
      intro k o H locs ls hfuel hk ho hP hS hl
      exact absurd hfuel (by omega)
    | succ k9 ih =>
      intro k o H locs ls hfuel hk ho hP hS hl
      refine lv_iload hx hb dX4_find_5 (lv_at hl 0 rfl) ?_
      refine lv_aload_n hx hb dX4_find_7 rfl (lv_at hl 2 rfl) ?_
      refine va_get (D := G.1) (ci := 4) (v := .int (nI L.length)) (C := RX4) (T := TX4) (N := 15) hx hb hts hinX4 hown hK.1 hP 0 rfl rfl 0 (by decide) (hts (.fieldLink RX4 47 "PairThreadsModel" "many" "I") (by decide +kernel)) (fun _ h9 => h9) rfl dX4_find_8 ?_
      refine z_icmp_ge (tgt := 49) hx hb (by omega) (by omega) dX4_find_11 (by decide) (fun hc1 => ?_) (fun hc1 => ?_)
      · refine lv_iload_n hx hb dX4_find_49 rfl (lv_at hl 1 rfl) ?_
        have he : k = L.length := by omega
        subst he
        have hpos : posR L x y o := by
          rcases ho with ⟨e, h1⟩ | ⟨j, e, h1, h2, h3⟩
          · refine Or.inl ⟨e, fun hm => ?_⟩
            obtain ⟨i, hi, he⟩ := List.mem_iff_getElem.mp hm
            have h4 := getElem_key hi
            rw [List.getElem?_eq_getElem hi, he, ← (hMI.2 i hi).1, ← (hMI.2 i hi).2] at h4
            have h5 := Option.some.inj h4
            exact h1 i hi ⟨(congrArg Prod.fst h5).symm, (congrArg Prod.snd h5).symm⟩
          · exact Or.inr ⟨j, e, h1, by rw [getElem_key h1, ← (hMI.2 j h1).1, ← (hMI.2 j h1).2, h2, h3]⟩
        exact z_iret hx hb hr hlocks ⟨o, rfl, hpos⟩ hS dX4_find_50
      · refine lv_aload_n hx hb dX4_find_14 rfl (lv_at hl 2 rfl) ?_
        refine va_get (D := G.1) (ci := 4) (v := .ref (b 1)) (C := RX4) (T := TX4) (N := 15) hx hb hts hinX4 hown hK.1 hP 0 rfl rfl 1 (by decide) (hts (.fieldLink RX4 7 "PairThreadsModel" "lefts" "[I") (by decide +kernel)) (fun _ h9 => h9) rfl dX4_find_15 ?_
        refine lv_iload hx hb dX4_find_18 (lv_at hl 0 rfl) ?_
        refine z_iald hx hb hK hP 1 rfl (j := k) (by omega) (by decide) dX4_find_20 ?_
        refine lv_iload_n hx hb dX4_find_21 rfl (lv_at hl 3 rfl) ?_
        refine lv_icmp_ne (tgt := 41) hx hb dX4_find_22 (by decide) (fun hc2 => ?_) (fun hc2 => ?_)
        · refine lv_iload_n hx hb dX4_find_41 rfl (lv_at hl 1 rfl) ?_
          refine lv_istore_n (lv' := [(3, .int (lk o)), (4, .int (nI k)), (0, .ref (b 0)), (1, .int (x)), (2, .int (y))]) hx hb dX4_find_42 rfl hl (by decide) rfl (fun ls hl => ?_)
          refine z_iinc (lv' := [(4, .int (nI (k + 1))), (3, .int (lk o)), (0, .ref (b 0)), (1, .int (x)), (2, .int (y))]) hx hb dX4_find_43 hl (k := 1) rfl (by decide) rfl (fun ls hl => ?_)
          refine lv_goto (tgt := 5) hx hb dX4_find_46 (by decide) ?_
          exact ih (k + 1) o H locs ls (by omega) (by omega) (by rcases ho with ⟨e, h1⟩ | ⟨j, e, h1, h2, h3⟩; exact Or.inl ⟨e, (fun j hj => by rcases Nat.lt_succ_iff_lt_or_eq.mp hj with q | q; exact h1 j q; exact q ▸ (fun q2 => hc2 q2.1))⟩; exact Or.inr ⟨j, e, by omega, h2, h3⟩) hP hS (lv_sub hl [0, 1, 2, 3, 4] rfl)
        · refine lv_aload_n hx hb dX4_find_25 rfl (lv_at hl 2 rfl) ?_
          refine va_get (D := G.1) (ci := 4) (v := .ref (b 2)) (C := RX4) (T := TX4) (N := 15) hx hb hts hinX4 hown hK.1 hP 0 rfl rfl 2 (by decide) (hts (.fieldLink RX4 13 "PairThreadsModel" "rights" "[I") (by decide +kernel)) (fun _ h9 => h9) rfl dX4_find_26 ?_
          refine lv_iload hx hb dX4_find_29 (lv_at hl 0 rfl) ?_
          refine z_iald hx hb hK hP 2 rfl (j := k) (by omega) (by decide) dX4_find_31 ?_
          refine lv_iload_n hx hb dX4_find_32 rfl (lv_at hl 4 rfl) ?_
          refine lv_icmp_ne (tgt := 41) hx hb dX4_find_33 (by decide) (fun hc3 => ?_) (fun hc3 => ?_)
          · refine lv_iload_n hx hb dX4_find_41 rfl (lv_at hl 1 rfl) ?_
            refine lv_istore_n (lv' := [(3, .int (lk o)), (4, .int (nI k)), (0, .ref (b 0)), (1, .int (x)), (2, .int (y))]) hx hb dX4_find_42 rfl hl (by decide) rfl (fun ls hl => ?_)
            refine z_iinc (lv' := [(4, .int (nI (k + 1))), (3, .int (lk o)), (0, .ref (b 0)), (1, .int (x)), (2, .int (y))]) hx hb dX4_find_43 hl (k := 1) rfl (by decide) rfl (fun ls hl => ?_)
            refine lv_goto (tgt := 5) hx hb dX4_find_46 (by decide) ?_
            exact ih (k + 1) o H locs ls (by omega) (by omega) (by rcases ho with ⟨e, h1⟩ | ⟨j, e, h1, h2, h3⟩; exact Or.inl ⟨e, (fun j hj => by rcases Nat.lt_succ_iff_lt_or_eq.mp hj with q | q; exact h1 j q; exact q ▸ (fun q2 => hc3 q2.2))⟩; exact Or.inr ⟨j, e, by omega, h2, h3⟩) hP hS (lv_sub hl [0, 1, 2, 3, 4] rfl)
          · refine lv_iload hx hb dX4_find_36 (lv_at hl 0 rfl) ?_
            refine lv_goto (tgt := 42) hx hb dX4_find_38 (by decide) ?_
            refine z_top (y := lk (some k)) (rfl) ?_
            refine lv_istore_n (lv' := [(3, .int (lk (some k))), (4, .int (nI k)), (0, .ref (b 0)), (1, .int (x)), (2, .int (y))]) hx hb dX4_find_42 rfl hl (by decide) rfl (fun ls hl => ?_)
            refine z_iinc (lv' := [(4, .int (nI (k + 1))), (3, .int (lk (some k))), (0, .ref (b 0)), (1, .int (x)), (2, .int (y))]) hx hb dX4_find_43 hl (k := 1) rfl (by decide) rfl (fun ls hl => ?_)
            refine lv_goto (tgt := 5) hx hb dX4_find_46 (by decide) ?_
            exact ih (k + 1) (some k) H locs ls (by omega) (by omega) (Or.inr ⟨k, rfl, by omega, hc2, hc3⟩) hP hS (lv_sub hl [0, 1, 2, 3, 4] rfl)
  exact loop (L.length + 1) 0 none _ _ ls (by omega) (by omega) (Or.inl ⟨rfl, fun j hj => absurd hj (Nat.not_lt_zero j)⟩) hP hS (lv_sub hl [0, 1, 2, 3, 4] rfl)

set_option maxHeartbeats 4000000 in
set_option maxRecDepth 100000 in
/-- the model: add -/
theorem c_add (l : Launch) (G : Gd) (b : Nat → Nat) (lf : Nat → Int32) (rt : Nat → Int32) (lo : Nat → Nat) (ro : Nat → Nat) (fo : Nat → Option Nat) (no : Nat → Option Nat) (lm : Nat) (rm : Nat) (pa : Nat → Option Nat) (mt : Nat → Int32) (q : Nat → Nat) (cf : Nat → Option Nat) (fa : Nat → Nat) (kp : Nat → Int32) (L : List Pr) (hMI : MI lf rt L) (x y : Int32) (hlt : L.length < 300) (hnd : (aR b).Nodup) : Mt l yX4_add wsX4_add 0 0 [.ref (b 0), .int (x), .int (y)] G (cR G b L.length lf rt lo ro fo no lm rm pa mt q cf fa kp) (fun q => q ∈ aR b) (fun r h => r = none ∧ ∃ lf' rt' : Nat → Int32, MI lf' rt' (L ++ [(x, y)]) ∧ va_P G.1 vwCl (cR G b (L ++ [(x, y)]).length lf' rt' lo ro fo no lm rm pa mt q cf fa kp) h) := by
  refine Mt.mk cX4_add 3 none (by decide) rfl (Nat.le_of_ble_eq_true rfl) ?_
  intro p9 e s m below meth c ls hx hb hr hml hts hown hlocks hP hK hl
  have hinX4 : ∀ w ∈ wsX40, w ∈ wsX4_add := by decide +kernel
  have hS : va_S (fun q => q ∈ aR b) s.heap s.heap [] := va_S.rf
  have hl : lv_has ls 3 [(0, .ref (b 0)), (1, .int (x)), (2, .int (y))] := hl
  have hown : s.vm.findClass RX4 = some m.cls := hown
  have hDD : ∀ ws : va_W, ws.map Prod.fst = aR b → va_D (fun q => q ∈ aR b) ws := D_of hnd (fun q h => h)
  refine lv_aload_n hx hb dX4_add_0 rfl (lv_at hl 0 rfl) ?_
  refine va_get (D := G.1) (ci := 4) (v := .ref (b 1)) (C := RX4) (T := TX4) (N := 15) hx hb hts hinX4 hown hK.1 hP 0 rfl rfl 1 (by decide) (hts (.fieldLink RX4 7 "PairThreadsModel" "lefts" "[I") (by decide +kernel)) (fun _ h9 => h9) rfl dX4_add_1 ?_
  refine lv_aload_n hx hb dX4_add_4 rfl (lv_at hl 0 rfl) ?_
  refine va_get (D := G.1) (ci := 4) (v := .int (nI L.length)) (C := RX4) (T := TX4) (N := 15) hx hb hts hinX4 hown hK.1 hP 0 rfl rfl 0 (by decide) (hts (.fieldLink RX4 47 "PairThreadsModel" "many" "I") (by decide +kernel)) (fun _ h9 => h9) rfl dX4_add_5 ?_
  refine lv_iload_n hx hb dX4_add_8 rfl (lv_at hl 1 rfl) ?_
  refine z_iast hx hb hK hP (hDD _ rfl) hS 1 rfl (j := L.length) (by omega) (by decide) dX4_add_9 (fun H locs hP hS => ?_)
  have hP : va_P G.1 vwCl (cR G b L.length (upd lf L.length (x)) rt lo ro fo no lm rm pa mt q cf fa kp) H := hP
  refine lv_aload_n hx hb dX4_add_10 rfl (lv_at hl 0 rfl) ?_
  refine va_get (D := G.1) (ci := 4) (v := .ref (b 2)) (C := RX4) (T := TX4) (N := 15) hx hb hts hinX4 hown hK.1 hP 0 rfl rfl 2 (by decide) (hts (.fieldLink RX4 13 "PairThreadsModel" "rights" "[I") (by decide +kernel)) (fun _ h9 => h9) rfl dX4_add_11 ?_
  refine lv_aload_n hx hb dX4_add_14 rfl (lv_at hl 0 rfl) ?_
  refine va_get (D := G.1) (ci := 4) (v := .int (nI L.length)) (C := RX4) (T := TX4) (N := 15) hx hb hts hinX4 hown hK.1 hP 0 rfl rfl 0 (by decide) (hts (.fieldLink RX4 47 "PairThreadsModel" "many" "I") (by decide +kernel)) (fun _ h9 => h9) rfl dX4_add_15 ?_
  refine lv_iload_n hx hb dX4_add_18 rfl (lv_at hl 2 rfl) ?_
  refine z_iast hx hb hK hP (hDD _ rfl) hS 2 rfl (j := L.length) (by omega) (by decide) dX4_add_19 (fun H locs hP hS => ?_)
  have hP : va_P G.1 vwCl (cR G b L.length (upd lf L.length (x)) (upd rt L.length (y)) lo ro fo no lm rm pa mt q cf fa kp) H := hP
  refine lv_aload_n hx hb dX4_add_20 rfl (lv_at hl 0 rfl) ?_
  refine lv_dup hx hb dX4_add_21 rfl ?_
  refine va_get (D := G.1) (ci := 4) (v := .int (nI L.length)) (C := RX4) (T := TX4) (N := 15) hx hb hts hinX4 hown hK.1 hP 0 rfl rfl 0 (by decide) (hts (.fieldLink RX4 47 "PairThreadsModel" "many" "I") (by decide +kernel)) (fun _ h9 => h9) rfl dX4_add_22 ?_
  refine lv_iconst (v := nI 1) hx hb dX4_add_25 rfl ?_
  refine lv_iadd hx hb dX4_add_26 ?_
  refine z_top (y := nI (L.length + 1)) (nI_add _ _) ?_
  refine va_put (D := G.1) (ci := 4) (v := .int (nI (L.length + 1))) (ty := .int) (C := RX4) (T := TX4) (N := 15) hx hb hts hinX4 tyX4 tyX4_ok nmX4 hown hK.1 hP (hDD _ rfl) hS 0 rfl rfl 0 (by decide) (hts (.fieldLink RX4 47 "PairThreadsModel" "many" "I") (by decide +kernel)) (fun _ h9 => h9) rfl (by decide +kernel) rfl rfl (Nat.le_of_ble_eq_true rfl) dX4_add_27 (fun H locs hP _ hS => ?_)
  have hP : va_P G.1 vwCl (cR G b (L.length + 1) (upd lf L.length (x)) (upd rt L.length (y)) lo ro fo no lm rm pa mt q cf fa kp) H := hP
  exact z_vret hx hb hr hlocks ⟨rfl, _, _, MI_add hMI hlt, by rw [show (L ++ [(x, y)]).length = L.length + 1 by simp]; exact hP⟩ hS dX4_add_30

set_option maxHeartbeats 4000000 in
set_option maxRecDepth 100000 in
/-- the model: remove -/
theorem c_remove (l : Launch) (G : Gd) (b : Nat → Nat) (lf : Nat → Int32) (rt : Nat → Int32) (lo : Nat → Nat) (ro : Nat → Nat) (fo : Nat → Option Nat) (no : Nat → Option Nat) (lm : Nat) (rm : Nat) (pa : Nat → Option Nat) (mt : Nat → Int32) (q : Nat → Nat) (cf : Nat → Option Nat) (fa : Nat → Nat) (kp : Nat → Int32) (L : List Pr) (hMI : MI lf rt L) (t : Nat) (ht : t < L.length) (hnd : (aR b).Nodup) : Mt l yX4_remove wsX4_remove 0 0 [.ref (b 0), .int (nI t)] G (cR G b L.length lf rt lo ro fo no lm rm pa mt q cf fa kp) (fun q => q ∈ aR b) (fun r h => r = none ∧ ∃ lf' rt' : Nat → Int32, MI lf' rt' (L.eraseIdx t) ∧ va_P G.1 vwCl (cR G b (L.eraseIdx t).length lf' rt' lo ro fo no lm rm pa mt q cf fa kp) h) := by
  refine Mt.mk cX4_remove 3 none (by decide) rfl (Nat.le_of_ble_eq_true rfl) ?_
  intro p9 e s m below meth c ls hx hb hr hml hts hown hlocks hP hK hl
  have hinX4 : ∀ w ∈ wsX40, w ∈ wsX4_remove := by decide +kernel
  have hS : va_S (fun q => q ∈ aR b) s.heap s.heap [] := va_S.rf
  have hl : lv_has ls 3 [(0, .ref (b 0)), (1, .int (nI t))] := hl
  have hown : s.vm.findClass RX4 = some m.cls := hown
  have hDD : ∀ ws : va_W, ws.map Prod.fst = aR b → va_D (fun q => q ∈ aR b) ws := D_of hnd (fun q h => h)
  have hn := hMI.1
  refine lv_aload_n hx hb dX4_remove_0 rfl (lv_at hl 0 rfl) ?_
  refine lv_dup hx hb dX4_remove_1 rfl ?_
  refine va_get (D := G.1) (ci := 4) (v := .int (nI L.length)) (C := RX4) (T := TX4) (N := 15) hx hb hts hinX4 hown hK.1 hP 0 rfl rfl 0 (by decide) (hts (.fieldLink RX4 47 "PairThreadsModel" "many" "I") (by decide +kernel)) (fun _ h9 => h9) rfl dX4_remove_2 ?_
  refine lv_iconst (v := nI 1) hx hb dX4_remove_5 rfl ?_
  refine lv_isub hx hb dX4_remove_6 ?_
  refine z_top (y := nI (L.length - 1)) (pk_sub (by omega)) ?_
  refine va_put (D := G.1) (ci := 4) (v := .int (nI (L.length - 1))) (ty := .int) (C := RX4) (T := TX4) (N := 15) hx hb hts hinX4 tyX4 tyX4_ok nmX4 hown hK.1 hP (hDD _ rfl) hS 0 rfl rfl 0 (by decide) (hts (.fieldLink RX4 47 "PairThreadsModel" "many" "I") (by decide +kernel)) (fun _ h9 => h9) rfl (by decide +kernel) rfl rfl (Nat.le_of_ble_eq_true rfl) dX4_remove_7 (fun H locs hP _ hS => ?_)
  have hP : va_P G.1 vwCl (cR G b (L.length - 1) lf rt lo ro fo no lm rm pa mt q cf fa kp) H := hP
  refine lv_iload_n hx hb dX4_remove_10 rfl (lv_at hl 1 rfl) ?_
  refine lv_istore_n (lv' := [(2, .int (nI t)), (0, .ref (b 0)), (1, .int (nI t))]) hx hb dX4_remove_11 rfl hl (by decide) rfl (fun ls hl => ?_)
  have loop : ∀ (k9 : Nat) (k : Nat) (H : Heap) (locs : List Loc) (ls : Array Slot), L.length - 1 < k + k9 → t ≤ k ∧ k ≤ L.length - 1 → va_P G.1 vwCl (cR G b (L.length - 1) (sh t k lf) (sh t k rt) lo ro fo no lm rm pa mt q cf fa kp) H → va_S (fun q => q ∈ aR b) s.heap H locs → lv_has ls 3 [(2, .int (nI k)), (0, .ref (b 0)), (1, .int (nI t))] → Wz p9 l e 0 0 s m [.ref (b 0), .int (nI t)] below meth c (fun q => q ∈ aR b) (fun r h => r = none ∧ ∃ lf' rt' : Nat → Int32, MI lf' rt' (L.eraseIdx t) ∧ va_P G.1 vwCl (cR G b (L.eraseIdx t).length lf' rt' lo ro fo no lm rm pa mt q cf fa kp) h) H locs (F0 m 12 ls []) := by
    intro k9
    induction k9 with
    | zero =>
      intro k H locs ls hfuel hk hP hS hl
      exact absurd hfuel (by omega)
    | succ k9 ih =>
      intro k H locs ls hfuel hk hP hS hl
      refine lv_iload_n hx hb dX4_remove_12 rfl (lv_at hl 0 rfl) ?_
      refine lv_aload_n hx hb dX4_remove_13 rfl (lv_at hl 1 rfl) ?_
      refine va_get (D := G.1) (ci := 4) (v := .int (nI (L.length - 1))) (C := RX4) (T := TX4) (N := 15) hx hb hts hinX4 hown hK.1 hP 0 rfl rfl 0 (by decide) (hts (.fieldLink RX4 47 "PairThreadsModel" "many" "I") (by decide +kernel)) (fun _ h9 => h9) rfl dX4_remove_14 ?_
      refine z_icmp_ge (tgt := 54) hx hb (by omega) (by omega) dX4_remove_17 (by decide) (fun hc1 => ?_) (fun hc1 => ?_)
      · have he : k = L.length - 1 := by omega
        subst he
        exact z_vret hx hb hr hlocks ⟨rfl, _, _, MI_rem hMI ht, by rw [List.length_eraseIdx_of_lt ht]; exact hP⟩ hS dX4_remove_54
      · refine lv_aload_n hx hb dX4_remove_20 rfl (lv_at hl 1 rfl) ?_
        refine va_get (D := G.1) (ci := 4) (v := .ref (b 1)) (C := RX4) (T := TX4) (N := 15) hx hb hts hinX4 hown hK.1 hP 0 rfl rfl 1 (by decide) (hts (.fieldLink RX4 7 "PairThreadsModel" "lefts" "[I") (by decide +kernel)) (fun _ h9 => h9) rfl dX4_remove_21 ?_
        refine lv_iload_n hx hb dX4_remove_24 rfl (lv_at hl 0 rfl) ?_
        refine lv_aload_n hx hb dX4_remove_25 rfl (lv_at hl 1 rfl) ?_
        refine va_get (D := G.1) (ci := 4) (v := .ref (b 1)) (C := RX4) (T := TX4) (N := 15) hx hb hts hinX4 hown hK.1 hP 0 rfl rfl 1 (by decide) (hts (.fieldLink RX4 7 "PairThreadsModel" "lefts" "[I") (by decide +kernel)) (fun _ h9 => h9) rfl dX4_remove_26 ?_
        refine lv_iload_n hx hb dX4_remove_29 rfl (lv_at hl 0 rfl) ?_
        refine lv_iconst (v := nI 1) hx hb dX4_remove_30 rfl ?_
        refine lv_iadd hx hb dX4_remove_31 ?_
        refine z_top (y := nI (k + 1)) (nI_add _ _) ?_
        refine z_iald hx hb hK hP 1 rfl (j := k + 1) (by omega) (by decide) dX4_remove_32 ?_
        refine z_iast hx hb hK hP (hDD _ rfl) hS 1 rfl (j := k) (by omega) (by decide) dX4_remove_33 (fun H locs hP hS => ?_)
        have hP : va_P G.1 vwCl (cR G b (L.length - 1) (upd (sh t k lf) k ((sh t k lf) (k + 1))) (sh t k rt) lo ro fo no lm rm pa mt q cf fa kp) H := hP
        refine lv_aload_n hx hb dX4_remove_34 rfl (lv_at hl 1 rfl) ?_
        refine va_get (D := G.1) (ci := 4) (v := .ref (b 2)) (C := RX4) (T := TX4) (N := 15) hx hb hts hinX4 hown hK.1 hP 0 rfl rfl 2 (by decide) (hts (.fieldLink RX4 13 "PairThreadsModel" "rights" "[I") (by decide +kernel)) (fun _ h9 => h9) rfl dX4_remove_35 ?_
        refine lv_iload_n hx hb dX4_remove_38 rfl (lv_at hl 0 rfl) ?_
        refine lv_aload_n hx hb dX4_remove_39 rfl (lv_at hl 1 rfl) ?_
        refine va_get (D := G.1) (ci := 4) (v := .ref (b 2)) (C := RX4) (T := TX4) (N := 15) hx hb hts hinX4 hown hK.1 hP 0 rfl rfl 2 (by decide) (hts (.fieldLink RX4 13 "PairThreadsModel" "rights" "[I") (by decide +kernel)) (fun _ h9 => h9) rfl dX4_remove_40 ?_
        refine lv_iload_n hx hb dX4_remove_43 rfl (lv_at hl 0 rfl) ?_
        refine lv_iconst (v := nI 1) hx hb dX4_remove_44 rfl ?_
        refine lv_iadd hx hb dX4_remove_45 ?_
        refine z_top (y := nI (k + 1)) (nI_add _ _) ?_
        refine z_iald hx hb hK hP 2 rfl (j := k + 1) (by omega) (by decide) dX4_remove_46 ?_
        refine z_iast hx hb hK hP (hDD _ rfl) hS 2 rfl (j := k) (by omega) (by decide) dX4_remove_47 (fun H locs hP hS => ?_)
        have hP : va_P G.1 vwCl (cR G b (L.length - 1) (upd (sh t k lf) k ((sh t k lf) (k + 1))) (upd (sh t k rt) k ((sh t k rt) (k + 1))) lo ro fo no lm rm pa mt q cf fa kp) H := hP
        refine z_iinc (lv' := [(2, .int (nI (k + 1))), (0, .ref (b 0)), (1, .int (nI t))]) hx hb dX4_remove_48 hl (k := 0) rfl (by decide) rfl (fun ls hl => ?_)
        refine lv_goto (tgt := 12) hx hb dX4_remove_51 (by decide) ?_
        rw [sh_s hk.1, sh_s hk.1] at hP
        exact ih (k + 1) H locs ls (by omega) ⟨by omega, by omega⟩ hP hS (lv_sub hl [0, 1, 2] rfl)
  rw [← sh_0 t lf, ← sh_0 t rt] at hP
  exact loop (L.length + 1) t _ _ ls (by omega) ⟨by omega, by omega⟩ hP hS (lv_sub hl [0, 1, 2] rfl)
