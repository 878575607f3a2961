set_option maxHeartbeats 4000000 in
set_option maxRecDepth 100000 in
/-- the model: place -/
theorem c_Rplace (l : Launch) (G : Gd) (b : Nat → Nat) (lf : Nat → Int32) (rt : Nat → Int32) (lo : Nat → Nat) (ro : Nat → Nat) (fo : Nat → Option Nat) (no : Nat → Option Nat) (lm : Nat) (rm : Nat) (pa : Nat → Option Nat) (mt : Nat → Int32) (q : Nat → Nat) (cf : Nat → Option Nat) (fa : Nat → Nat) (kp : Nat → Int32) (L : List Pr) (hMI : MI lf rt L) (x y : Int32) : Mt l yX4_place wsX4_place 1 24 [.ref (b 0), .int (x), .int (y)] G (cR G b L.length lf rt lo ro fo no lm rm pa mt q cf fa kp) (fun _ => False) (fun r _ => ∃ o : Option Nat, r = some (.int (lk o)) ∧ posR L x y o) := by
  refine Mt.mk cX4_place 3 (some .int) (by decide) rfl (Nat.le_of_ble_eq_true rfl) ?_
  intro p9 e s m below meth c ls hx hb hr hml hts hown hlocks hP hK hl
  have hS : va_S (fun _ => False) s.heap s.heap [] := va_S.rf
  have hl : lv_has ls 3 [(0, .ref (b 0)), (1, .int (x)), (2, .int (y))] := hl
  have hown : s.vm.findClass RX4 = some m.cls := hown
  refine lv_aload_n hx hb dX4_place_0 rfl (lv_at hl 0 rfl) ?_
  refine lv_iload_n hx hb dX4_place_1 rfl (lv_at hl 1 rfl) ?_
  refine lv_iload_n hx hb dX4_place_2 rfl (lv_at hl 2 rfl) ?_
  refine z_callV (rest := []) 2 ⟨hx, hb, hml, hown, hts⟩ hK (c_find l G b lf rt lo ro fo no lm rm pa mt q cf fa kp L hMI x y) gX4_place_X4_find rfl (by decide +kernel) ⟨Nat.le_of_ble_eq_true rfl, Nat.le_of_ble_eq_true rfl⟩ hP 0 rfl rfl rfl rfl hl.1 rfl (Nat.le_of_ble_eq_true rfl) dX4_place_3 ⟨Nat.le_refl _, Nat.le_refl _⟩ hS (fun _ h => h.elim) (fun v9 H9 locs hR9 hk9 hS => ?_)
  obtain ⟨o, rfl, ho⟩ := hR9
  have hP := P_keep0 hP hk9
  clear hk9
  generalize H9 = H at hP hS ⊢
  refine W.eq (g2 := F0 m 6 ls [.int (lk o)]) rfl ?_
  exact z_iret hx hb hr hlocks ⟨o, rfl, ho⟩ hS dX4_place_6

set_option maxHeartbeats 4000000 in
set_option maxRecDepth 100000 in
/-- the model: degree -/
theorem c_Rdegree (l : Launch) (G : Gd) (b : Nat → Nat) (lf : Nat → Int32) (rt : Nat → Int32) (lo : Nat → Nat) (ro : Nat → Nat) (fo : Nat → Option Nat) (no : Nat → Option Nat) (lm : Nat) (rm : Nat) (pa : Nat → Option Nat) (mt : Nat → Int32) (q : Nat → Nat) (cf : Nat → Option Nat) (fa : Nat → Nat) (kp : Nat → Int32) (L : List Pr) (hMI : MI lf rt L) (sx v : Int32) : Mt l yX4_degree wsX4_degree 1 22 [.ref (b 0), .int (sx), .int (v)] G (cR G b L.length lf rt lo ro fo no lm rm pa mt q cf fa kp) (fun _ => False) (fun r _ => r = some (.int (degA L sx v))) := by
  refine Mt.mk cX4_degree 5 (some .int) (by decide) rfl (Nat.le_of_ble_eq_true rfl) ?_
  intro p9 e s m below meth c ls hx hb hr hml hts hown hlocks hP hK hl
  have hinX4 : ∀ w ∈ wsX40, w ∈ wsX4_degree := by decide +kernel
  have hS : va_S (fun _ => False) s.heap s.heap [] := va_S.rf
  have hl : lv_has ls 5 [(0, .ref (b 0)), (1, .int (sx)), (2, .int (v))] := hl
  have hown : s.vm.findClass RX4 = some m.cls := hown
  have hn := hMI.1
  refine lv_iload_n hx hb dX4_degree_0 rfl (lv_at hl 1 rfl) ?_
  refine z_callS (rest := []) 1 ⟨hx, hb, hml, hown, hts⟩ hK (c_isSide4 l G sx) gX4_degree_X4_isSide rfl (by decide +kernel) ⟨Nat.le_of_ble_eq_true rfl, Nat.le_of_ble_eq_true rfl⟩ P_nil rfl hl.1 rfl (Nat.le_of_ble_eq_true rfl) dX4_degree_1 ⟨Nat.le_refl _, Nat.le_refl _⟩ hS (fun _ h => h.elim) (fun v9 H9 locs hR9 hk9 hS => ?_)
  obtain ⟨z, rfl, hz⟩ := hR9
  have hP := P_keep0 hP hk9
  clear hk9
  generalize H9 = H at hP hS ⊢
  refine W.eq (g2 := F0 m 4 ls [.int (nI z)]) rfl ?_
  rcases hz with ⟨rfl, hsd⟩ | ⟨rfl, d, hsd⟩
  · refine z_if_ne (tgt := 9) hx hb (by omega) dX4_degree_4 (by decide) (fun hc1 => ?_) (fun hc1 => ?_)
    · exact absurd hc1 (by decide)
    · refine lv_iconst (v := (-1)) hx hb dX4_degree_7 rfl ?_
      exact z_iret hx hb hr hlocks (by unfold degA; rw [hsd]) hS dX4_degree_8
  · refine z_if_ne (tgt := 9) hx hb (by omega) dX4_degree_4 (by decide) (fun hc2 => ?_) (fun hc2 => ?_)
    · obtain ⟨hd, hsx⟩ := sideOf_some hsd
      subst hsx
      refine lv_iconst (v := nI 0) hx hb dX4_degree_9 rfl ?_
      refine lv_istore_n (lv' := [(3, .int (nI 0)), (0, .ref (b 0)), (1, .int (nI d)), (2, .int (v))]) hx hb dX4_degree_10 rfl hl (by decide) rfl (fun ls hl => ?_)
      refine lv_iconst (v := nI 0) hx hb dX4_degree_11 rfl ?_
      refine lv_istore (lv' := [(4, .int (nI 0)), (3, .int (nI 0)), (0, .ref (b 0)), (1, .int (nI d)), (2, .int (v))]) hx hb dX4_degree_12 hl (by decide) rfl (fun ls hl => ?_)
      have loop : ∀ (k9 : Nat) (k : Nat) (H : Heap) (locs : List Loc) (ls : Array Slot), (L.length < k + k9) → (k ≤ L.length) → va_P G.1 vwCl (cR G b L.length lf rt lo ro fo no lm rm pa mt q cf fa kp) H → va_S (fun _ => False) s.heap H locs → lv_has ls 5 [(4, .int (nI k)), (3, .int (nI (cnt (key d L) v k))), (0, .ref (b 0)), (1, .int (nI d)), (2, .int (v))] → Wz p9 l e 1 22 s m [.ref (b 0), .int (nI d), .int (v)] below meth c (fun _ => False) (fun r _ => r = some (.int (degA L (nI d) v))) H locs (F0 m 14 ls []) := by
        intro k9
        induction k9 with
        | zero =>
          intro k H locs ls hfuel hk hP hS hl
          exact absurd hfuel (by omega)
        | succ k9 ih =>
          intro k H locs ls hfuel hk hP hS hl
          refine lv_iload hx hb dX4_degree_14 (lv_at hl 0 rfl) ?_
          refine lv_aload_n hx hb dX4_degree_16 rfl (lv_at hl 2 rfl) ?_
          refine va_get (D := G.1) (ci := 4) (v := .int (nI L.length)) (C := RX4) (T := TX4) (N := 15) hx hb hts hinX4 hown hK.1 hP 0 rfl rfl 0 (by decide) (hts (.fieldLink RX4 47 "PairThreadsModel" "many" "I") (by decide +kernel)) (fun _ h9 => h9) rfl dX4_degree_17 ?_
          refine z_icmp_ge (tgt := 48) hx hb (by omega) (by omega) dX4_degree_20 (by decide) (fun hc3 => ?_) (fun hc3 => ?_)
          · refine lv_iload_n hx hb dX4_degree_48 rfl (lv_at hl 1 rfl) ?_
            exact z_iret hx hb hr hlocks (by unfold degA; rw [hsd, show k = L.length by omega]) hS dX4_degree_49
          · refine lv_aload_n hx hb dX4_degree_23 rfl (lv_at hl 2 rfl) ?_
            refine lv_iload_n hx hb dX4_degree_24 rfl (lv_at hl 3 rfl) ?_
            refine lv_iload hx hb dX4_degree_25 (lv_at hl 0 rfl) ?_
            refine z_callV (rest := []) 2 ⟨hx, hb, hml, hown, hts⟩ hK (c_own l G b L.length lf rt lo ro fo no lm rm pa mt q cf fa kp d k (by omega) (by omega)) gX4_degree_X4_own rfl (by decide +kernel) ⟨Nat.le_of_ble_eq_true rfl, Nat.le_of_ble_eq_true rfl⟩ hP 0 rfl rfl rfl rfl hl.1 rfl (Nat.le_of_ble_eq_true rfl) dX4_degree_27 ⟨Nat.le_refl _, Nat.le_refl _⟩ hS (fun _ h => h.elim) (fun v9 H9 locs hR9 hk9 hS => ?_)
            obtain rfl := hR9
            have hP := P_keep0 hP hk9
            clear hk9
            generalize H9 = H at hP hS ⊢
            refine W.eq (g2 := F0 m 30 ls [.int (ow d lf rt k)]) rfl ?_
            refine z_top (y := key d L k) (ow_key hMI hd (by omega)) ?_
            refine lv_iload_n hx hb dX4_degree_30 rfl (lv_at hl 4 rfl) ?_
            refine lv_icmp_ne (tgt := 40) hx hb dX4_degree_31 (by decide) (fun hc4 => ?_) (fun hc4 => ?_)
            · refine lv_iload_n hx hb dX4_degree_40 rfl (lv_at hl 1 rfl) ?_
              refine lv_istore_n (lv' := [(3, .int (nI (cnt (key d L) v k))), (4, .int (nI k)), (0, .ref (b 0)), (1, .int (nI d)), (2, .int (v))]) hx hb dX4_degree_41 rfl hl (by decide) rfl (fun ls hl => ?_)
              refine z_iinc (lv' := [(4, .int (nI (k + 1))), (3, .int (nI (cnt (key d L) v k))), (0, .ref (b 0)), (1, .int (nI d)), (2, .int (v))]) hx hb dX4_degree_42 hl (k := 1) rfl (by decide) rfl (fun ls hl => ?_)
              refine lv_goto (tgt := 14) hx hb dX4_degree_45 (by decide) ?_
              have hl : lv_has ls 5 [(4, .int (nI (k + 1))), (3, .int (nI (cnt (key d L) v (k + 1)))), (0, .ref (b 0)), (1, .int (nI d)), (2, .int (v))] := by rw [cnt_miss hc4]; exact hl
              exact ih (k + 1) H locs ls (by omega) (by omega) hP hS (lv_sub hl [0, 1, 2, 3, 4] rfl)
            · refine lv_iload_n hx hb dX4_degree_34 rfl (lv_at hl 1 rfl) ?_
              refine lv_iconst (v := nI 1) hx hb dX4_degree_35 rfl ?_
              refine lv_iadd hx hb dX4_degree_36 ?_
              refine z_top (y := nI (cnt (key d L) v k + 1)) (nI_add _ _) ?_
              refine lv_goto (tgt := 41) hx hb dX4_degree_37 (by decide) ?_
              refine lv_istore_n (lv' := [(3, .int (nI (cnt (key d L) v k + 1))), (4, .int (nI k)), (0, .ref (b 0)), (1, .int (nI d)), (2, .int (v))]) hx hb dX4_degree_41 rfl hl (by decide) rfl (fun ls hl => ?_)
              refine z_iinc (lv' := [(4, .int (nI (k + 1))), (3, .int (nI (cnt (key d L) v k + 1))), (0, .ref (b 0)), (1, .int (nI d)), (2, .int (v))]) hx hb dX4_degree_42 hl (k := 1) rfl (by decide) rfl (fun ls hl => ?_)
              refine lv_goto (tgt := 14) hx hb dX4_degree_45 (by decide) ?_
              have hl : lv_has ls 5 [(4, .int (nI (k + 1))), (3, .int (nI (cnt (key d L) v (k + 1)))), (0, .ref (b 0)), (1, .int (nI d)), (2, .int (v))] := by rw [cnt_hit hc4]; exact hl
              exact ih (k + 1) H locs ls (by omega) (by omega) hP hS (lv_sub hl [0, 1, 2, 3, 4] rfl)
      exact loop (L.length + 1) 0 _ _ ls (by omega) (by omega) hP hS (lv_sub hl [0, 1, 2, 3, 4] rfl)
    · exact absurd hc2 (by decide)

set_option maxHeartbeats 4000000 in
set_option maxRecDepth 100000 in
/-- the model: drop -/
theorem c_Rdrop (l : Launch) (G : Gd) (b : Nat → Nat) (lf : Nat → Int32) (rt : Nat → Int32) (lo : Nat → Nat) (ro : Nat → Nat) (fo : Nat → Option Nat) (no : Nat → Option Nat) (lm : Nat) (rm : Nat) (pa : Nat → Option Nat) (mt : Nat → Int32) (q : Nat → Nat) (cf : Nat → Option Nat) (fa : Nat → Nat) (kp : Nat → Int32) (L : List Pr) (hMI : MI lf rt L) (sx v : Int32) (hnd : (aR b).Nodup) : Mt l yX4_drop wsX4_drop 1 22 [.ref (b 0), .int (sx), .int (v)] G (cR G b L.length lf rt lo ro fo no lm rm pa mt q cf fa kp) (fun q => q ∈ aR b) (fun r h => r = some (.int (degA L sx v)) ∧ ∃ lf' rt' : Nat → Int32, MI lf' rt' (dropL L sx v) ∧ va_P G.1 vwCl (cR G b (dropL L sx v).length lf' rt' lo ro fo no lm rm pa mt q cf fa kp) h) := by
  refine Mt.mk cX4_drop 5 (some .int) (by decide) rfl (Nat.le_of_ble_eq_true rfl) ?_
  intro p9 e s m below meth c ls hx hb hr hml hts hown hlocks hP hK hl
  have hinX4 : ∀ w ∈ wsX40, w ∈ wsX4_drop := by decide +kernel
  have hS : va_S (fun q => q ∈ aR b) s.heap s.heap [] := va_S.rf
  have hl : lv_has ls 5 [(0, .ref (b 0)), (1, .int (sx)), (2, .int (v))] := hl
  have hown : s.vm.findClass RX4 = some m.cls := hown
  have hDD : ∀ ws : va_W, ws.map Prod.fst = aR b → va_D (fun q => q ∈ aR b) ws := D_of hnd (fun q h => h)
  have hn := hMI.1
  refine lv_iload_n hx hb dX4_drop_0 rfl (lv_at hl 1 rfl) ?_
  refine z_callS (rest := []) 1 ⟨hx, hb, hml, hown, hts⟩ hK (c_isSide4 l G sx) gX4_drop_X4_isSide rfl (by decide +kernel) ⟨Nat.le_of_ble_eq_true rfl, Nat.le_of_ble_eq_true rfl⟩ P_nil rfl hl.1 rfl (Nat.le_of_ble_eq_true rfl) dX4_drop_1 ⟨Nat.le_refl _, Nat.le_refl _⟩ hS (fun _ h => h.elim) (fun v9 H9 locs hR9 hk9 hS => ?_)
  obtain ⟨z, rfl, hz⟩ := hR9
  have hP := P_keep0 hP hk9
  clear hk9
  generalize H9 = H at hP hS ⊢
  refine W.eq (g2 := F0 m 4 ls [.int (nI z)]) rfl ?_
  rcases hz with ⟨rfl, hsd⟩ | ⟨rfl, d, hsd⟩
  · refine z_if_ne (tgt := 9) hx hb (by omega) dX4_drop_4 (by decide) (fun hc1 => ?_) (fun hc1 => ?_)
    · exact absurd hc1 (by decide)
    · refine lv_iconst (v := (-1)) hx hb dX4_drop_7 rfl ?_
      exact z_iret hx hb hr hlocks ⟨by unfold degA; rw [hsd], lf, rt, by unfold dropL; rw [hsd]; exact ⟨hMI, hP⟩⟩ hS dX4_drop_8
  · refine z_if_ne (tgt := 9) hx hb (by omega) dX4_drop_4 (by decide) (fun hc2 => ?_) (fun hc2 => ?_)
    · obtain ⟨hd, hsx⟩ := sideOf_some hsd
      subst hsx
      refine lv_iconst (v := nI 0) hx hb dX4_drop_9 rfl ?_
      refine lv_istore_n (lv' := [(3, .int (nI 0)), (0, .ref (b 0)), (1, .int (nI d)), (2, .int (v))]) hx hb dX4_drop_10 rfl hl (by decide) rfl (fun ls hl => ?_)
      refine lv_aload_n hx hb dX4_drop_11 rfl (lv_at hl 1 rfl) ?_
      refine va_get (D := G.1) (ci := 4) (v := .int (nI L.length)) (C := RX4) (T := TX4) (N := 15) hx hb hts hinX4 hown hK.1 hP 0 rfl rfl 0 (by decide) (hts (.fieldLink RX4 47 "PairThreadsModel" "many" "I") (by decide +kernel)) (fun _ h9 => h9) rfl dX4_drop_12 ?_
      refine lv_iconst (v := nI 1) hx hb dX4_drop_15 rfl ?_
      refine lv_isub hx hb dX4_drop_16 ?_
      refine z_top (y := lk (pr L.length)) (lk_pr _) ?_
      refine lv_istore (lv' := [(4, .int (lk (pr L.length))), (3, .int (nI 0)), (0, .ref (b 0)), (1, .int (nI d)), (2, .int (v))]) hx hb dX4_drop_17 hl (by decide) rfl (fun ls hl => ?_)
      have loop : ∀ (k9 : Nat) (k : Nat) (M : List Pr) (lf : Nat → Int32) (rt : Nat → Int32) (H : Heap) (locs : List Loc) (ls : Array Slot), (k < k9) → (k ≤ L.length) → (M = L.take k ++ wo d v (L.drop k)) → (MI lf rt M) → va_P G.1 vwCl (cR G b M.length lf rt lo ro fo no lm rm pa mt q cf fa kp) H → va_S (fun q => q ∈ aR b) s.heap H locs → lv_has ls 5 [(4, .int (lk (pr k))), (3, .int (nI (cnt (key d L) v L.length - cnt (key d L) v k))), (0, .ref (b 0)), (1, .int (nI d)), (2, .int (v))] → Wz p9 l e 1 22 s m [.ref (b 0), .int (nI d), .int (v)] below meth c (fun q => q ∈ aR b) (fun r h => r = some (.int (degA L (nI d) v)) ∧ ∃ lf' rt' : Nat → Int32, MI lf' rt' (dropL L (nI d) v) ∧ va_P G.1 vwCl (cR G b (dropL L (nI d) v).length lf' rt' lo ro fo no lm rm pa mt q cf fa kp) h) H locs (F0 m 19 ls []) := by
        intro k9
        induction k9 with
        | zero =>
          intro k M lf rt H locs ls hfuel hk hM hMI hP hS hl
          exact absurd hfuel (by omega)
        | succ k9 ih =>
          intro k M lf rt H locs ls hfuel hk hM hMI hP hS hl
          have hpk : ∀ i, pr k = some i → k = i + 1 := fun i hi => by cases k with | zero => cases hi | succ z => cases hi; rfl
          have hL3 := hMI.1
          have hML : k ≤ M.length := by rw [hM, List.length_append, List.length_take]; omega
          refine lv_iload hx hb dX4_drop_19 (lv_at hl 0 rfl) ?_
          refine z_if_lt (tgt := 50) hx hb (fun i hi => by have := hpk i hi; omega) dX4_drop_21 (by decide) (fun hc3 => ?_) (fun i hc3 => ?_)
          · have hk0 : k = 0 := by cases k with | zero => rfl | succ z => cases hc3
            subst hk0
            refine lv_iload_n hx hb dX4_drop_50 rfl (lv_at hl 1 rfl) ?_
            exact z_iret hx hb hr hlocks ⟨by unfold degA; rw [hsd]; rfl, lf, rt, by have e : M = dropL L (nI d) v := by { unfold dropL; rw [hsd]; exact hM.trans rfl }; rw [← e]; exact ⟨hMI, hP⟩⟩ hS dX4_drop_51
          · have hki := hpk i hc3
            rw [hc3] at hl
            have hl : lv_has ls 5 [(4, .int (nI i)), (3, .int (nI (cnt (key d L) v L.length - cnt (key d L) v k))), (0, .ref (b 0)), (1, .int (nI d)), (2, .int (v))] := hl
            have hdr := drop_cons_pr L (show i < L.length by omega)
            have htk := take_succ_pr L (show i < L.length by omega)
            have hMi : M = L.take i ++ L.getD i (0, 0) :: wo d v (L.drop k) := by rw [hM, hki, htk, List.append_assoc]; rfl
            have hkey : ow d lf rt i = key d L i := by rw [ow_key hMI hd (by omega), hMi]; unfold key; congr 1; rw [List.getD_eq_getElem?_getD, List.getElem?_append_right (by rw [List.length_take]; omega), List.length_take, show i - min i L.length = 0 by omega]; rfl
            refine lv_aload_n hx hb dX4_drop_24 rfl (lv_at hl 2 rfl) ?_
            refine lv_iload_n hx hb dX4_drop_25 rfl (lv_at hl 3 rfl) ?_
            refine lv_iload hx hb dX4_drop_26 (lv_at hl 0 rfl) ?_
            refine z_callV (rest := []) 2 ⟨hx, hb, hml, hown, hts⟩ hK (c_own l G b M.length lf rt lo ro fo no lm rm pa mt q cf fa kp d i (by omega) (by omega)) gX4_drop_X4_own rfl (by decide +kernel) ⟨Nat.le_of_ble_eq_true rfl, Nat.le_of_ble_eq_true rfl⟩ hP 0 rfl rfl rfl rfl hl.1 rfl (Nat.le_of_ble_eq_true rfl) dX4_drop_28 ⟨Nat.le_refl _, Nat.le_refl _⟩ hS (fun _ h => h.elim) (fun v9 H9 locs hR9 hk9 hS => ?_)
            obtain rfl := hR9
            have hP := P_keep0 hP hk9
            clear hk9
            generalize H9 = H at hP hS ⊢
            refine W.eq (g2 := F0 m 31 ls [.int (ow d lf rt i)]) rfl ?_
            refine lv_iload_n hx hb dX4_drop_31 rfl (lv_at hl 4 rfl) ?_
            refine lv_icmp_ne (tgt := 44) hx hb dX4_drop_32 (by decide) (fun hc4 => ?_) (fun hc4 => ?_)
            · rw [hkey] at hc4
              refine z_iincm (lv' := [(4, .int (lk (pr i))), (3, .int (nI (cnt (key d L) v L.length - cnt (key d L) v k))), (0, .ref (b 0)), (1, .int (nI d)), (2, .int (v))]) hx hb dX4_drop_44 hl (k := 0) rfl (by decide) rfl (fun ls hl => ?_)
              refine lv_goto (tgt := 19) hx hb dX4_drop_47 (by decide) ?_
              have hl : lv_has ls 5 [(4, .int (lk (pr i))), (3, .int (nI (cnt (key d L) v L.length - cnt (key d L) v i))), (0, .ref (b 0)), (1, .int (nI d)), (2, .int (v))] := by rw [← cnt_miss hc4, ← hki]; exact hl
              exact ih i M lf rt H locs ls (by omega) (by omega) (by rw [hMi, hdr, wo_miss hc4, hki]) hMI hP hS (lv_sub hl [0, 1, 2, 3, 4] rfl)
            · rw [hkey] at hc4
              refine lv_aload_n hx hb dX4_drop_35 rfl (lv_at hl 2 rfl) ?_
              refine lv_iload hx hb dX4_drop_36 (lv_at hl 0 rfl) ?_
              refine z_callV (rest := []) 1 ⟨hx, hb, hml, hown, hts⟩ hK (c_remove l G b lf rt lo ro fo no lm rm pa mt q cf fa kp M hMI i (by omega) hnd) gX4_drop_X4_remove rfl (by decide +kernel) ⟨Nat.le_of_ble_eq_true rfl, Nat.le_of_ble_eq_true rfl⟩ hP 0 rfl rfl rfl rfl hl.1 rfl (Nat.le_of_ble_eq_true rfl) dX4_drop_38 ⟨Nat.le_refl _, Nat.le_refl _⟩ hS (fun _ h => h) (fun v9 H9 locs hR9 hk9 hS => ?_)
              obtain ⟨rfl, lf2, rt2, hMI2, hP⟩ := hR9
              clear hk9
              generalize H9 = H at hP hS ⊢
              refine W.eq (g2 := F0 m 41 ls []) rfl ?_
              obtain ⟨M2, eM2⟩ : ∃ z, z = M.eraseIdx i := ⟨_, rfl⟩
              rw [← eM2] at hMI2 hP
              refine z_iinc (lv' := [(3, .int (nI (cnt (key d L) v L.length - cnt (key d L) v k + 1))), (4, .int (nI i)), (0, .ref (b 0)), (1, .int (nI d)), (2, .int (v))]) hx hb dX4_drop_41 hl (k := 1) rfl (by decide) rfl (fun ls hl => ?_)
              refine z_iincm (lv' := [(4, .int (lk (pr i))), (3, .int (nI (cnt (key d L) v L.length - cnt (key d L) v k + 1))), (0, .ref (b 0)), (1, .int (nI d)), (2, .int (v))]) hx hb dX4_drop_44 hl (k := 1) rfl (by decide) rfl (fun ls hl => ?_)
              refine lv_goto (tgt := 19) hx hb dX4_drop_47 (by decide) ?_
              have hc0 := cnt_mono (K := key d L) (v := v) (show i + 1 ≤ L.length by omega)
              have hc1 := cnt_hit (K := key d L) hc4
              have hl : lv_has ls 5 [(4, .int (lk (pr i))), (3, .int (nI (cnt (key d L) v L.length - cnt (key d L) v i))), (0, .ref (b 0)), (1, .int (nI d)), (2, .int (v))] := by rw [show cnt (key d L) v L.length - cnt (key d L) v i = cnt (key d L) v L.length - cnt (key d L) v k + 1 by rw [hki]; omega]; exact hl
              exact ih i M2 lf2 rt2 H locs ls (by omega) (by omega) (by rw [eM2, hMi, hdr, wo_hit hc4, hki]; exact erase_at (by rw [List.length_take]; omega)) hMI2 hP hS (lv_sub hl [0, 1, 2, 3, 4] rfl)
      have hl : lv_has ls 5 [(4, .int (lk (pr L.length))), (3, .int (nI (cnt (key d L) v L.length - cnt (key d L) v L.length))), (0, .ref (b 0)), (1, .int (nI d)), (2, .int (v))] := by rw [Nat.sub_self]; exact hl
      exact loop (L.length + 1) L.length L lf rt _ _ ls (by omega) (by omega) (by rw [List.take_length, List.drop_length]; simp [wo]) hMI hP hS (lv_sub hl [0, 1, 2, 3, 4] rfl)
    · exact absurd hc2 (by decide)

set_option maxHeartbeats 4000000 in
set_option maxRecDepth 100000 in
/-- the model: link -/
theorem c_Rlink (l : Launch) (G : Gd) (b : Nat → Nat) (lf : Nat → Int32) (rt : Nat → Int32) (lo : Nat → Nat) (ro : Nat → Nat) (fo : Nat → Option Nat) (no : Nat → Option Nat) (lm : Nat) (rm : Nat) (pa : Nat → Option Nat) (mt : Nat → Int32) (q : Nat → Nat) (cf : Nat → Option Nat) (fa : Nat → Nat) (kp : Nat → Int32) (L : List Pr) (hMI : MI lf rt L) (x y : Int32) (hnd : (aR b).Nodup) : Mt l yX4_link wsX4_link 1 24 [.ref (b 0), .int (x), .int (y)] G (cR G b L.length lf rt lo ro fo no lm rm pa mt q cf fa kp) (fun q => q ∈ aR b) (fun r h => r = some (.int (linkA L x y)) ∧ ∃ lf' rt' : Nat → Int32, MI lf' rt' (linkL L x y) ∧ va_P G.1 vwCl (cR G b (linkL L x y).length lf' rt' lo ro fo no lm rm pa mt q cf fa kp) h) := by
  refine Mt.mk cX4_link 3 (some .int) (by decide) rfl (Nat.le_of_ble_eq_true rfl) ?_
  intro p9 e s m below meth c ls hx hb hr hml hts hown hlocks hP hK hl
  have hinX4 : ∀ w ∈ wsX40, w ∈ wsX4_link := by decide +kernel
  have hS : va_S (fun q => q ∈ aR b) s.heap s.heap [] := va_S.rf
  have hl : lv_has ls 3 [(0, .ref (b 0)), (1, .int (x)), (2, .int (y))] := hl
  have hown : s.vm.findClass RX4 = some m.cls := hown
  have hDD : ∀ ws : va_W, ws.map Prod.fst = aR b → va_D (fun q => q ∈ aR b) ws := D_of hnd (fun q h => h)
  have hn := hMI.1
  refine lv_aload_n hx hb dX4_link_0 rfl (lv_at hl 0 rfl) ?_
  refine lv_iload_n hx hb dX4_link_1 rfl (lv_at hl 1 rfl) ?_
  refine lv_iload_n hx hb dX4_link_2 rfl (lv_at hl 2 rfl) ?_
  refine z_callV (rest := []) 2 ⟨hx, hb, hml, hown, hts⟩ hK (c_find l G b lf rt lo ro fo no lm rm pa mt q cf fa kp L hMI x y) gX4_link_X4_find rfl (by decide +kernel) ⟨Nat.le_of_ble_eq_true rfl, Nat.le_of_ble_eq_true rfl⟩ hP 0 rfl rfl rfl rfl hl.1 rfl (Nat.le_of_ble_eq_true rfl) dX4_link_3 ⟨Nat.le_refl _, Nat.le_refl _⟩ hS (fun _ h => h.elim) (fun v9 H9 locs hR9 hk9 hS => ?_)
  obtain ⟨o, rfl, ho⟩ := hR9
  have hP := P_keep0 hP hk9
  clear hk9
  generalize H9 = H at hP hS ⊢
  refine W.eq (g2 := F0 m 6 ls [.int (lk o)]) rfl ?_
  refine lv_iconst (v := (-1)) hx hb dX4_link_6 rfl ?_
  refine z_none_eq (tgt := 12) hx hb (fun k hk => by have := posR_lt ho k hk; omega) dX4_link_7 (by decide) (fun hc1 => ?_) (fun k hc1 => ?_)
  · have hm := (posR_none ho).mp hc1
    refine lv_aload_n hx hb dX4_link_12 rfl (lv_at hl 0 rfl) ?_
    refine va_get (D := G.1) (ci := 4) (v := .int (nI L.length)) (C := RX4) (T := TX4) (N := 15) hx hb hts hinX4 hown hK.1 hP 0 rfl rfl 0 (by decide) (hts (.fieldLink RX4 47 "PairThreadsModel" "many" "I") (by decide +kernel)) (fun _ h9 => h9) rfl dX4_link_13 ?_
    refine lv_sipush (v := nI 300) hx hb dX4_link_16 (by decide) ?_
    refine z_icmp_ne (tgt := 25) hx hb (by omega) (by omega) dX4_link_19 (by decide) (fun hc2 => ?_) (fun hc2 => ?_)
    · refine lv_aload_n hx hb dX4_link_25 rfl (lv_at hl 0 rfl) ?_
      refine lv_iload_n hx hb dX4_link_26 rfl (lv_at hl 1 rfl) ?_
      refine lv_iload_n hx hb dX4_link_27 rfl (lv_at hl 2 rfl) ?_
      refine z_callV (rest := []) 2 ⟨hx, hb, hml, hown, hts⟩ hK (c_add l G b lf rt lo ro fo no lm rm pa mt q cf fa kp L hMI x y (by omega) hnd) gX4_link_X4_add rfl (by decide +kernel) ⟨Nat.le_of_ble_eq_true rfl, Nat.le_of_ble_eq_true rfl⟩ hP 0 rfl rfl rfl rfl hl.1 rfl (Nat.le_of_ble_eq_true rfl) dX4_link_28 ⟨Nat.le_refl _, Nat.le_refl _⟩ hS (fun _ h => h) (fun v9 H9 locs hR9 hk9 hS => ?_)
      obtain ⟨rfl, lf2, rt2, hMI2, hP⟩ := hR9
      clear hk9
      generalize H9 = H at hP hS ⊢
      refine W.eq (g2 := F0 m 31 ls []) rfl ?_
      refine lv_aload_n hx hb dX4_link_31 rfl (lv_at hl 0 rfl) ?_
      refine va_get (D := G.1) (ci := 4) (v := .int (nI ((L ++ [(x, y)]).length))) (C := RX4) (T := TX4) (N := 15) hx hb hts hinX4 hown hK.1 hP 0 rfl rfl 0 (by decide) (hts (.fieldLink RX4 47 "PairThreadsModel" "many" "I") (by decide +kernel)) (fun _ h9 => h9) rfl dX4_link_32 ?_
      exact z_iret hx hb hr hlocks ⟨by unfold linkA; rw [if_neg hm, if_neg (by omega)]; simp, lf2, rt2, by unfold linkL; rw [if_neg hm, if_neg (by omega)]; exact ⟨hMI2, hP⟩⟩ hS dX4_link_35
    · refine lv_bipush (v := (-2)) hx hb dX4_link_22 (by decide) ?_
      exact z_iret hx hb hr hlocks ⟨by unfold linkA; rw [if_neg hm, if_pos (by omega)], lf, rt, by unfold linkL; rw [if_neg hm, if_pos (by omega)]; exact ⟨hMI, hP⟩⟩ hS dX4_link_24
  · have hm : (x, y) ∈ L := Decidable.byContradiction (fun z => by rw [(posR_none ho).mpr z] at hc1; cases hc1)
    refine lv_iconst (v := (-1)) hx hb dX4_link_10 rfl ?_
    exact z_iret hx hb hr hlocks ⟨by unfold linkA; rw [if_pos hm], lf, rt, by unfold linkL; rw [if_pos hm]; exact ⟨hMI, hP⟩⟩ hS dX4_link_11

set_option maxHeartbeats 4000000 in
set_option maxRecDepth 100000 in
/-- the model: unlink -/
theorem c_Runlink (l : Launch) (G : Gd) (b : Nat → Nat) (lf : Nat → Int32) (rt : Nat → Int32) (lo : Nat → Nat) (ro : Nat → Nat) (fo : Nat → Option Nat) (no : Nat → Option Nat) (lm : Nat) (rm : Nat) (pa : Nat → Option Nat) (mt : Nat → Int32) (q : Nat → Nat) (cf : Nat → Option Nat) (fa : Nat → Nat) (kp : Nat → Int32) (L : List Pr) (hMI : MI lf rt L) (x y : Int32) (hnd : (aR b).Nodup) : Mt l yX4_unlink wsX4_unlink 1 24 [.ref (b 0), .int (x), .int (y)] G (cR G b L.length lf rt lo ro fo no lm rm pa mt q cf fa kp) (fun q => q ∈ aR b) (fun r h => ∃ o : Option Nat, posR L x y o ∧ r = some (.int (unlA L o)) ∧ ∃ lf' rt' : Nat → Int32, MI lf' rt' (unlL L o) ∧ va_P G.1 vwCl (cR G b (unlL L o).length lf' rt' lo ro fo no lm rm pa mt q cf fa kp) h) := by
  refine Mt.mk cX4_unlink 4 (some .int) (by decide) rfl (Nat.le_of_ble_eq_true rfl) ?_
  intro p9 e s m below meth c ls hx hb hr hml hts hown hlocks hP hK hl
  have hinX4 : ∀ w ∈ wsX40, w ∈ wsX4_unlink := by decide +kernel
  have hS : va_S (fun q => q ∈ aR b) s.heap s.heap [] := va_S.rf
  have hl : lv_has ls 4 [(0, .ref (b 0)), (1, .int (x)), (2, .int (y))] := hl
  have hown : s.vm.findClass RX4 = some m.cls := hown
  have hDD : ∀ ws : va_W, ws.map Prod.fst = aR b → va_D (fun q => q ∈ aR b) ws := D_of hnd (fun q h => h)
  have hn := hMI.1
  refine lv_aload_n hx hb dX4_unlink_0 rfl (lv_at hl 0 rfl) ?_
  refine lv_iload_n hx hb dX4_unlink_1 rfl (lv_at hl 1 rfl) ?_
  refine lv_iload_n hx hb dX4_unlink_2 rfl (lv_at hl 2 rfl) ?_
  refine z_callV (rest := []) 2 ⟨hx, hb, hml, hown, hts⟩ hK (c_find l G b lf rt lo ro fo no lm rm pa mt q cf fa kp L hMI x y) gX4_unlink_X4_find rfl (by decide +kernel) ⟨Nat.le_of_ble_eq_true rfl, Nat.le_of_ble_eq_true rfl⟩ hP 0 rfl rfl rfl rfl hl.1 rfl (Nat.le_of_ble_eq_true rfl) dX4_unlink_3 ⟨Nat.le_refl _, Nat.le_refl _⟩ hS (fun _ h => h.elim) (fun v9 H9 locs hR9 hk9 hS => ?_)
  obtain ⟨o, rfl, ho⟩ := hR9
  have hP := P_keep0 hP hk9
  clear hk9
  generalize H9 = H at hP hS ⊢
  refine W.eq (g2 := F0 m 6 ls [.int (lk o)]) rfl ?_
  refine lv_istore_n (lv' := [(3, .int (lk o)), (0, .ref (b 0)), (1, .int (x)), (2, .int (y))]) hx hb dX4_unlink_6 rfl hl (by decide) rfl (fun ls hl => ?_)
  refine lv_iload_n hx hb dX4_unlink_7 rfl (lv_at hl 0 rfl) ?_
  refine lv_iconst (v := (-1)) hx hb dX4_unlink_8 rfl ?_
  refine z_none_ne (tgt := 14) hx hb (fun k hk => by have := posR_lt ho k hk; omega) dX4_unlink_9 (by decide) (fun k hc1 => ?_) (fun hc1 => ?_)
  · subst hc1
    have hl : lv_has ls 4 [(3, .int (nI k)), (0, .ref (b 0)), (1, .int (x)), (2, .int (y))] := hl
    have hkl := posR_lt ho k rfl
    refine lv_aload_n hx hb dX4_unlink_14 rfl (lv_at hl 1 rfl) ?_
    refine lv_iload_n hx hb dX4_unlink_15 rfl (lv_at hl 0 rfl) ?_
    refine z_callV (rest := []) 1 ⟨hx, hb, hml, hown, hts⟩ hK (c_remove l G b lf rt lo ro fo no lm rm pa mt q cf fa kp L hMI k hkl hnd) gX4_unlink_X4_remove rfl (by decide +kernel) ⟨Nat.le_of_ble_eq_true rfl, Nat.le_of_ble_eq_true rfl⟩ hP 0 rfl rfl rfl rfl hl.1 rfl (Nat.le_of_ble_eq_true rfl) dX4_unlink_16 ⟨Nat.le_refl _, Nat.le_refl _⟩ hS (fun _ h => h) (fun v9 H9 locs hR9 hk9 hS => ?_)
    obtain ⟨rfl, lf2, rt2, hMI2, hP⟩ := hR9
    clear hk9
    generalize H9 = H at hP hS ⊢
    refine W.eq (g2 := F0 m 19 ls []) rfl ?_
    refine lv_aload_n hx hb dX4_unlink_19 rfl (lv_at hl 1 rfl) ?_
    refine va_get (D := G.1) (ci := 4) (v := .int (nI ((L.eraseIdx k).length))) (C := RX4) (T := TX4) (N := 15) hx hb hts hinX4 hown hK.1 hP 0 rfl rfl 0 (by decide) (hts (.fieldLink RX4 47 "PairThreadsModel" "many" "I") (by decide +kernel)) (fun _ h9 => h9) rfl dX4_unlink_20 ?_
    exact z_iret hx hb hr hlocks ⟨some k, ho, by rw [List.length_eraseIdx_of_lt hkl]; rfl, lf2, rt2, hMI2, hP⟩ hS dX4_unlink_23
  · subst hc1
    refine lv_iconst (v := (-1)) hx hb dX4_unlink_12 rfl ?_
    exact z_iret hx hb hr hlocks ⟨none, ho, rfl, lf, rt, hMI, hP⟩ hS dX4_unlink_13

set_option maxHeartbeats 4000000 in
set_option maxRecDepth 100000 in
/-- the model: at -/
theorem c_Rat (l : Launch) (G : Gd) (b : Nat → Nat) (lf : Nat → Int32) (rt : Nat → Int32) (lo : Nat → Nat) (ro : Nat → Nat) (fo : Nat → Option Nat) (no : Nat → Option Nat) (lm : Nat) (rm : Nat) (pa : Nat → Option Nat) (mt : Nat → Int32) (q : Nat → Nat) (cf : Nat → Option Nat) (fa : Nat → Nat) (kp : Nat → Int32) (L : List Pr) (hMI : MI lf rt L) (px sx : Int32) : Mt l yX4_at wsX4_at 1 22 [.ref (b 0), .int (px), .int (sx)] G (cR G b L.length lf rt lo ro fo no lm rm pa mt q cf fa kp) (fun _ => False) (fun r _ => r = some (.int (atA L px sx))) := by
  refine Mt.mk cX4_at 3 (some .int) (by decide) rfl (Nat.le_of_ble_eq_true rfl) ?_
  intro p9 e s m below meth c ls hx hb hr hml hts hown hlocks hP hK hl
  have hinX4 : ∀ w ∈ wsX40, w ∈ wsX4_at := by decide +kernel
  have hS : va_S (fun _ => False) s.heap s.heap [] := va_S.rf
  have hl : lv_has ls 3 [(0, .ref (b 0)), (1, .int (px)), (2, .int (sx))] := hl
  have hown : s.vm.findClass RX4 = some m.cls := hown
  have hn := hMI.1
  refine lv_iload_n hx hb dX4_at_0 rfl (lv_at hl 1 rfl) ?_
  refine lv_if_lt (tgt := 28) hx hb dX4_at_1 (by decide) (fun hc1 => ?_) (fun hc1 => ?_)
  · refine lv_iconst (v := nI 0) hx hb dX4_at_28 rfl ?_
    have hng : ¬ (0 ≤ px.toInt ∧ px.toInt < L.length) := fun z => by have h1 := Int32.lt_iff_toInt_lt.mp hc1; have h2 : (0 : Int32).toInt = 0 := rfl; omega
    exact z_iret hx hb hr hlocks (by unfold atA; cases sideOf sx with | none => rfl | some d => exact (congrArg (fun z => some (Value.int z)) (if_neg hng)).symm) hS dX4_at_29
  · obtain ⟨x0, hx0, hxe⟩ := nI_of hc1
    subst hxe
    have hti := nI_toInt hx0
    refine lv_iload_n hx hb dX4_at_4 rfl (lv_at hl 1 rfl) ?_
    refine lv_aload_n hx hb dX4_at_5 rfl (lv_at hl 0 rfl) ?_
    refine va_get (D := G.1) (ci := 4) (v := .int (nI L.length)) (C := RX4) (T := TX4) (N := 15) hx hb hts hinX4 hown hK.1 hP 0 rfl rfl 0 (by decide) (hts (.fieldLink RX4 47 "PairThreadsModel" "many" "I") (by decide +kernel)) (fun _ h9 => h9) rfl dX4_at_6 ?_
    refine z_icmp_ge (tgt := 28) hx hb (by omega) (by omega) dX4_at_9 (by decide) (fun hc2 => ?_) (fun hc2 => ?_)
    · refine lv_iconst (v := nI 0) hx hb dX4_at_28 rfl ?_
      exact z_iret hx hb hr hlocks (by unfold atA; cases sideOf sx with | none => rfl | some d => exact (congrArg (fun z => some (Value.int z)) (if_neg (by rw [hti]; omega))).symm) hS dX4_at_29
    · refine lv_iload_n hx hb dX4_at_12 rfl (lv_at hl 2 rfl) ?_
      refine z_callS (rest := []) 1 ⟨hx, hb, hml, hown, hts⟩ hK (c_isSide4 l G sx) gX4_at_X4_isSide rfl (by decide +kernel) ⟨Nat.le_of_ble_eq_true rfl, Nat.le_of_ble_eq_true rfl⟩ P_nil rfl hl.1 rfl (Nat.le_of_ble_eq_true rfl) dX4_at_13 ⟨Nat.le_refl _, Nat.le_refl _⟩ hS (fun _ h => h.elim) (fun v9 H9 locs hR9 hk9 hS => ?_)
      obtain ⟨z, rfl, hz⟩ := hR9
      have hP := P_keep0 hP hk9
      clear hk9
      generalize H9 = H at hP hS ⊢
      refine W.eq (g2 := F0 m 16 ls [.int (nI z)]) rfl ?_
      rcases hz with ⟨rfl, hsd⟩ | ⟨rfl, d, hsd⟩
      · refine z_if_eq (tgt := 28) hx hb (by omega) dX4_at_16 (by decide) (fun hc3 => ?_) (fun hc3 => ?_)
        · refine lv_iconst (v := nI 0) hx hb dX4_at_28 rfl ?_
          exact z_iret hx hb hr hlocks (by unfold atA; rw [hsd]) hS dX4_at_29
        · exact absurd hc3 (by decide)
      · refine z_if_eq (tgt := 28) hx hb (by omega) dX4_at_16 (by decide) (fun hc4 => ?_) (fun hc4 => ?_)
        · exact absurd hc4 (by decide)
        · obtain ⟨hd, hsx⟩ := sideOf_some hsd
          subst hsx
          refine lv_aload_n hx hb dX4_at_19 rfl (lv_at hl 0 rfl) ?_
          refine lv_iload_n hx hb dX4_at_20 rfl (lv_at hl 2 rfl) ?_
          refine lv_iload_n hx hb dX4_at_21 rfl (lv_at hl 1 rfl) ?_
          refine z_callV (rest := []) 2 ⟨hx, hb, hml, hown, hts⟩ hK (c_own l G b L.length lf rt lo ro fo no lm rm pa mt q cf fa kp d x0 (by omega) (by omega)) gX4_at_X4_own rfl (by decide +kernel) ⟨Nat.le_of_ble_eq_true rfl, Nat.le_of_ble_eq_true rfl⟩ hP 0 rfl rfl rfl rfl hl.1 rfl (Nat.le_of_ble_eq_true rfl) dX4_at_22 ⟨Nat.le_refl _, Nat.le_refl _⟩ hS (fun _ h => h.elim) (fun v9 H9 locs hR9 hk9 hS => ?_)
          obtain rfl := hR9
          have hP := P_keep0 hP hk9
          clear hk9
          generalize H9 = H at hP hS ⊢
          refine W.eq (g2 := F0 m 25 ls [.int (ow d lf rt x0)]) rfl ?_
          refine lv_goto (tgt := 29) hx hb dX4_at_25 (by decide) ?_
          exact z_iret hx hb hr hlocks (by unfold atA; rw [hsd]; dsimp only; rw [if_pos (by rw [hti]; omega), hti, ow_key hMI hd (by omega)]; rfl) hS dX4_at_29

set_option maxHeartbeats 4000000 in
set_option maxRecDepth 100000 in
/-- the model: clear -/
theorem c_Rclear (l : Launch) (G : Gd) (b : Nat → Nat) (lf : Nat → Int32) (rt : Nat → Int32) (lo : Nat → Nat) (ro : Nat → Nat) (fo : Nat → Option Nat) (no : Nat → Option Nat) (lm : Nat) (rm : Nat) (pa : Nat → Option Nat) (mt : Nat → Int32) (q : Nat → Nat) (cf : Nat → Option Nat) (fa : Nat → Nat) (kp : Nat → Int32) (L : List Pr) (hMI : MI lf rt L) (hnd : (aR b).Nodup) : Mt l yX4_clear wsX4_clear 0 0 [.ref (b 0)] G (cR G b L.length lf rt lo ro fo no lm rm pa mt q cf fa kp) (fun q => q ∈ aR b) (fun r h => r = some (.int (nI L.length)) ∧ ∃ lf' rt' : Nat → Int32, MI lf' rt' (([] : List Pr)) ∧ va_P G.1 vwCl (cR G b (([] : List Pr)).length lf' rt' lo ro fo no lm rm pa mt q cf fa kp) h) := by
  refine Mt.mk cX4_clear 2 (some .int) (by decide) rfl (Nat.le_of_ble_eq_true rfl) ?_
  intro p9 e s m below meth c ls hx hb hr hml hts hown hlocks hP hK hl
  have hinX4 : ∀ w ∈ wsX40, w ∈ wsX4_clear := by decide +kernel
  have hS : va_S (fun q => q ∈ aR b) s.heap s.heap [] := va_S.rf
  have hl : lv_has ls 2 [(0, .ref (b 0))] := hl
  have hown : s.vm.findClass RX4 = some m.cls := hown
  have hDD : ∀ ws : va_W, ws.map Prod.fst = aR b → va_D (fun q => q ∈ aR b) ws := D_of hnd (fun q h => h)
  refine lv_aload_n hx hb dX4_clear_0 rfl (lv_at hl 0 rfl) ?_
  refine va_get (D := G.1) (ci := 4) (v := .int (nI L.length)) (C := RX4) (T := TX4) (N := 15) hx hb hts hinX4 hown hK.1 hP 0 rfl rfl 0 (by decide) (hts (.fieldLink RX4 47 "PairThreadsModel" "many" "I") (by decide +kernel)) (fun _ h9 => h9) rfl dX4_clear_1 ?_
  refine lv_istore_n (lv' := [(1, .int (nI L.length)), (0, .ref (b 0))]) hx hb dX4_clear_4 rfl hl (by decide) rfl (fun ls hl => ?_)
  refine lv_aload_n hx hb dX4_clear_5 rfl (lv_at hl 1 rfl) ?_
  refine lv_iconst (v := nI 0) hx hb dX4_clear_6 rfl ?_
  refine va_put (D := G.1) (ci := 4) (v := .int (nI 0)) (ty := .int) (C := RX4) (T := TX4) (N := 15) hx hb hts hinX4 tyX4 tyX4_ok nmX4 hown hK.1 hP (hDD _ rfl) hS 0 rfl rfl 0 (by decide) (hts (.fieldLink RX4 47 "PairThreadsModel" "many" "I") (by decide +kernel)) (fun _ h9 => h9) rfl (by decide +kernel) rfl rfl (Nat.le_of_ble_eq_true rfl) dX4_clear_7 (fun H locs hP _ hS => ?_)
  have hP : va_P G.1 vwCl (cR G b 0 lf rt lo ro fo no lm rm pa mt q cf fa kp) H := hP
  refine lv_iload_n hx hb dX4_clear_10 rfl (lv_at hl 0 rfl) ?_
  exact z_iret hx hb hr hlocks ⟨rfl, lf, rt, ⟨Nat.zero_le _, fun i hi => absurd hi (Nat.not_lt_zero i)⟩, hP⟩ hS dX4_clear_11

set_option maxHeartbeats 4000000 in
set_option maxRecDepth 100000 in
/-- the model: check -/
theorem c_Rcheck (l : Launch) (G : Gd) (b : Nat → Nat) (lf : Nat → Int32) (rt : Nat → Int32) (lo : Nat → Nat) (ro : Nat → Nat) (fo : Nat → Option Nat) (no : Nat → Option Nat) (lm : Nat) (rm : Nat) (pa : Nat → Option Nat) (mt : Nat → Int32) (q : Nat → Nat) (cf : Nat → Option Nat) (fa : Nat → Nat) (kp : Nat → Int32) (L : List Pr) (hMI : MI lf rt L) : Mt l yX4_check wsX4_check 0 0 [.ref (b 0)] G (cR G b L.length lf rt lo ro fo no lm rm pa mt q cf fa kp) (fun _ => False) (fun r _ => r = some (.int (nI 1))) := by
  refine Mt.mk cX4_check 1 (some .int) (by decide) rfl (Nat.le_of_ble_eq_true rfl) ?_
  intro p9 e s m below meth c ls hx hb hr hml hts hown hlocks hP hK hl
  have hS : va_S (fun _ => False) s.heap s.heap [] := va_S.rf
  have hl : lv_has ls 1 [(0, .ref (b 0))] := hl
  have hown : s.vm.findClass RX4 = some m.cls := hown
  refine lv_iconst (v := nI 1) hx hb dX4_check_0 rfl ?_
  exact z_iret hx hb hr hlocks rfl hS dX4_check_1

set_option maxHeartbeats 4000000 in
set_option maxRecDepth 100000 in
/-- the model: other -/
theorem c_Rother (l : Launch) (G : Gd) (b : Nat → Nat) (lf : Nat → Int32) (rt : Nat → Int32) (lo : Nat → Nat) (ro : Nat → Nat) (fo : Nat → Option Nat) (no : Nat → Option Nat) (lm : Nat) (rm : Nat) (pa : Nat → Option Nat) (mt : Nat → Int32) (q : Nat → Nat) (cf : Nat → Option Nat) (fa : Nat → Nat) (kp : Nat → Int32) (L : List Pr) (hMI : MI lf rt L) (sx v x : Int32) : Mt l yX4_other wsX4_other 1 22 [.ref (b 0), .int (sx), .int (v), .int (x)] G (cR G b L.length lf rt lo ro fo no lm rm pa mt q cf fa kp) (fun _ => False) (fun r _ => ∃ z : Int32, r = some (.int z) ∧ otherR L sx v x z) := by
  refine Mt.mk cX4_other 6 (some .int) (by decide) rfl (Nat.le_of_ble_eq_true rfl) ?_
  intro p9 e s m below meth c ls hx hb hr hml hts hown hlocks hP hK hl
  have hinX4 : ∀ w ∈ wsX40, w ∈ wsX4_other := by decide +kernel
  have hS : va_S (fun _ => False) s.heap s.heap [] := va_S.rf
  have hl : lv_has ls 6 [(0, .ref (b 0)), (1, .int (sx)), (2, .int (v)), (3, .int (x))] := hl
  have hown : s.vm.findClass RX4 = some m.cls := hown
  have hn := hMI.1
  by_cases hneg : x < 0
  · refine lv_iload_n hx hb dX4_other_0 rfl (lv_at hl 3 rfl) ?_
    refine lv_istore (lv' := [(4, .int (x)), (0, .ref (b 0)), (1, .int (sx)), (2, .int (v)), (3, .int (x))]) hx hb dX4_other_1 hl (by decide) rfl (fun ls hl => ?_)
    refine lv_iconst (v := nI 0) hx hb dX4_other_3 rfl ?_
    refine lv_istore (lv' := [(5, .int (nI 0)), (4, .int (x)), (0, .ref (b 0)), (1, .int (sx)), (2, .int (v)), (3, .int (x))]) hx hb dX4_other_4 hl (by decide) rfl (fun ls hl => ?_)
    refine lv_iload hx hb dX4_other_6 (lv_at hl 0 rfl) ?_
    refine lv_aload_n hx hb dX4_other_8 rfl (lv_at hl 2 rfl) ?_
    refine va_get (D := G.1) (ci := 4) (v := .int (nI L.length)) (C := RX4) (T := TX4) (N := 15) hx hb hts hinX4 hown hK.1 hP 0 rfl rfl 0 (by decide) (hts (.fieldLink RX4 47 "PairThreadsModel" "many" "I") (by decide +kernel)) (fun _ h9 => h9) rfl dX4_other_9 ?_
    refine z_icmp_ge (tgt := 61) hx hb (by omega) (by omega) dX4_other_12 (by decide) (fun hc1 => ?_) (fun hc1 => ?_)
    · refine lv_iconst (v := nI 0) hx hb dX4_other_61 rfl ?_
      exact z_iret hx hb hr hlocks ⟨nI 0, rfl, (by unfold otherR; cases hsd2 : sideOf sx with | none => rfl | some d => exact ⟨none, Or.inl ⟨rfl, fun j hj _ hq => by have h1 := cnt_le (key d L) v j; rw [hq] at hneg; exact absurd hneg (nI_pos (by omega))⟩, rfl⟩)⟩ hS dX4_other_62
    · refine lv_iload_n hx hb dX4_other_15 rfl (lv_at hl 3 rfl) ?_
      refine z_callS (rest := []) 1 ⟨hx, hb, hml, hown, hts⟩ hK (c_isSide4 l G sx) gX4_other_X4_isSide rfl (by decide +kernel) ⟨Nat.le_of_ble_eq_true rfl, Nat.le_of_ble_eq_true rfl⟩ P_nil rfl hl.1 rfl (Nat.le_of_ble_eq_true rfl) dX4_other_16 ⟨Nat.le_refl _, Nat.le_refl _⟩ hS (fun _ h => h.elim) (fun v9 H9 locs hR9 hk9 hS => ?_)
      obtain ⟨z, rfl, hz⟩ := hR9
      have hP := P_keep0 hP hk9
      clear hk9
      generalize H9 = H at hP hS ⊢
      refine W.eq (g2 := F0 m 19 ls [.int (nI z)]) rfl ?_
      rcases hz with ⟨rfl, hsd⟩ | ⟨rfl, d, hsd⟩
      · refine z_if_eq (tgt := 61) hx hb (by omega) dX4_other_19 (by decide) (fun hc2 => ?_) (fun hc2 => ?_)
        · refine lv_iconst (v := nI 0) hx hb dX4_other_61 rfl ?_
          exact z_iret hx hb hr hlocks ⟨nI 0, rfl, by unfold otherR; rw [hsd]⟩ hS dX4_other_62
        · exact absurd hc2 (by decide)
      · refine z_if_eq (tgt := 61) hx hb (by omega) dX4_other_19 (by decide) (fun hc3 => ?_) (fun hc3 => ?_)
        · exact absurd hc3 (by decide)
        · obtain ⟨hd, hsx⟩ := sideOf_some hsd
          subst hsx
          refine lv_iload_n hx hb dX4_other_22 rfl (lv_at hl 5 rfl) ?_
          refine lv_if_lt (tgt := 61) hx hb dX4_other_23 (by decide) (fun hc4 => ?_) (fun hc4 => ?_)
          · refine lv_iconst (v := nI 0) hx hb dX4_other_61 rfl ?_
            exact z_iret hx hb hr hlocks ⟨nI 0, rfl, by unfold otherR; rw [hsd]; exact ⟨none, Or.inl ⟨rfl, fun j hj _ hq => by have h1 := cnt_le (key d L) v j; rw [hq] at hneg; exact absurd hneg (nI_pos (by omega))⟩, rfl⟩⟩ hS dX4_other_62
          · exact absurd hneg hc4
  · obtain ⟨x0, hx0, hxe⟩ := nI_of hneg
    subst hxe
    clear hneg
    refine lv_iload_n hx hb dX4_other_0 rfl (lv_at hl 3 rfl) ?_
    refine lv_istore (lv' := [(4, .int (nI x0)), (0, .ref (b 0)), (1, .int (sx)), (2, .int (v)), (3, .int (nI x0))]) hx hb dX4_other_1 hl (by decide) rfl (fun ls hl => ?_)
    refine lv_iconst (v := nI 0) hx hb dX4_other_3 rfl ?_
    refine lv_istore (lv' := [(5, .int (nI 0)), (4, .int (nI x0)), (0, .ref (b 0)), (1, .int (sx)), (2, .int (v)), (3, .int (nI x0))]) hx hb dX4_other_4 hl (by decide) rfl (fun ls hl => ?_)
    have loop : ∀ (k9 : Nat) (k : Nat) (f : Nat) (H : Heap) (locs : List Loc) (ls : Array Slot), (L.length < k + k9) → (k ≤ L.length) → (∀ d, sideOf sx = some d → x0 = f + cnt (key d L) v k) → (f ≤ x0) → va_P G.1 vwCl (cR G b L.length lf rt lo ro fo no lm rm pa mt q cf fa kp) H → va_S (fun _ => False) s.heap H locs → lv_has ls 6 [(5, .int (nI k)), (4, .int (nI f)), (0, .ref (b 0)), (1, .int (sx)), (2, .int (v)), (3, .int (nI x0))] → Wz p9 l e 1 22 s m [.ref (b 0), .int (sx), .int (v), .int (nI x0)] below meth c (fun _ => False) (fun r _ => ∃ z : Int32, r = some (.int z) ∧ otherR L sx v (nI x0) z) H locs (F0 m 6 ls []) := by
      intro k9
      induction k9 with
      | zero =>
        intro k f H locs ls hfuel hk hf hf2 hP hS hl
        exact absurd hfuel (by omega)
      | succ k9 ih =>
        intro k f H locs ls hfuel hk hf hf2 hP hS hl
        refine lv_iload hx hb dX4_other_6 (lv_at hl 0 rfl) ?_
        refine lv_aload_n hx hb dX4_other_8 rfl (lv_at hl 2 rfl) ?_
        refine va_get (D := G.1) (ci := 4) (v := .int (nI L.length)) (C := RX4) (T := TX4) (N := 15) hx hb hts hinX4 hown hK.1 hP 0 rfl rfl 0 (by decide) (hts (.fieldLink RX4 47 "PairThreadsModel" "many" "I") (by decide +kernel)) (fun _ h9 => h9) rfl dX4_other_9 ?_
        refine z_icmp_ge (tgt := 61) hx hb (by omega) (by omega) dX4_other_12 (by decide) (fun hc5 => ?_) (fun hc5 => ?_)
        · refine lv_iconst (v := nI 0) hx hb dX4_other_61 rfl ?_
          have he : k = L.length := by omega
          subst he
          exact z_iret hx hb hr hlocks ⟨nI 0, rfl, by unfold otherR; cases hsd2 : sideOf sx with | none => rfl | some d => exact ⟨none, Or.inl ⟨rfl, fun j hj hv hq => by have h1 := cnt_lt (K := key d L) hj hv; have h2 := hf d hsd2; have h3 := cnt_le (key d L) v j; rw [nI_eq hx0 (by omega)] at hq; omega⟩, rfl⟩⟩ hS dX4_other_62
        · refine lv_iload_n hx hb dX4_other_15 rfl (lv_at hl 3 rfl) ?_
          refine z_callS (rest := []) 1 ⟨hx, hb, hml, hown, hts⟩ hK (c_isSide4 l G sx) gX4_other_X4_isSide rfl (by decide +kernel) ⟨Nat.le_of_ble_eq_true rfl, Nat.le_of_ble_eq_true rfl⟩ P_nil rfl hl.1 rfl (Nat.le_of_ble_eq_true rfl) dX4_other_16 ⟨Nat.le_refl _, Nat.le_refl _⟩ hS (fun _ h => h.elim) (fun v9 H9 locs hR9 hk9 hS => ?_)
          obtain ⟨z, rfl, hz⟩ := hR9
          have hP := P_keep0 hP hk9
          clear hk9
          generalize H9 = H at hP hS ⊢
          refine W.eq (g2 := F0 m 19 ls [.int (nI z)]) rfl ?_
          rcases hz with ⟨rfl, hsd⟩ | ⟨rfl, d, hsd⟩
          · refine z_if_eq (tgt := 61) hx hb (by omega) dX4_other_19 (by decide) (fun hc6 => ?_) (fun hc6 => ?_)
            · refine lv_iconst (v := nI 0) hx hb dX4_other_61 rfl ?_
              exact z_iret hx hb hr hlocks ⟨nI 0, rfl, by unfold otherR; rw [hsd]⟩ hS dX4_other_62
            · exact absurd hc6 (by decide)
          · refine z_if_eq (tgt := 61) hx hb (by omega) dX4_other_19 (by decide) (fun hc7 => ?_) (fun hc7 => ?_)
            · exact absurd hc7 (by decide)
            · obtain ⟨hd, hsx⟩ := sideOf_some hsd
              subst hsx
              have hfd := hf d hsd
              refine lv_iload_n hx hb dX4_other_22 rfl (lv_at hl 5 rfl) ?_
              refine lv_if_lt (tgt := 61) hx hb dX4_other_23 (by decide) (fun hc8 => ?_) (fun hc8 => ?_)
              · exact absurd hc8 (nI_pos hx0)
              · refine lv_aload_n hx hb dX4_other_26 rfl (lv_at hl 2 rfl) ?_
                refine lv_iload_n hx hb dX4_other_27 rfl (lv_at hl 3 rfl) ?_
                refine lv_iload hx hb dX4_other_28 (lv_at hl 0 rfl) ?_
                refine z_callV (rest := []) 2 ⟨hx, hb, hml, hown, hts⟩ hK (c_own l G b L.length lf rt lo ro fo no lm rm pa mt q cf fa kp d k (by omega) (by omega)) gX4_other_X4_own rfl (by decide +kernel) ⟨Nat.le_of_ble_eq_true rfl, Nat.le_of_ble_eq_true rfl⟩ hP 0 rfl rfl rfl rfl hl.1 rfl (Nat.le_of_ble_eq_true rfl) dX4_other_30 ⟨Nat.le_refl _, Nat.le_refl _⟩ hS (fun _ h => h.elim) (fun v9 H9 locs hR9 hk9 hS => ?_)
                obtain rfl := hR9
                have hP := P_keep0 hP hk9
                clear hk9
                generalize H9 = H at hP hS ⊢
                refine W.eq (g2 := F0 m 33 ls [.int (ow d lf rt k)]) rfl ?_
                refine z_top (y := key d L k) (ow_key hMI hd (by omega)) ?_
                refine lv_iload_n hx hb dX4_other_33 rfl (lv_at hl 4 rfl) ?_
                refine lv_icmp_ne (tgt := 55) hx hb dX4_other_34 (by decide) (fun hc9 => ?_) (fun hc9 => ?_)
                · refine z_iinc (lv' := [(5, .int (nI (k + 1))), (4, .int (nI f)), (0, .ref (b 0)), (1, .int (nI d)), (2, .int (v)), (3, .int (nI x0))]) hx hb dX4_other_55 hl (k := 0) rfl (by decide) rfl (fun ls hl => ?_)
                  refine lv_goto (tgt := 6) hx hb dX4_other_58 (by decide) ?_
                  exact ih (k + 1) f H locs ls (by omega) (by omega) (fun e he => by rw [hsd] at he; cases he; rw [cnt_miss hc9]; exact hfd) hf2 hP hS (lv_sub hl [0, 1, 2, 3, 4, 5] rfl)
                · refine lv_iload hx hb dX4_other_37 (lv_at hl 1 rfl) ?_
                  refine z_if_ne (tgt := 52) hx hb (by omega) dX4_other_39 (by decide) (fun hc10 => ?_) (fun hc10 => ?_)
                  · obtain ⟨f1, rfl⟩ : ∃ z, f = z + 1 := ⟨f - 1, by omega⟩
                    refine z_iincm (lv' := [(4, .int (lk (pr (f1 + 1)))), (5, .int (nI k)), (0, .ref (b 0)), (1, .int (nI d)), (2, .int (v)), (3, .int (nI x0))]) hx hb dX4_other_52 hl (k := 1) rfl (by decide) rfl (fun ls hl => ?_)
                    have hl : lv_has ls 6 [(4, .int (nI f1)), (5, .int (nI k)), (0, .ref (b 0)), (1, .int (nI d)), (2, .int (v)), (3, .int (nI x0))] := hl
                    refine z_iinc (lv' := [(5, .int (nI (k + 1))), (4, .int (nI f1)), (0, .ref (b 0)), (1, .int (nI d)), (2, .int (v)), (3, .int (nI x0))]) hx hb dX4_other_55 hl (k := 1) rfl (by decide) rfl (fun ls hl => ?_)
                    refine lv_goto (tgt := 6) hx hb dX4_other_58 (by decide) ?_
                    exact ih (k + 1) f1 H locs ls (by omega) (by omega) (fun e he => by rw [hsd] at he; cases he; rw [cnt_hit hc9]; omega) (by omega) hP hS (lv_sub hl [0, 1, 2, 3, 4, 5] rfl)
                  · refine lv_aload_n hx hb dX4_other_42 rfl (lv_at hl 2 rfl) ?_
                    refine lv_iconst (v := nI 1) hx hb dX4_other_43 rfl ?_
                    refine lv_iload_n hx hb dX4_other_44 rfl (lv_at hl 3 rfl) ?_
                    refine lv_isub hx hb dX4_other_45 ?_
                    refine z_top (y := nI (1 - d)) (pk_sub (by omega)) ?_
                    refine lv_iload hx hb dX4_other_46 (lv_at hl 0 rfl) ?_
                    refine z_callV (rest := []) 2 ⟨hx, hb, hml, hown, hts⟩ hK (c_own l G b L.length lf rt lo ro fo no lm rm pa mt q cf fa kp (1 - d) k (by omega) (by omega)) gX4_other_X4_own rfl (by decide +kernel) ⟨Nat.le_of_ble_eq_true rfl, Nat.le_of_ble_eq_true rfl⟩ hP 0 rfl rfl rfl rfl hl.1 rfl (Nat.le_of_ble_eq_true rfl) dX4_other_48 ⟨Nat.le_refl _, Nat.le_refl _⟩ hS (fun _ h => h.elim) (fun v9 H9 locs hR9 hk9 hS => ?_)
                    obtain rfl := hR9
                    have hP := P_keep0 hP hk9
                    clear hk9
                    generalize H9 = H at hP hS ⊢
                    refine W.eq (g2 := F0 m 51 ls [.int (ow (1 - d) lf rt k)]) rfl ?_
                    exact z_iret hx hb hr hlocks ⟨_, rfl, by unfold otherR; rw [hsd]; exact ⟨some k, Or.inr ⟨k, rfl, by omega, hc9, by rw [hfd, hc10, Nat.zero_add]⟩, ow_key hMI (by omega) (by omega)⟩⟩ hS dX4_other_51
    exact loop (L.length + 1) 0 x0 _ _ ls (by omega) (by omega) (fun d _ => rfl) (Nat.le_refl _) hP hS (lv_sub hl [0, 1, 2, 3, 4, 5] rfl)

set_option maxHeartbeats 4000000 in
set_option maxRecDepth 100000 in
/-- the model: rename -/
theorem c_Rrename (l : Launch) (G : Gd) (b : Nat → Nat) (lf : Nat → Int32) (rt : Nat → Int32) (lo : Nat → Nat) (ro : Nat → Nat) (fo : Nat → Option Nat) (no : Nat → Option Nat) (lm : Nat) (rm : Nat) (pa : Nat → Option Nat) (mt : Nat → Int32) (q : Nat → Nat) (cf : Nat → Option Nat) (fa : Nat → Nat) (kp : Nat → Int32) (L : List Pr) (hMI : MI lf rt L) (sx v to : Int32) (hnd : (aR b).Nodup) : Mt l yX4_rename wsX4_rename 2 46 [.ref (b 0), .int (sx), .int (v), .int (to)] G (cR G b L.length lf rt lo ro fo no lm rm pa mt q cf fa kp) (fun q => q ∈ aR b) (fun r h => r = some (.int (renA L sx v to)) ∧ ∃ (lf' rt' kp' : Nat → Int32), MI lf' rt' (renL L sx v to) ∧ va_P G.1 vwCl (cR G b (renL L sx v to).length lf' rt' lo ro fo no lm rm pa mt q cf fa kp') h) := by
  refine Mt.mk cX4_rename 9 (some .int) (by decide) rfl (Nat.le_of_ble_eq_true rfl) ?_
  intro p9 e s m below meth c ls hx hb hr hml hts hown hlocks hP hK hl
  have hinX4 : ∀ w ∈ wsX40, w ∈ wsX4_rename := by decide +kernel
  have hS : va_S (fun q => q ∈ aR b) s.heap s.heap [] := va_S.rf
  have hl : lv_has ls 9 [(0, .ref (b 0)), (1, .int (sx)), (2, .int (v)), (3, .int (to))] := hl
  have hown : s.vm.findClass RX4 = some m.cls := hown
  have hDD : ∀ ws : va_W, ws.map Prod.fst = aR b → va_D (fun q => q ∈ aR b) ws := D_of hnd (fun q h => h)
  have hn := hMI.1
  refine lv_iload_n hx hb dX4_rename_0 rfl (lv_at hl 1 rfl) ?_
  refine z_callS (rest := []) 1 ⟨hx, hb, hml, hown, hts⟩ hK (c_isSide4 l G sx) gX4_rename_X4_isSide rfl (by decide +kernel) ⟨Nat.le_of_ble_eq_true rfl, Nat.le_of_ble_eq_true rfl⟩ P_nil rfl hl.1 rfl (Nat.le_of_ble_eq_true rfl) dX4_rename_1 ⟨Nat.le_refl _, Nat.le_refl _⟩ hS (fun _ h => h.elim) (fun v9 H9 locs hR9 hk9 hS => ?_)
  obtain ⟨z, rfl, hz⟩ := hR9
  have hP := P_keep0 hP hk9
  clear hk9
  generalize H9 = H at hP hS ⊢
  refine W.eq (g2 := F0 m 4 ls [.int (nI z)]) rfl ?_
  rcases hz with ⟨rfl, hsd⟩ | ⟨rfl, d, hsd⟩
  · refine z_if_eq (tgt := 12) hx hb (by omega) dX4_rename_4 (by decide) (fun hc1 => ?_) (fun hc1 => ?_)
    · refine lv_iconst (v := (-1)) hx hb dX4_rename_12 rfl ?_
      exact z_iret hx hb hr hlocks ⟨by unfold renA; rw [hsd], lf, rt, kp, by unfold renL; rw [hsd]; exact ⟨hMI, hP⟩⟩ hS dX4_rename_13
    · exact absurd hc1 (by decide)
  · refine z_if_eq (tgt := 12) hx hb (by omega) dX4_rename_4 (by decide) (fun hc2 => ?_) (fun hc2 => ?_)
    · exact absurd hc2 (by decide)
    · obtain ⟨hd, hsx⟩ := sideOf_some hsd
      subst hsx
      refine lv_iload_n hx hb dX4_rename_7 rfl (lv_at hl 2 rfl) ?_
      refine lv_iload_n hx hb dX4_rename_8 rfl (lv_at hl 3 rfl) ?_
      refine lv_icmp_ne (tgt := 14) hx hb dX4_rename_9 (by decide) (fun hc3 => ?_) (fun hc3 => ?_)
      · have hvt : ¬ v = to := hc3
        have hrA : renA L (nI d) v to = nI (ren d v to (wo d v L) L).2 := by unfold renA; rw [hsd]; exact if_neg hvt
        have hrL : renL L (nI d) v to = wo d v L ++ (ren d v to (wo d v L) L).1 := by unfold renL; rw [hsd]; exact if_neg hvt
        refine lv_iconst (v := nI 0) hx hb dX4_rename_14 rfl ?_
        refine lv_istore (lv' := [(4, .int (nI 0)), (0, .ref (b 0)), (1, .int (nI d)), (2, .int (v)), (3, .int (to))]) hx hb dX4_rename_15 hl (by decide) rfl (fun ls hl => ?_)
        refine lv_iconst (v := nI 0) hx hb dX4_rename_17 rfl ?_
        refine lv_istore (lv' := [(5, .int (nI 0)), (4, .int (nI 0)), (0, .ref (b 0)), (1, .int (nI d)), (2, .int (v)), (3, .int (to))]) hx hb dX4_rename_18 hl (by decide) rfl (fun ls hl => ?_)
        have loop : ∀ (k9 : Nat) (k : Nat) (kp : Nat → Int32) (H : Heap) (locs : List Loc) (ls : Array Slot), (L.length < k + k9) → (k ≤ L.length) → (∀ j, j < (keptL d v (L.take k)).length → kp j = (keptL d v (L.take k)).getD j 0) → va_P G.1 vwCl (cR G b L.length lf rt lo ro fo no lm rm pa mt q cf fa kp) H → va_S (fun q => q ∈ aR b) s.heap H locs → lv_has ls 9 [(5, .int (nI k)), (4, .int (nI ((keptL d v (L.take k)).length))), (0, .ref (b 0)), (1, .int (nI d)), (2, .int (v)), (3, .int (to))] → Wz p9 l e 2 46 s m [.ref (b 0), .int (nI d), .int (v), .int (to)] below meth c (fun q => q ∈ aR b) (fun r h => r = some (.int (renA L (nI d) v to)) ∧ ∃ (lf' rt' kp' : Nat → Int32), MI lf' rt' (renL L (nI d) v to) ∧ va_P G.1 vwCl (cR G b (renL L (nI d) v to).length lf' rt' lo ro fo no lm rm pa mt q cf fa kp') h) H locs (F0 m 20 ls []) := by
          intro k9
          induction k9 with
          | zero =>
            intro k kp H locs ls hfuel hk hkp hP hS hl
            exact absurd hfuel (by omega)
          | succ k9 ih =>
            intro k kp H locs ls hfuel hk hkp hP hS hl
            have hkl : (keptL d v (L.take k)).length ≤ k := by have h1 := kept_len d v (L.take k); rw [List.length_take] at h1; omega
            refine lv_iload hx hb dX4_rename_20 (lv_at hl 0 rfl) ?_
            refine lv_aload_n hx hb dX4_rename_22 rfl (lv_at hl 2 rfl) ?_
            refine va_get (D := G.1) (ci := 4) (v := .int (nI L.length)) (C := RX4) (T := TX4) (N := 15) hx hb hts hinX4 hown hK.1 hP 0 rfl rfl 0 (by decide) (hts (.fieldLink RX4 47 "PairThreadsModel" "many" "I") (by decide +kernel)) (fun _ h9 => h9) rfl dX4_rename_23 ?_
            refine z_icmp_ge (tgt := 65) hx hb (by omega) (by omega) dX4_rename_26 (by decide) (fun hc4 => ?_) (fun hc4 => ?_)
            · have he : k = L.length := by omega
              subst he
              rw [List.take_length] at hkp hkl hl
              refine lv_aload_n hx hb dX4_rename_65 rfl (lv_at hl 2 rfl) ?_
              refine lv_iload_n hx hb dX4_rename_66 rfl (lv_at hl 3 rfl) ?_
              refine lv_iload_n hx hb dX4_rename_67 rfl (lv_at hl 4 rfl) ?_
              refine z_callV (rest := []) 2 ⟨hx, hb, hml, hown, hts⟩ hK (c_Rdrop l G b lf rt lo ro fo no lm rm pa mt q cf fa kp L hMI (nI d) v hnd) gX4_rename_X4_drop rfl (by decide +kernel) ⟨Nat.le_of_ble_eq_true rfl, Nat.le_of_ble_eq_true rfl⟩ hP 0 rfl rfl rfl rfl hl.1 rfl (Nat.le_of_ble_eq_true rfl) dX4_rename_68 ⟨Nat.le_refl _, Nat.le_refl _⟩ hS (fun _ h => h) (fun v9 H9 locs hR9 hk9 hS => ?_)
              obtain ⟨rfl, lf2, rt2, hMI2, hP⟩ := hR9
              clear hk9
              generalize H9 = H at hP hS ⊢
              refine W.eq (g2 := F0 m 71 ls [.int (degA L (nI d) v)]) rfl ?_
              have hdl : dropL L (nI d) v = wo d v L := by unfold dropL; rw [hsd]
              rw [hdl] at hMI2 hP
              have hwk := kept_wo d v L
              refine lv_pop hx hb dX4_rename_71 rfl ?_
              refine lv_iconst (v := nI 0) hx hb dX4_rename_72 rfl ?_
              refine lv_istore (lv' := [(5, .int (nI 0)), (4, .int (nI ((keptL d v (L)).length))), (0, .ref (b 0)), (1, .int (nI d)), (2, .int (v)), (3, .int (to))]) hx hb dX4_rename_73 hl (by decide) rfl (fun ls hl => ?_)
              refine lv_iconst (v := nI 0) hx hb dX4_rename_75 rfl ?_
              refine lv_istore (lv' := [(6, .int (nI 0)), (5, .int (nI 0)), (4, .int (nI ((keptL d v (L)).length))), (0, .ref (b 0)), (1, .int (nI d)), (2, .int (v)), (3, .int (to))]) hx hb dX4_rename_76 hl (by decide) rfl (fun ls hl => ?_)
              have loop2 : ∀ (k9 : Nat) (k : Nat) (M : List Pr) (lf : Nat → Int32) (rt : Nat → Int32) (H : Heap) (locs : List Loc) (ls : Array Slot), ((keptL d v L).length < k + k9) → (k ≤ (keptL d v L).length) → (M = wo d v L ++ (((keptL d v L).take k).foldl (renT d to (wo d v L)) ([], 0)).1) → (MI lf rt M) → va_P G.1 vwCl (cR G b M.length lf rt lo ro fo no lm rm pa mt q cf fa kp) H → va_S (fun q => q ∈ aR b) s.heap H locs → lv_has ls 9 [(6, .int (nI k)), (5, .int (nI ((((keptL d v L).take k).foldl (renT d to (wo d v L)) ([], 0)).2))), (4, .int (nI ((keptL d v L).length))), (0, .ref (b 0)), (1, .int (nI d)), (2, .int (v)), (3, .int (to))] → Wz p9 l e 2 46 s m [.ref (b 0), .int (nI d), .int (v), .int (to)] below meth c (fun q => q ∈ aR b) (fun r h => r = some (.int (renA L (nI d) v to)) ∧ ∃ (lf' rt' kp' : Nat → Int32), MI lf' rt' (renL L (nI d) v to) ∧ va_P G.1 vwCl (cR G b (renL L (nI d) v to).length lf' rt' lo ro fo no lm rm pa mt q cf fa kp') h) H locs (F0 m 78 ls []) := by
                intro k9
                induction k9 with
                | zero =>
                  intro k M lf rt H locs ls hfuel hk hM hMI hP hS hl
                  exact absurd hfuel (by omega)
                | succ k9 ih =>
                  intro k M lf rt H locs ls hfuel hk hM hMI hP hS hl
                  have hrl := renT_len d to (wo d v L) (keptL d v L) k hk
                  refine lv_iload hx hb dX4_rename_78 (lv_at hl 0 rfl) ?_
                  refine lv_iload hx hb dX4_rename_80 (lv_at hl 2 rfl) ?_
                  refine z_icmp_ge (tgt := 148) hx hb (by omega) (by omega) dX4_rename_82 (by decide) (fun hc5 => ?_) (fun hc5 => ?_)
                  · have he : k = (keptL d v L).length := by omega
                    subst he
                    refine lv_iload hx hb dX4_rename_148 (lv_at hl 1 rfl) ?_
                    rw [List.take_length, ← ren_kept] at hM
                    exact z_iret hx hb hr hlocks ⟨by rw [List.take_length, ← ren_kept, hrA], lf, rt, kp, by rw [hrL, ← hM]; exact ⟨hMI, hP⟩⟩ hS dX4_rename_150
                  · have htk := take_succ_i (keptL d v L) (show k < (keptL d v L).length by omega)
                    have hkk := hkp k (by omega)
                    obtain ⟨st, hst⟩ : ∃ z, z = ((keptL d v L).take k).foldl (renT d to (wo d v L)) ([], 0) := ⟨_, rfl⟩
                    rw [← hst] at hM hrl
                    have hl : lv_has ls 9 [(6, .int (nI k)), (5, .int (nI st.2)), (4, .int (nI ((keptL d v L).length))), (0, .ref (b 0)), (1, .int (nI d)), (2, .int (v)), (3, .int (to))] := by rw [hst]; exact hl
                    have hS1 : ((keptL d v L).take (k + 1)).foldl (renT d to (wo d v L)) ([], 0) = renT d to (wo d v L) st ((keptL d v L).getD k 0) := by rw [htk, List.foldl_append, ← hst]; rfl
                    refine lv_iload_n hx hb dX4_rename_85 rfl (lv_at hl 4 rfl) ?_
                    refine z_if_ne (tgt := 93) hx hb (by omega) dX4_rename_86 (by decide) (fun hc6 => ?_) (fun hc6 => ?_)
                    · refine lv_aload_n hx hb dX4_rename_93 rfl (lv_at hl 3 rfl) ?_
                      refine va_get (D := G.1) (ci := 4) (v := .ref (b 12)) (C := RX4) (T := TX4) (N := 15) hx hb hts hinX4 hown hK.1 hP 0 rfl rfl 14 (by decide) (hts (.fieldLink RX4 44 "PairThreadsModel" "kept" "[I") (by decide +kernel)) (fun _ h9 => h9) rfl dX4_rename_94 ?_
                      refine lv_iload hx hb dX4_rename_97 (lv_at hl 0 rfl) ?_
                      refine z_iald hx hb hK hP 12 rfl (j := k) (by omega) (by decide) dX4_rename_99 ?_
                      refine lv_istore (lv' := [(7, .int (kp k)), (6, .int (nI k)), (5, .int (nI st.2)), (4, .int (nI ((keptL d v L).length))), (0, .ref (b 0)), (1, .int (nI d)), (2, .int (v)), (3, .int (to))]) hx hb dX4_rename_100 hl (by decide) rfl (fun ls hl => ?_)
                      refine lv_iload_n hx hb dX4_rename_102 rfl (lv_at hl 5 rfl) ?_
                      refine z_if_ne (tgt := 116) hx hb (by omega) dX4_rename_103 (by decide) (fun hc7 => ?_) (fun hc7 => ?_)
                      · refine lv_iload_n hx hb dX4_rename_116 rfl (lv_at hl 7 rfl) ?_
                        refine lv_istore (lv' := [(8, .int (to)), (7, .int (kp k)), (6, .int (nI k)), (5, .int (nI st.2)), (4, .int (nI ((keptL d v L).length))), (0, .ref (b 0)), (1, .int (nI d)), (2, .int (v)), (3, .int (to))]) hx hb dX4_rename_117 hl (by decide) rfl (fun ls hl => ?_)
                        have hxy : (kp k, to) = mkp d to ((keptL d v L).getD k 0) := by unfold mkp; rw [if_neg hc6, hkk]
                        refine lv_aload_n hx hb dX4_rename_119 rfl (lv_at hl 5 rfl) ?_
                        refine lv_iload hx hb dX4_rename_120 (lv_at hl 1 rfl) ?_
                        refine lv_iload hx hb dX4_rename_122 (lv_at hl 0 rfl) ?_
                        refine z_callV (rest := []) 2 ⟨hx, hb, hml, hown, hts⟩ hK (c_find l G b lf rt lo ro fo no lm rm pa mt q cf fa kp M hMI (kp k) to) gX4_rename_X4_find rfl (by decide +kernel) ⟨Nat.le_of_ble_eq_true rfl, Nat.le_of_ble_eq_true rfl⟩ hP 0 rfl rfl rfl rfl hl.1 rfl (Nat.le_of_ble_eq_true rfl) dX4_rename_124 ⟨Nat.le_refl _, Nat.le_refl _⟩ hS (fun _ h => h.elim) (fun v9 H9 locs hR9 hk9 hS => ?_)
                        obtain ⟨o, rfl, ho⟩ := hR9
                        have hP := P_keep0 hP hk9
                        clear hk9
                        generalize H9 = H at hP hS ⊢
                        refine W.eq (g2 := F0 m 127 ls [.int (lk o)]) rfl ?_
                        refine lv_iconst (v := (-1)) hx hb dX4_rename_127 rfl ?_
                        refine z_none_ne (tgt := 142) hx hb (fun k hk => by have := posR_lt ho k hk; have := hMI.1; omega) dX4_rename_128 (by decide) (fun k2 hc8 => ?_) (fun hc8 => ?_)
                        · have hin : mkp d to ((keptL d v L).getD k 0) ∈ wo d v L ++ st.1 := by rw [← hxy, ← hM]; exact Decidable.byContradiction (fun z => by rw [(posR_none ho).mpr z] at hc8; cases hc8)
                          have hS2 := hS1.trans (if_pos hin)
                          refine z_iinc (lv' := [(6, .int (nI (k + 1))), (8, .int (to)), (7, .int (kp k)), (5, .int (nI st.2)), (4, .int (nI ((keptL d v L).length))), (0, .ref (b 0)), (1, .int (nI d)), (2, .int (v)), (3, .int (to))]) hx hb dX4_rename_142 hl (k := 2) rfl (by decide) rfl (fun ls hl => ?_)
                          refine lv_goto (tgt := 78) hx hb dX4_rename_145 (by decide) ?_
                          have hl : lv_has ls 9 [(6, .int (nI (k + 1))), (8, .int (to)), (7, .int (kp k)), (5, .int (nI ((((keptL d v L).take (k + 1)).foldl (renT d to (wo d v L)) ([], 0)).2))), (4, .int (nI ((keptL d v L).length))), (0, .ref (b 0)), (1, .int (nI d)), (2, .int (v)), (3, .int (to))] := by rw [hS2]; exact hl
                          exact ih (k + 1) M lf rt H locs ls (by omega) (by omega) (by rw [hS2]; exact hM) hMI hP hS (lv_sub hl [0, 3, 4, 5, 6, 7, 8] rfl)
                        · have hout : ¬ mkp d to ((keptL d v L).getD k 0) ∈ wo d v L ++ st.1 := by rw [← hxy, ← hM]; exact (posR_none ho).mp hc8
                          have hS2 := hS1.trans (if_neg hout)
                          have hMl : M.length < 300 := by rw [hM, List.length_append]; omega
                          refine lv_aload_n hx hb dX4_rename_131 rfl (lv_at hl 5 rfl) ?_
                          refine lv_iload hx hb dX4_rename_132 (lv_at hl 1 rfl) ?_
                          refine lv_iload hx hb dX4_rename_134 (lv_at hl 0 rfl) ?_
                          refine z_callV (rest := []) 2 ⟨hx, hb, hml, hown, hts⟩ hK (c_add l G b lf rt lo ro fo no lm rm pa mt q cf fa kp M hMI (kp k) to hMl hnd) gX4_rename_X4_add rfl (by decide +kernel) ⟨Nat.le_of_ble_eq_true rfl, Nat.le_of_ble_eq_true rfl⟩ hP 0 rfl rfl rfl rfl hl.1 rfl (Nat.le_of_ble_eq_true rfl) dX4_rename_136 ⟨Nat.le_refl _, Nat.le_refl _⟩ hS (fun _ h => h) (fun v9 H9 locs hR9 hk9 hS => ?_)
                          obtain ⟨rfl, lf3, rt3, hMI3, hP⟩ := hR9
                          clear hk9
                          generalize H9 = H at hP hS ⊢
                          refine W.eq (g2 := F0 m 139 ls []) rfl ?_
                          obtain ⟨M3, eM3⟩ : ∃ z, z = M ++ [(kp k, to)] := ⟨_, rfl⟩
                          rw [← eM3] at hMI3 hP
                          refine z_iinc (lv' := [(5, .int (nI (st.2 + 1))), (8, .int (to)), (7, .int (kp k)), (6, .int (nI k)), (4, .int (nI ((keptL d v L).length))), (0, .ref (b 0)), (1, .int (nI d)), (2, .int (v)), (3, .int (to))]) hx hb dX4_rename_139 hl (k := 3) rfl (by decide) rfl (fun ls hl => ?_)
                          refine z_iinc (lv' := [(6, .int (nI (k + 1))), (5, .int (nI (st.2 + 1))), (8, .int (to)), (7, .int (kp k)), (4, .int (nI ((keptL d v L).length))), (0, .ref (b 0)), (1, .int (nI d)), (2, .int (v)), (3, .int (to))]) hx hb dX4_rename_142 hl (k := 3) rfl (by decide) rfl (fun ls hl => ?_)
                          refine lv_goto (tgt := 78) hx hb dX4_rename_145 (by decide) ?_
                          have hl : lv_has ls 9 [(6, .int (nI (k + 1))), (5, .int (nI ((((keptL d v L).take (k + 1)).foldl (renT d to (wo d v L)) ([], 0)).2))), (8, .int (to)), (7, .int (kp k)), (4, .int (nI ((keptL d v L).length))), (0, .ref (b 0)), (1, .int (nI d)), (2, .int (v)), (3, .int (to))] := by rw [hS2]; exact hl
                          exact ih (k + 1) M3 lf3 rt3 H locs ls (by omega) (by omega) (by rw [hS2, eM3, hM, hxy, List.append_assoc]) hMI3 hP hS (lv_sub hl [0, 1, 4, 5, 6, 7, 8] rfl)
                      · exact absurd hc7 hc6
                    · refine lv_iload_n hx hb dX4_rename_89 rfl (lv_at hl 6 rfl) ?_
                      refine lv_goto (tgt := 100) hx hb dX4_rename_90 (by decide) ?_
                      refine lv_istore (lv' := [(7, .int (to)), (6, .int (nI k)), (5, .int (nI st.2)), (4, .int (nI ((keptL d v L).length))), (0, .ref (b 0)), (1, .int (nI d)), (2, .int (v)), (3, .int (to))]) hx hb dX4_rename_100 hl (by decide) rfl (fun ls hl => ?_)
                      refine lv_iload_n hx hb dX4_rename_102 rfl (lv_at hl 5 rfl) ?_
                      refine z_if_ne (tgt := 116) hx hb (by omega) dX4_rename_103 (by decide) (fun hc9 => ?_) (fun hc9 => ?_)
                      · exact absurd hc6 hc9
                      · refine lv_aload_n hx hb dX4_rename_106 rfl (lv_at hl 4 rfl) ?_
                        refine va_get (D := G.1) (ci := 4) (v := .ref (b 12)) (C := RX4) (T := TX4) (N := 15) hx hb hts hinX4 hown hK.1 hP 0 rfl rfl 14 (by decide) (hts (.fieldLink RX4 44 "PairThreadsModel" "kept" "[I") (by decide +kernel)) (fun _ h9 => h9) rfl dX4_rename_107 ?_
                        refine lv_iload hx hb dX4_rename_110 (lv_at hl 1 rfl) ?_
                        refine z_iald hx hb hK hP 12 rfl (j := k) (by omega) (by decide) dX4_rename_112 ?_
                        refine lv_goto (tgt := 117) hx hb dX4_rename_113 (by decide) ?_
                        refine lv_istore (lv' := [(8, .int (kp k)), (7, .int (to)), (6, .int (nI k)), (5, .int (nI st.2)), (4, .int (nI ((keptL d v L).length))), (0, .ref (b 0)), (1, .int (nI d)), (2, .int (v)), (3, .int (to))]) hx hb dX4_rename_117 hl (by decide) rfl (fun ls hl => ?_)
                        have hxy : (to, kp k) = mkp d to ((keptL d v L).getD k 0) := by unfold mkp; rw [if_pos hc6, hkk]
                        refine lv_aload_n hx hb dX4_rename_119 rfl (lv_at hl 5 rfl) ?_
                        refine lv_iload hx hb dX4_rename_120 (lv_at hl 1 rfl) ?_
                        refine lv_iload hx hb dX4_rename_122 (lv_at hl 0 rfl) ?_
                        refine z_callV (rest := []) 2 ⟨hx, hb, hml, hown, hts⟩ hK (c_find l G b lf rt lo ro fo no lm rm pa mt q cf fa kp M hMI to (kp k)) gX4_rename_X4_find rfl (by decide +kernel) ⟨Nat.le_of_ble_eq_true rfl, Nat.le_of_ble_eq_true rfl⟩ hP 0 rfl rfl rfl rfl hl.1 rfl (Nat.le_of_ble_eq_true rfl) dX4_rename_124 ⟨Nat.le_refl _, Nat.le_refl _⟩ hS (fun _ h => h.elim) (fun v9 H9 locs hR9 hk9 hS => ?_)
                        obtain ⟨o, rfl, ho⟩ := hR9
                        have hP := P_keep0 hP hk9
                        clear hk9
                        generalize H9 = H at hP hS ⊢
                        refine W.eq (g2 := F0 m 127 ls [.int (lk o)]) rfl ?_
                        refine lv_iconst (v := (-1)) hx hb dX4_rename_127 rfl ?_
                        refine z_none_ne (tgt := 142) hx hb (fun k hk => by have := posR_lt ho k hk; have := hMI.1; omega) dX4_rename_128 (by decide) (fun k2 hc10 => ?_) (fun hc10 => ?_)
                        · have hin : mkp d to ((keptL d v L).getD k 0) ∈ wo d v L ++ st.1 := by rw [← hxy, ← hM]; exact Decidable.byContradiction (fun z => by rw [(posR_none ho).mpr z] at hc10; cases hc10)
                          have hS2 := hS1.trans (if_pos hin)
                          refine z_iinc (lv' := [(6, .int (nI (k + 1))), (8, .int (kp k)), (7, .int (to)), (5, .int (nI st.2)), (4, .int (nI ((keptL d v L).length))), (0, .ref (b 0)), (1, .int (nI d)), (2, .int (v)), (3, .int (to))]) hx hb dX4_rename_142 hl (k := 2) rfl (by decide) rfl (fun ls hl => ?_)
                          refine lv_goto (tgt := 78) hx hb dX4_rename_145 (by decide) ?_
                          have hl : lv_has ls 9 [(6, .int (nI (k + 1))), (8, .int (kp k)), (7, .int (to)), (5, .int (nI ((((keptL d v L).take (k + 1)).foldl (renT d to (wo d v L)) ([], 0)).2))), (4, .int (nI ((keptL d v L).length))), (0, .ref (b 0)), (1, .int (nI d)), (2, .int (v)), (3, .int (to))] := by rw [hS2]; exact hl
                          exact ih (k + 1) M lf rt H locs ls (by omega) (by omega) (by rw [hS2]; exact hM) hMI hP hS (lv_sub hl [0, 3, 4, 5, 6, 7, 8] rfl)
                        · have hout : ¬ mkp d to ((keptL d v L).getD k 0) ∈ wo d v L ++ st.1 := by rw [← hxy, ← hM]; exact (posR_none ho).mp hc10
                          have hS2 := hS1.trans (if_neg hout)
                          have hMl : M.length < 300 := by rw [hM, List.length_append]; omega
                          refine lv_aload_n hx hb dX4_rename_131 rfl (lv_at hl 5 rfl) ?_
                          refine lv_iload hx hb dX4_rename_132 (lv_at hl 1 rfl) ?_
                          refine lv_iload hx hb dX4_rename_134 (lv_at hl 0 rfl) ?_
                          refine z_callV (rest := []) 2 ⟨hx, hb, hml, hown, hts⟩ hK (c_add l G b lf rt lo ro fo no lm rm pa mt q cf fa kp M hMI to (kp k) hMl hnd) gX4_rename_X4_add rfl (by decide +kernel) ⟨Nat.le_of_ble_eq_true rfl, Nat.le_of_ble_eq_true rfl⟩ hP 0 rfl rfl rfl rfl hl.1 rfl (Nat.le_of_ble_eq_true rfl) dX4_rename_136 ⟨Nat.le_refl _, Nat.le_refl _⟩ hS (fun _ h => h) (fun v9 H9 locs hR9 hk9 hS => ?_)
                          obtain ⟨rfl, lf3, rt3, hMI3, hP⟩ := hR9
                          clear hk9
                          generalize H9 = H at hP hS ⊢
                          refine W.eq (g2 := F0 m 139 ls []) rfl ?_
                          obtain ⟨M3, eM3⟩ : ∃ z, z = M ++ [(to, kp k)] := ⟨_, rfl⟩
                          rw [← eM3] at hMI3 hP
                          refine z_iinc (lv' := [(5, .int (nI (st.2 + 1))), (8, .int (kp k)), (7, .int (to)), (6, .int (nI k)), (4, .int (nI ((keptL d v L).length))), (0, .ref (b 0)), (1, .int (nI d)), (2, .int (v)), (3, .int (to))]) hx hb dX4_rename_139 hl (k := 3) rfl (by decide) rfl (fun ls hl => ?_)
                          refine z_iinc (lv' := [(6, .int (nI (k + 1))), (5, .int (nI (st.2 + 1))), (8, .int (kp k)), (7, .int (to)), (4, .int (nI ((keptL d v L).length))), (0, .ref (b 0)), (1, .int (nI d)), (2, .int (v)), (3, .int (to))]) hx hb dX4_rename_142 hl (k := 3) rfl (by decide) rfl (fun ls hl => ?_)
                          refine lv_goto (tgt := 78) hx hb dX4_rename_145 (by decide) ?_
                          have hl : lv_has ls 9 [(6, .int (nI (k + 1))), (5, .int (nI ((((keptL d v L).take (k + 1)).foldl (renT d to (wo d v L)) ([], 0)).2))), (8, .int (kp k)), (7, .int (to)), (4, .int (nI ((keptL d v L).length))), (0, .ref (b 0)), (1, .int (nI d)), (2, .int (v)), (3, .int (to))] := by rw [hS2]; exact hl
                          exact ih (k + 1) M3 lf3 rt3 H locs ls (by omega) (by omega) (by rw [hS2, eM3, hM, hxy, List.append_assoc]) hMI3 hP hS (lv_sub hl [0, 1, 4, 5, 6, 7, 8] rfl)
              exact loop2 ((keptL d v L).length + 1) 0 (wo d v L) lf2 rt2 _ _ ls (by omega) (by omega) (by simp) hMI2 hP hS (lv_sub hl [0, 1, 2, 3, 4, 5, 6] rfl)
            · have hks := kept_snoc (d := d) (v := v) (show k < L.length by omega)
              refine lv_aload_n hx hb dX4_rename_29 rfl (lv_at hl 2 rfl) ?_
              refine lv_iload_n hx hb dX4_rename_30 rfl (lv_at hl 3 rfl) ?_
              refine lv_iload hx hb dX4_rename_31 (lv_at hl 0 rfl) ?_
              refine z_callV (rest := []) 2 ⟨hx, hb, hml, hown, hts⟩ hK (c_own l G b L.length lf rt lo ro fo no lm rm pa mt q cf fa kp d k (by omega) (by omega)) gX4_rename_X4_own rfl (by decide +kernel) ⟨Nat.le_of_ble_eq_true rfl, Nat.le_of_ble_eq_true rfl⟩ hP 0 rfl rfl rfl rfl hl.1 rfl (Nat.le_of_ble_eq_true rfl) dX4_rename_33 ⟨Nat.le_refl _, Nat.le_refl _⟩ hS (fun _ h => h.elim) (fun v9 H9 locs hR9 hk9 hS => ?_)
              obtain rfl := hR9
              have hP := P_keep0 hP hk9
              clear hk9
              generalize H9 = H at hP hS ⊢
              refine W.eq (g2 := F0 m 36 ls [.int (ow d lf rt k)]) rfl ?_
              refine z_top (y := key d L k) (ow_key hMI hd (by omega)) ?_
              refine lv_iload_n hx hb dX4_rename_36 rfl (lv_at hl 4 rfl) ?_
              refine lv_icmp_ne (tgt := 59) hx hb dX4_rename_37 (by decide) (fun hc11 => ?_) (fun hc11 => ?_)
              · rw [if_neg hc11, List.append_nil] at hks
                refine z_iinc (lv' := [(5, .int (nI (k + 1))), (4, .int (nI ((keptL d v (L.take k)).length))), (0, .ref (b 0)), (1, .int (nI d)), (2, .int (v)), (3, .int (to))]) hx hb dX4_rename_59 hl (k := 0) rfl (by decide) rfl (fun ls hl => ?_)
                refine lv_goto (tgt := 20) hx hb dX4_rename_62 (by decide) ?_
                have hl : lv_has ls 9 [(5, .int (nI (k + 1))), (4, .int (nI ((keptL d v (L.take (k + 1))).length))), (0, .ref (b 0)), (1, .int (nI d)), (2, .int (v)), (3, .int (to))] := by rw [hks]; exact hl
                exact ih (k + 1) kp H locs ls (by omega) (by omega) (by rw [hks]; exact hkp) hP hS (lv_sub hl [0, 1, 2, 3, 4, 5] rfl)
              · rw [if_pos hc11] at hks
                refine lv_aload_n hx hb dX4_rename_40 rfl (lv_at hl 2 rfl) ?_
                refine va_get (D := G.1) (ci := 4) (v := .ref (b 12)) (C := RX4) (T := TX4) (N := 15) hx hb hts hinX4 hown hK.1 hP 0 rfl rfl 14 (by decide) (hts (.fieldLink RX4 44 "PairThreadsModel" "kept" "[I") (by decide +kernel)) (fun _ h9 => h9) rfl dX4_rename_41 ?_
                refine lv_iload hx hb dX4_rename_44 (lv_at hl 1 rfl) ?_
                refine lv_aload_n hx hb dX4_rename_46 rfl (lv_at hl 2 rfl) ?_
                refine lv_iconst (v := nI 1) hx hb dX4_rename_47 rfl ?_
                refine lv_iload_n hx hb dX4_rename_48 rfl (lv_at hl 3 rfl) ?_
                refine lv_isub hx hb dX4_rename_49 ?_
                refine z_top (y := nI (1 - d)) (pk_sub (by omega)) ?_
                refine lv_iload hx hb dX4_rename_50 (lv_at hl 0 rfl) ?_
                refine z_callV (rest := [.int (nI ((keptL d v (L.take k)).length)), .ref (b 12)]) 2 ⟨hx, hb, hml, hown, hts⟩ hK (c_own l G b L.length lf rt lo ro fo no lm rm pa mt q cf fa kp (1 - d) k (by omega) (by omega)) gX4_rename_X4_own rfl (by decide +kernel) ⟨Nat.le_of_ble_eq_true rfl, Nat.le_of_ble_eq_true rfl⟩ hP 0 rfl rfl rfl rfl hl.1 rfl (Nat.le_of_ble_eq_true rfl) dX4_rename_52 ⟨Nat.le_refl _, Nat.le_refl _⟩ hS (fun _ h => h.elim) (fun v9 H9 locs hR9 hk9 hS => ?_)
                obtain rfl := hR9
                have hP := P_keep0 hP hk9
                clear hk9
                generalize H9 = H at hP hS ⊢
                refine W.eq (g2 := F0 m 55 ls [.int (ow (1 - d) lf rt k), .int (nI ((keptL d v (L.take k)).length)), .ref (b 12)]) rfl ?_
                refine z_top (y := key (1 - d) L k) (ow_key hMI (by omega) (by omega)) ?_
                refine z_iast hx hb hK hP (hDD _ rfl) hS 12 rfl (j := (keptL d v (L.take k)).length) (by omega) (by decide) dX4_rename_55 (fun H locs hP hS => ?_)
                have hP : va_P G.1 vwCl (cR G b L.length lf rt lo ro fo no lm rm pa mt q cf fa (upd kp ((keptL d v (L.take k)).length) (key (1 - d) L k))) H := hP
                refine z_iinc (lv' := [(4, .int (nI ((keptL d v (L.take k)).length + 1))), (5, .int (nI k)), (0, .ref (b 0)), (1, .int (nI d)), (2, .int (v)), (3, .int (to))]) hx hb dX4_rename_56 hl (k := 1) rfl (by decide) rfl (fun ls hl => ?_)
                refine z_iinc (lv' := [(5, .int (nI (k + 1))), (4, .int (nI ((keptL d v (L.take k)).length + 1))), (0, .ref (b 0)), (1, .int (nI d)), (2, .int (v)), (3, .int (to))]) hx hb dX4_rename_59 hl (k := 1) rfl (by decide) rfl (fun ls hl => ?_)
                refine lv_goto (tgt := 20) hx hb dX4_rename_62 (by decide) ?_
                have hl : lv_has ls 9 [(5, .int (nI (k + 1))), (4, .int (nI ((keptL d v (L.take (k + 1))).length))), (0, .ref (b 0)), (1, .int (nI d)), (2, .int (v)), (3, .int (to))] := by rw [hks, List.length_append]; exact hl
                exact ih (k + 1) (upd kp ((keptL d v (L.take k)).length) (key (1 - d) L k)) H locs ls (by omega) (by omega) (by rw [hks]; exact kept_put hkp) hP hS (lv_sub hl [0, 1, 2, 3, 4, 5] rfl)
        exact loop (L.length + 1) 0 kp _ _ ls (by omega) (by omega) (fun j hj => absurd hj (Nat.not_lt_zero j)) hP hS (lv_sub hl [0, 1, 2, 3, 4, 5] rfl)
      · refine lv_iconst (v := (-1)) hx hb dX4_rename_12 rfl ?_
        exact z_iret hx hb hr hlocks ⟨by unfold renA; rw [hsd]; exact (congrArg (fun z => some (Value.int z)) (if_pos hc3)).symm, lf, rt, kp, by unfold renL; rw [hsd]; dsimp only; rw [if_pos hc3]; exact ⟨hMI, hP⟩⟩ hS dX4_rename_13
