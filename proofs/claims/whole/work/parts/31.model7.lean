set_option maxHeartbeats 4000000 in
set_option maxRecDepth 100000 in
/-- the model: matching -/
theorem c_matching (l : Launch) (G : Gd) (b : Nat → Nat) (lf : Nat → Int32) (rt : Nat → Int32) (lo : Nat → Nat) (ro : Nat → Nat) (fo : Nat → Option Nat) (no : Nat → Option Nat) (lm : Nat) (rm : Nat) (pa : Nat → Option Nat) (mt : Nat → Int32) (q : Nat → Nat) (cf : Nat → Option Nat) (fa : Nat → Nat) (kp : Nat → Int32) (L : List Pr) (hMI : MI lf rt L) (hnd : (aR b).Nodup) : Mt l yX4_matching wsX4_matching 2 53 [.ref (b 0)] G (cR G b L.length lf rt lo ro fo no lm rm pa mt q cf fa kp) (fun q => q ∈ aR b) (fun r h => ∃ z : Nat, r = some (.int (nI z)) ∧ isMM L z ∧ cRL G b L h) := by
  refine Mt.mk cX4_matching 3 (some .int) (by decide) rfl (Nat.le_of_ble_eq_true rfl) ?_
  intro p9 e s m below meth c ls hx hb hr hml hts hown hlocks hP hK hl
  have hinX4 : ∀ w ∈ wsX40, w ∈ wsX4_matching := by decide +kernel
  have hS : va_S (fun q => q ∈ aR b) s.heap s.heap [] := va_S.rf
  have hl : lv_has ls 3 [(0, .ref (b 0))] := hl
  have hown : s.vm.findClass RX4 = some m.cls := hown
  have hDD : ∀ ws : va_W, ws.map Prod.fst = aR b → va_D (fun q => q ∈ aR b) ws := D_of hnd (fun q h => h)
  have hn := hMI.1
  refine lv_aload_n hx hb dX4_matching_0 rfl (lv_at hl 0 rfl) ?_
  refine z_callV (rest := []) 0 ⟨hx, hb, hml, hown, hts⟩ hK (c_number l G b lf rt lo ro fo no lm rm pa mt q cf fa kp L hMI hnd) gX4_matching_X4_number rfl (by decide +kernel) ⟨Nat.le_of_ble_eq_true rfl, Nat.le_of_ble_eq_true rfl⟩ hP 0 rfl rfl rfl rfl hl.1 rfl (Nat.le_of_ble_eq_true rfl) dX4_matching_1 ⟨Nat.le_refl _, Nat.le_refl _⟩ hS (fun _ h => h) (fun v9 H9 locs hR9 hk9 hS => ?_)
  obtain ⟨rfl, lo2, ro2, fo2, no2, lm2, rm2, hNL, hNR, hNC, hP⟩ := hR9
  clear hk9
  generalize H9 = H at hP hS ⊢
  refine W.eq (g2 := F0 m 4 ls []) rfl ?_
  have hlm2 : lm2 ≤ 300 := by have := dis_le (key 0 L) L.length; have := hNL.2.2.2; omega
  have hrm2 : rm2 ≤ 300 := by have := dis_le (key 1 L) L.length; have := hNR.2.2.2; omega
  refine lv_iconst (v := nI 0) hx hb dX4_matching_4 rfl ?_
  refine lv_istore_n (lv' := [(1, .int (nI 0)), (0, .ref (b 0))]) hx hb dX4_matching_5 rfl hl (by decide) rfl (fun ls hl => ?_)
  have loopa : ∀ (k9 : Nat) (k : Nat) (H : Heap) (locs : List Loc) (ls : Array Slot), (rm2 < k + k9) → (k ≤ rm2) → va_P G.1 vwCl (cR G b L.length lf rt lo2 ro2 fo2 no2 lm2 rm2 (zo k pa) mt q cf fa kp) H → va_S (fun q => q ∈ aR b) s.heap H locs → lv_has ls 3 [(1, .int (nI k)), (0, .ref (b 0))] → Wz p9 l e 2 53 s m [.ref (b 0)] below meth c (fun q => q ∈ aR b) (fun r h => ∃ z : Nat, r = some (.int (nI z)) ∧ isMM L z ∧ cRL G b L h) H locs (F0 m 6 ls []) := by
    intro k9
    induction k9 with
    | zero =>
      intro k H locs ls hfuel hk hP hS hl
      exact absurd hfuel (by omega)
    | succ k9 ih =>
      intro k H locs ls hfuel hk hP hS hl
      refine lv_iload_n hx hb dX4_matching_6 rfl (lv_at hl 0 rfl) ?_
      refine lv_aload_n hx hb dX4_matching_7 rfl (lv_at hl 1 rfl) ?_
      refine va_get (D := G.1) (ci := 4) (v := .int (nI rm2)) (C := RX4) (T := TX4) (N := 15) hx hb hts hinX4 hown hK.1 hP 0 rfl rfl 8 (by decide) (hts (.fieldLink RX4 76 "PairThreadsModel" "rightMany" "I") (by decide +kernel)) (fun _ h9 => h9) rfl dX4_matching_8 ?_
      refine z_icmp_ge (tgt := 27) hx hb (by omega) (by omega) dX4_matching_11 (by decide) (fun hc1 => ?_) (fun hc1 => ?_)
      · obtain ⟨pa2, hpa2⟩ : ∃ z, z = zo k pa := ⟨_, rfl⟩
        rw [← hpa2] at hP
        have hz1 : ∀ r, r < rm2 → pa2 r = none := fun r hr9 => by rw [hpa2]; exact if_pos (by omega)
        refine lv_iconst (v := nI 0) hx hb dX4_matching_27 rfl ?_
        refine lv_istore_n (lv' := [(1, .int (nI 0)), (0, .ref (b 0))]) hx hb dX4_matching_28 rfl hl (by decide) rfl (fun ls hl => ?_)
        refine lv_iconst (v := nI 0) hx hb dX4_matching_29 rfl ?_
        refine lv_istore_n (lv' := [(2, .int (nI 0)), (1, .int (nI 0)), (0, .ref (b 0))]) hx hb dX4_matching_30 rfl hl (by decide) rfl (fun ls hl => ?_)
        have loop : ∀ (k9 : Nat) (l0 : Nat) (pa2 : Nat → Option Nat) (cf2 : Nat → Option Nat) (q2 : Nat → Nat) (DL : Nat → Prop) (DR : Nat → Prop) (H : Heap) (locs : List Loc) (ls : Array Slot), (lm2 < l0 + k9) → (l0 ≤ lm2) → (MT L.length rm2 lo2 ro2 pa2) → (CD L.length rm2 lo2 ro2 pa2 DL DR) → (∀ l9, l9 < l0 → (∀ r, r < rm2 → ¬ pa2 r = some l9) → DL l9) → (∀ r l9, r < rm2 → pa2 r = some l9 → l9 < l0) → va_P G.1 vwCl (cR G b L.length lf rt lo2 ro2 fo2 no2 lm2 rm2 pa2 mt q2 cf2 fa kp) H → va_S (fun q => q ∈ aR b) s.heap H locs → lv_has ls 3 [(2, .int (nI l0)), (1, .int (nI (cz (fun r => om (pa2 r)) rm2))), (0, .ref (b 0))] → Wz p9 l e 2 53 s m [.ref (b 0)] below meth c (fun q => q ∈ aR b) (fun r h => ∃ z : Nat, r = some (.int (nI z)) ∧ isMM L z ∧ cRL G b L h) H locs (F0 m 31 ls []) := by
          intro k9
          induction k9 with
          | zero =>
            intro l0 pa2 cf2 q2 DL DR H locs ls hfuel hl0 hM hD hun hml9 hP hS hl
            exact absurd hfuel (by omega)
          | succ k9 ih =>
            intro l0 pa2 cf2 q2 DL DR H locs ls hfuel hl0 hM hD hun hml9 hP hS hl
            refine lv_iload_n hx hb dX4_matching_31 rfl (lv_at hl 0 rfl) ?_
            refine lv_aload_n hx hb dX4_matching_32 rfl (lv_at hl 2 rfl) ?_
            refine va_get (D := G.1) (ci := 4) (v := .int (nI lm2)) (C := RX4) (T := TX4) (N := 15) hx hb hts hinX4 hown hK.1 hP 0 rfl rfl 7 (by decide) (hts (.fieldLink RX4 73 "PairThreadsModel" "leftMany" "I") (by decide +kernel)) (fun _ h9 => h9) rfl dX4_matching_33 ?_
            refine z_icmp_ge (tgt := 61) hx hb (by omega) (by omega) dX4_matching_36 (by decide) (fun hc2 => ?_) (fun hc2 => ?_)
            · refine lv_iload_n hx hb dX4_matching_61 rfl (lv_at hl 1 rfl) ?_
              have he : l0 = lm2 := by omega
              subst he
              exact z_iret hx hb hr hlocks ⟨_, rfl, MM_model hNL hNR hM hD hun, ⟨lf, rt, lo2, ro2, fo2, no2, l0, rm2, pa2, mt, q2, cf2, fa, kp, hMI, hP⟩⟩ hS dX4_matching_62
            · refine lv_aload_n hx hb dX4_matching_39 rfl (lv_at hl 2 rfl) ?_
              refine lv_iload_n hx hb dX4_matching_40 rfl (lv_at hl 0 rfl) ?_
              refine z_callV (rest := []) 1 ⟨hx, hb, hml, hown, hts⟩ hK (c_grows l G b lf rt lo2 ro2 fo2 no2 lm2 rm2 pa2 mt q2 cf2 fa kp L hMI l0 DL DR hNL.1 hNR.1 hlm2 hrm2 hNC hM (fun x hx9 h9 => by have := hml9 x l0 hx9 h9; omega) hD (by omega) hnd) gX4_matching_X4_grows rfl (by decide +kernel) ⟨Nat.le_of_ble_eq_true rfl, Nat.le_of_ble_eq_true rfl⟩ hP 0 rfl rfl rfl rfl hl.1 rfl (Nat.le_of_ble_eq_true rfl) dX4_matching_41 ⟨Nat.le_refl _, Nat.le_refl _⟩ hS (fun _ h => h) (fun v9 H9 locs hR9 hk9 hS => ?_)
              obtain ⟨z, rfl, pa3, cf3, q3, DL3, DR3, hM3, hD3, hmono, hz, hP⟩ := hR9
              clear hk9
              generalize H9 = H at hP hS ⊢
              refine W.eq (g2 := F0 m 44 ls [.int (nI z)]) rfl ?_
              rcases hz with ⟨rfl, hcz, ⟨y9, hy1, hy2⟩, hcov, hsrc⟩ | ⟨rfl, hpe, hdl⟩
              · refine z_if_eq (tgt := 53) hx hb (by omega) dX4_matching_44 (by decide) (fun hc3 => ?_) (fun hc3 => ?_)
                · exact absurd hc3 (by decide)
                · refine lv_iload_n hx hb dX4_matching_47 rfl (lv_at hl 1 rfl) ?_
                  refine lv_iconst (v := nI 1) hx hb dX4_matching_48 rfl ?_
                  refine lv_iadd hx hb dX4_matching_49 ?_
                  refine z_top (y := nI (cz (fun r => om (pa2 r)) rm2 + 1)) (nI_add _ _) ?_
                  refine lv_goto (tgt := 54) hx hb dX4_matching_50 (by decide) ?_
                  refine lv_istore_n (lv' := [(1, .int (nI (cz (fun r => om (pa2 r)) rm2 + 1))), (2, .int (nI l0)), (0, .ref (b 0))]) hx hb dX4_matching_54 rfl hl (by decide) rfl (fun ls hl => ?_)
                  refine z_iinc (lv' := [(2, .int (nI (l0 + 1))), (1, .int (nI (cz (fun r => om (pa2 r)) rm2 + 1))), (0, .ref (b 0))]) hx hb dX4_matching_55 hl (k := 1) rfl (by decide) rfl (fun ls hl => ?_)
                  refine lv_goto (tgt := 31) hx hb dX4_matching_58 (by decide) ?_
                  have hl : lv_has ls 3 [(2, .int (nI (l0 + 1))), (1, .int (nI (cz (fun r => om (pa3 r)) rm2))), (0, .ref (b 0))] := by rw [hcz]; exact hl
                  exact ih (l0 + 1) pa3 cf3 q3 DL3 DR3 H locs ls (by omega) (by omega) hM3 hD3 (fun l9 h9 hno => by rcases Nat.lt_succ_iff_lt_or_eq.mp h9 with z | z; exact hmono l9 (hun l9 z (fun r hr9 e9 => by obtain ⟨y, a1, a2⟩ := hcov l9 r hr9 e9; exact hno y a1 a2)); subst z; exact absurd hy2 (hno y9 hy1)) (fun r l9 hr9 e9 => by rcases hsrc r l9 hr9 e9 with z | ⟨y, a1, a2⟩; omega; have := hml9 y l9 a1 a2; omega) hP hS (lv_sub hl [0, 1, 2] rfl)
              · rw [hpe] at hM3 hD3 hP
                refine z_if_eq (tgt := 53) hx hb (by omega) dX4_matching_44 (by decide) (fun hc4 => ?_) (fun hc4 => ?_)
                · refine lv_iload_n hx hb dX4_matching_53 rfl (lv_at hl 1 rfl) ?_
                  refine lv_istore_n (lv' := [(1, .int (nI (cz (fun r => om (pa2 r)) rm2))), (2, .int (nI l0)), (0, .ref (b 0))]) hx hb dX4_matching_54 rfl hl (by decide) rfl (fun ls hl => ?_)
                  refine z_iinc (lv' := [(2, .int (nI (l0 + 1))), (1, .int (nI (cz (fun r => om (pa2 r)) rm2))), (0, .ref (b 0))]) hx hb dX4_matching_55 hl (k := 1) rfl (by decide) rfl (fun ls hl => ?_)
                  refine lv_goto (tgt := 31) hx hb dX4_matching_58 (by decide) ?_
                  exact ih (l0 + 1) pa2 cf3 q3 DL3 DR3 H locs ls (by omega) (by omega) hM3 hD3 (fun l9 h9 hno => by rcases Nat.lt_succ_iff_lt_or_eq.mp h9 with z | z; exact hmono l9 (hun l9 z hno); subst z; exact hdl) (fun r l9 hr9 e9 => by have := hml9 r l9 hr9 e9; omega) hP hS (lv_sub hl [0, 1, 2] rfl)
                · exact absurd rfl hc4
        have hc0 : cz (fun r => om (pa2 r)) rm2 = 0 := cz_0 (fun r hr9 => by rw [hz1 r hr9]; rfl)
        have hl : lv_has ls 3 [(2, .int (nI 0)), (1, .int (nI (cz (fun r => om (pa2 r)) rm2))), (0, .ref (b 0))] := by rw [hc0]; exact hl
        exact loop (lm2 + 1) 0 pa2 cf q (fun _ => False) (fun _ => False) _ _ ls (by omega) (by omega) ⟨fun r l9 hr9 e9 => (by rw [hz1 r hr9] at e9; cases e9), fun r t l9 hr9 _ e9 => (by rw [hz1 r hr9] at e9; cases e9)⟩ ⟨fun k9 _ h9 => h9, fun r _ h9 => h9.elim⟩ (fun l9 h9 => absurd h9 (Nat.not_lt_zero l9)) (fun r l9 hr9 e9 => by rw [hz1 r hr9] at e9; cases e9) hP hS (lv_sub hl [0, 1, 2] rfl)
      · refine lv_aload_n hx hb dX4_matching_14 rfl (lv_at hl 1 rfl) ?_
        refine va_get (D := G.1) (ci := 4) (v := .ref (b 7)) (C := RX4) (T := TX4) (N := 15) hx hb hts hinX4 hown hK.1 hP 0 rfl rfl 9 (by decide) (hts (.fieldLink RX4 28 "PairThreadsModel" "partner" "[I") (by decide +kernel)) (fun _ h9 => h9) rfl dX4_matching_15 ?_
        refine lv_iload_n hx hb dX4_matching_18 rfl (lv_at hl 0 rfl) ?_
        refine lv_iconst (v := (-1)) hx hb dX4_matching_19 rfl ?_
        refine z_top (y := lk none) (rfl) ?_
        refine z_iastO hx hb hK hP (hDD _ rfl) hS 7 rfl (j := k) (by omega) (by decide) dX4_matching_20 (fun H locs hP hS => ?_)
        have hP : va_P G.1 vwCl (cR G b L.length lf rt lo2 ro2 fo2 no2 lm2 rm2 (va_up (zo k pa) k none) mt q cf fa kp) H := hP
        refine z_iinc (lv' := [(1, .int (nI (k + 1))), (0, .ref (b 0))]) hx hb dX4_matching_21 hl (k := 0) rfl (by decide) rfl (fun ls hl => ?_)
        refine lv_goto (tgt := 6) hx hb dX4_matching_24 (by decide) ?_
        rw [zo_s] at hP
        exact ih (k + 1) H locs ls (by omega) (by omega) hP hS (lv_sub hl [0, 1] rfl)
  rw [← zo_0 pa] at hP
  exact loopa (rm2 + 1) 0 _ _ ls (by omega) (by omega) hP hS (lv_sub hl [0, 1] rfl)

set_option maxHeartbeats 4000000 in
set_option maxRecDepth 100000 in
/-- the model: count -/
theorem c_Rcount (l : Launch) (G : Gd) (b : Nat → Nat) (lf : Nat → Int32) (rt : Nat → Int32) (lo : Nat → Nat) (ro : Nat → Nat) (fo : Nat → Option Nat) (no : Nat → Option Nat) (lm : Nat) (rm : Nat) (pa : Nat → Option Nat) (mt : Nat → Int32) (q : Nat → Nat) (cf : Nat → Option Nat) (fa : Nat → Nat) (kp : Nat → Int32) (L : List Pr) (hMI : MI lf rt L) (w : Int32) (hnd : (aR b).Nodup) : Mt l yX4_count wsX4_count 3 75 [.ref (b 0), .int (w)] G (cR G b L.length lf rt lo ro fo no lm rm pa mt q cf fa kp) (fun q => q ∈ aR b) (fun r h => ∃ z : Int32, r = some (.int z) ∧ countR L w z ∧ cRL G b L h) := by
  refine Mt.mk cX4_count 2 (some .int) (by decide) rfl (Nat.le_of_ble_eq_true rfl) ?_
  intro p9 e s m below meth c ls hx hb hr hml hts hown hlocks hP hK hl
  have hinX4 : ∀ w ∈ wsX40, w ∈ wsX4_count := by decide +kernel
  have hS : va_S (fun q => q ∈ aR b) s.heap s.heap [] := va_S.rf
  have hl : lv_has ls 2 [(0, .ref (b 0)), (1, .int (w))] := hl
  have hown : s.vm.findClass RX4 = some m.cls := hown
  have hDD : ∀ ws : va_W, ws.map Prod.fst = aR b → va_D (fun q => q ∈ aR b) ws := D_of hnd (fun q h => h)
  refine lv_iload_n hx hb dX4_count_0 rfl (lv_at hl 1 rfl) ?_
  by_cases hw0 : w = nI 0
  · subst hw0
    refine lv_tableIn (tgt := 36) hx hb dX4_count_1 (by decide) (by decide) (off := 35) (by decide) (by decide) ?_
    refine lv_aload_n hx hb dX4_count_36 rfl (lv_at hl 0 rfl) ?_
    refine va_get (D := G.1) (ci := 4) (v := .int (nI L.length)) (C := RX4) (T := TX4) (N := 15) hx hb hts hinX4 hown hK.1 hP 0 rfl rfl 0 (by decide) (hts (.fieldLink RX4 47 "PairThreadsModel" "many" "I") (by decide +kernel)) (fun _ h9 => h9) rfl dX4_count_37 ?_
    exact z_iret hx hb hr hlocks ⟨_, rfl, co0 rfl, ⟨lf, rt, lo, ro, fo, no, lm, rm, pa, mt, q, cf, fa, kp, hMI, hP⟩⟩ hS dX4_count_40
  · by_cases hw1 : w = nI 1
    · subst hw1
      refine lv_tableIn (tgt := 41) hx hb dX4_count_1 (by decide) (by decide) (off := 40) (by decide) (by decide) ?_
      refine lv_aload_n hx hb dX4_count_41 rfl (lv_at hl 0 rfl) ?_
      refine z_callV (rest := []) 0 ⟨hx, hb, hml, hown, hts⟩ hK (c_number l G b lf rt lo ro fo no lm rm pa mt q cf fa kp L hMI hnd) gX4_count_X4_number rfl (by decide +kernel) ⟨Nat.le_of_ble_eq_true rfl, Nat.le_of_ble_eq_true rfl⟩ hP 0 rfl rfl rfl rfl hl.1 rfl (Nat.le_of_ble_eq_true rfl) dX4_count_42 ⟨Nat.le_refl _, Nat.le_refl _⟩ hS (fun _ h => h) (fun v9 H9 locs hR9 hk9 hS => ?_)
      obtain ⟨rfl, lo2, ro2, fo2, no2, lm2, rm2, hNL, hNR, hNC, hP⟩ := hR9
      clear hk9
      generalize H9 = H at hP hS ⊢
      refine W.eq (g2 := F0 m 45 ls []) rfl ?_
      refine lv_aload_n hx hb dX4_count_45 rfl (lv_at hl 0 rfl) ?_
      refine va_get (D := G.1) (ci := 4) (v := .int (nI lm2)) (C := RX4) (T := TX4) (N := 15) hx hb hts hinX4 hown hK.1 hP 0 rfl rfl 7 (by decide) (hts (.fieldLink RX4 73 "PairThreadsModel" "leftMany" "I") (by decide +kernel)) (fun _ h9 => h9) rfl dX4_count_46 ?_
      exact z_iret hx hb hr hlocks ⟨_, rfl, co1 (congrArg nI hNL.2.2.2), ⟨lf, rt, lo2, ro2, fo2, no2, lm2, rm2, pa, mt, q, cf, fa, kp, hMI, hP⟩⟩ hS dX4_count_49
    · by_cases hw2 : w = nI 2
      · subst hw2
        refine lv_tableIn (tgt := 50) hx hb dX4_count_1 (by decide) (by decide) (off := 49) (by decide) (by decide) ?_
        refine lv_aload_n hx hb dX4_count_50 rfl (lv_at hl 0 rfl) ?_
        refine z_callV (rest := []) 0 ⟨hx, hb, hml, hown, hts⟩ hK (c_number l G b lf rt lo ro fo no lm rm pa mt q cf fa kp L hMI hnd) gX4_count_X4_number rfl (by decide +kernel) ⟨Nat.le_of_ble_eq_true rfl, Nat.le_of_ble_eq_true rfl⟩ hP 0 rfl rfl rfl rfl hl.1 rfl (Nat.le_of_ble_eq_true rfl) dX4_count_51 ⟨Nat.le_refl _, Nat.le_refl _⟩ hS (fun _ h => h) (fun v9 H9 locs hR9 hk9 hS => ?_)
        obtain ⟨rfl, lo2, ro2, fo2, no2, lm2, rm2, hNL, hNR, hNC, hP⟩ := hR9
        clear hk9
        generalize H9 = H at hP hS ⊢
        refine W.eq (g2 := F0 m 54 ls []) rfl ?_
        refine lv_aload_n hx hb dX4_count_54 rfl (lv_at hl 0 rfl) ?_
        refine va_get (D := G.1) (ci := 4) (v := .int (nI rm2)) (C := RX4) (T := TX4) (N := 15) hx hb hts hinX4 hown hK.1 hP 0 rfl rfl 8 (by decide) (hts (.fieldLink RX4 76 "PairThreadsModel" "rightMany" "I") (by decide +kernel)) (fun _ h9 => h9) rfl dX4_count_55 ?_
        exact z_iret hx hb hr hlocks ⟨_, rfl, co2 (congrArg nI hNR.2.2.2), ⟨lf, rt, lo2, ro2, fo2, no2, lm2, rm2, pa, mt, q, cf, fa, kp, hMI, hP⟩⟩ hS dX4_count_58
      · by_cases hw3 : w = nI 3
        · subst hw3
          refine lv_tableIn (tgt := 59) hx hb dX4_count_1 (by decide) (by decide) (off := 58) (by decide) (by decide) ?_
          refine lv_aload_n hx hb dX4_count_59 rfl (lv_at hl 0 rfl) ?_
          refine z_callV (rest := []) 0 ⟨hx, hb, hml, hown, hts⟩ hK (c_matching l G b lf rt lo ro fo no lm rm pa mt q cf fa kp L hMI hnd) gX4_count_X4_matching rfl (by decide +kernel) ⟨Nat.le_of_ble_eq_true rfl, Nat.le_of_ble_eq_true rfl⟩ hP 0 rfl rfl rfl rfl hl.1 rfl (Nat.le_of_ble_eq_true rfl) dX4_count_60 ⟨Nat.le_refl _, Nat.le_refl _⟩ hS (fun _ h => h) (fun v9 H9 locs hR9 hk9 hS => ?_)
          obtain ⟨z, rfl, hMM, hR9⟩ := hR9
          clear hP
          have hP := hR9
          clear hk9
          generalize H9 = H at hP hS ⊢
          refine W.eq (g2 := F0 m 63 ls [.int (nI z)]) rfl ?_
          exact z_iret hx hb hr hlocks ⟨_, rfl, co3 ⟨z, hMM, rfl⟩, hP⟩ hS dX4_count_63
        · by_cases hw4 : w = nI 4
          · subst hw4
            refine lv_tableIn (tgt := 64) hx hb dX4_count_1 (by decide) (by decide) (off := 63) (by decide) (by decide) ?_
            refine lv_aload_n hx hb dX4_count_64 rfl (lv_at hl 0 rfl) ?_
            refine z_callV (rest := []) 0 ⟨hx, hb, hml, hown, hts⟩ hK (c_Rparts l G b lf rt lo ro fo no lm rm pa mt q cf fa kp L hMI hnd) gX4_count_X4_parts rfl (by decide +kernel) ⟨Nat.le_of_ble_eq_true rfl, Nat.le_of_ble_eq_true rfl⟩ hP 0 rfl rfl rfl rfl hl.1 rfl (Nat.le_of_ble_eq_true rfl) dX4_count_65 ⟨Nat.le_refl _, Nat.le_refl _⟩ hS (fun _ h => h) (fun v9 H9 locs hR9 hk9 hS => ?_)
            obtain ⟨rfl, q2, fa2, hP⟩ := hR9
            clear hk9
            generalize H9 = H at hP hS ⊢
            refine W.eq (g2 := F0 m 68 ls [.int (nI (pcn (tch L) L.length L.length))]) rfl ?_
            exact z_iret hx hb hr hlocks ⟨_, rfl, co4 rfl, ⟨lf, rt, lo, ro, fo, no, lm, rm, pa, mt, q2, cf, fa2, kp, hMI, hP⟩⟩ hS dX4_count_68
          · refine lv_tableOut (tgt := 69) hx hb dX4_count_1 (sw_out hw0 hw1 hw2 hw3 hw4) (by decide) ?_
            refine lv_iconst (v := (-1)) hx hb dX4_count_69 rfl ?_
            exact z_iret hx hb hr hlocks ⟨_, rfl, co5 hw0 hw1 hw2 hw3 hw4 rfl, ⟨lf, rt, lo, ro, fo, no, lm, rm, pa, mt, q, cf, fa, kp, hMI, hP⟩⟩ hS dX4_count_70
