set_option maxHeartbeats 4000000 in
set_option maxRecDepth 100000 in
/-- Arrays.fill -/
theorem c_fill (l : Launch) (G : Gd) (x : Nat) (f : Nat → Int32) (v : Int32) : Mt l yJ7_fill_53178 wsJ7_fill_53178 0 0 [.ref (x), .int (v)] G (c1 G x f) (fun q => q = x) (fun r h => r = none ∧ va_P G.1 vwCl (c1 G x (fun _ => v)) h) := by
  refine Mt.mk cJ7_fill_53178 4 none (by decide) rfl (Nat.le_of_ble_eq_true rfl) ?_
  intro p9 e s m below meth c ls hx hb hr hml hts hown hlocks hP hK hl
  have hS : va_S (fun q => q = x) s.heap s.heap [] := va_S.rf
  have hl : lv_has ls 4 [(0, .ref (x)), (1, .int (v))] := hl
  have hown : s.vm.findClass RJ7 = some m.cls := hown
  have hDD : ∀ ws : va_W, ws.map Prod.fst = [x] → va_D (fun q => q = x) ws := D_of (by simp) (fun q h => List.mem_singleton.mp h)
  refine lv_iconst (v := nI 0) hx hb dJ7_fill_53178_0 rfl ?_
  refine lv_istore_n (lv' := [(2, .int (nI 0)), (0, .ref (x)), (1, .int (v))]) hx hb dJ7_fill_53178_1 rfl hl (by decide) rfl (fun ls hl => ?_)
  refine lv_aload_n hx hb dJ7_fill_53178_2 rfl (lv_at hl 1 rfl) ?_
  refine va_alen hx hb hK.1 hP 0 0 rfl rfl (v := nI 300) rfl dJ7_fill_53178_3 ?_
  refine lv_istore_n (lv' := [(3, .int (nI 300)), (2, .int (nI 0)), (0, .ref (x)), (1, .int (v))]) hx hb dJ7_fill_53178_4 rfl hl (by decide) rfl (fun ls hl => ?_)
  have loop : ∀ (k9 : Nat) (i : Nat) (H : Heap) (locs : List Loc) (ls : Array Slot), (300 < i + k9) → (i ≤ 300) → va_P G.1 vwCl (c1 G x (fl i v f)) H → va_S (fun q => q = x) s.heap H locs → lv_has ls 4 [(3, .int (nI 300)), (2, .int (nI i)), (0, .ref (x)), (1, .int (v))] → Wz p9 l e 0 0 s m [.ref (x), .int (v)] below meth c (fun q => q = x) (fun r h => r = none ∧ va_P G.1 vwCl (c1 G x (fun _ => v)) h) H locs (F0 m 5 ls []) := by
    intro k9
    induction k9 with
    | zero =>
      intro i H locs ls hfuel hi hP hS hl
      exact absurd hfuel (by omega)
    | succ k9 ih =>
      intro i H locs ls hfuel hi hP hS hl
      refine lv_iload_n hx hb dJ7_fill_53178_5 rfl (lv_at hl 1 rfl) ?_
      refine lv_iload_n hx hb dJ7_fill_53178_6 rfl (lv_at hl 0 rfl) ?_
      refine z_icmp_ge (tgt := 20) hx hb (by omega) (by omega) dJ7_fill_53178_7 (by decide) (fun hc1 => ?_) (fun hc1 => ?_)
      · exact z_vret hx hb hr hlocks ⟨rfl, c1_congr (fun j hj => if_pos (by omega)) hP⟩ hS dJ7_fill_53178_20
      · refine lv_aload_n hx hb dJ7_fill_53178_10 rfl (lv_at hl 2 rfl) ?_
        refine lv_iload_n hx hb dJ7_fill_53178_11 rfl (lv_at hl 1 rfl) ?_
        refine lv_iload_n hx hb dJ7_fill_53178_12 rfl (lv_at hl 3 rfl) ?_
        refine z_iast hx hb hK hP (hDD _ rfl) hS 0 rfl (j := i) (by omega) (by decide) dJ7_fill_53178_13 (fun H locs hP hS => ?_)
        have hP : va_P G.1 vwCl (c1 G x (upd (fl i v f) i (v))) H := hP
        refine z_iinc (lv' := [(2, .int (nI (i + 1))), (3, .int (nI 300)), (0, .ref (x)), (1, .int (v))]) hx hb dJ7_fill_53178_14 hl (k := 1) rfl (by decide) rfl (fun ls hl => ?_)
        refine lv_goto (tgt := 5) hx hb dJ7_fill_53178_17 (by decide) ?_
        rw [fl_s] at hP
        exact ih (i + 1) H locs ls (by omega) (by omega) hP hS (lv_sub hl [1, 0, 2, 3] rfl)
  rw [← fl_0 v f] at hP
  exact loop 301 0 _ _ ls (by omega) (by omega) hP hS (lv_sub hl [0, 1, 2, 3] rfl)

set_option maxHeartbeats 4000000 in
set_option maxRecDepth 100000 in
/-- Spread.forget -/
theorem c_forget (l : Launch) (G : Gd) (a q r : Nat → Nat) (V : Nat → Nat → Nat) (n0 : Nat) (hnd : (aS a).Nodup) : Mt l yX1_forget wsX1_forget 1 23 [.ref (a 11)] G (cS G a q r V n0) (fun q => q ∈ aS a) (fun x h => x = none ∧ va_P G.1 vwCl (cS G a q (fun _ => 0) (fun _ _ => 0) 0) h) := by
  refine Mt.mk cX1_forget 1 none (by decide) rfl (Nat.le_of_ble_eq_true rfl) ?_
  intro p9 e s m below meth c ls hx hb hr hml hts hown hlocks hP hK hl
  have hinX1 : ∀ w ∈ wsX10, w ∈ wsX1_forget := by decide +kernel
  have hS : va_S (fun q => q ∈ aS a) s.heap s.heap [] := va_S.rf
  have hl : lv_has ls 1 [(0, .ref (a 11))] := hl
  have hown : s.vm.findClass RX1 = some m.cls := hown
  have hDD : ∀ ws : va_W, ws.map Prod.fst = aS a → va_D (fun q => q ∈ aS a) ws := D_of hnd (fun q h => h)
  refine lv_aload_n hx hb dX1_forget_0 rfl (lv_at hl 0 rfl) ?_
  refine lv_iconst (v := nI 0) hx hb dX1_forget_1 rfl ?_
  refine va_put (D := G.1) (ci := 1) (v := .int (nI 0)) (ty := .int) (C := RX1) (T := TX1) (N := 4) hx hb hts hinX1 tyX1 tyX1_ok nmX1 hown hK.1 hP (hDD _ rfl) hS 0 rfl rfl 1 (by decide) (hts (.fieldLink RX1 27 "PairThreads$Spread" "found" "I") (by decide +kernel)) (fun _ h9 => h9) rfl (by decide +kernel) rfl rfl (Nat.le_of_ble_eq_true rfl) dX1_forget_2 (fun H locs hP _ hS => ?_)
  have hP : va_P G.1 vwCl (cS G a q r V 0) H := hP
  refine lv_aload_n hx hb dX1_forget_5 rfl (lv_at hl 0 rfl) ?_
  refine va_get (D := G.1) (ci := 1) (v := .ref (a 13)) (C := RX1) (T := TX1) (N := 4) hx hb hts hinX1 hown hK.1 hP 0 rfl rfl 2 (by decide) (hts (.fieldLink RX1 15 "PairThreads$Spread" "rowTo" "[I") (by decide +kernel)) (fun _ h9 => h9) rfl dX1_forget_6 ?_
  refine lv_iconst (v := nI 0) hx hb dX1_forget_9 rfl ?_
  refine z_callS (rest := []) 2 ⟨hx, hb, hml, hown, hts⟩ hK (c_fill l G (a 13) (fN r) (nI 0)) gX1_forget_J7_fill_53178 rfl (by decide +kernel) ⟨Nat.le_of_ble_eq_true rfl, Nat.le_of_ble_eq_true rfl⟩ (hP.sub (ws' := c1 G (a 13) (fN r)) [2] rfl) rfl hl.1 rfl (Nat.le_of_ble_eq_true rfl) dX1_forget_10 ⟨Nat.le_refl _, Nat.le_refl _⟩ hS (fun q h => by rw [h]; simp [aS]) (fun v9 H9 locs hR9 hk9 hS => ?_)
  obtain ⟨rfl, hP1⟩ := hR9
  have hP := P_one (k := 2) hP hnd (AL := aS a) rfl rfl hk9 hP1
  clear hk9
  generalize H9 = H at hP hS ⊢
  refine W.eq (g2 := F0 m 13 ls []) rfl ?_
  have hP : va_P G.1 vwCl (cS G a q (fun _ => 0) V 0) H := hP
  refine lv_aload_n hx hb dX1_forget_13 rfl (lv_at hl 0 rfl) ?_
  refine va_get (D := G.1) (ci := 1) (v := .ref (a 14)) (C := RX1) (T := TX1) (N := 4) hx hb hts hinX1 hown hK.1 hP 0 rfl rfl 3 (by decide) (hts (.fieldLink RX1 20 "PairThreads$Spread" "walked" "[[I") (by decide +kernel)) (fun _ h9 => h9) rfl dX1_forget_14 ?_
  refine lv_iconst (v := nI 0) hx hb dX1_forget_17 rfl ?_
  refine z_ald hx hb hK hP 3 rfl (j := 0) (by omega) (by decide) dX1_forget_18 ?_
  refine lv_iconst (v := nI 0) hx hb dX1_forget_19 rfl ?_
  refine z_callS (rest := []) 2 ⟨hx, hb, hml, hown, hts⟩ hK (c_fill l G (a 15) (fN (V 0)) (nI 0)) gX1_forget_J7_fill_53178 rfl (by decide +kernel) ⟨Nat.le_of_ble_eq_true rfl, Nat.le_of_ble_eq_true rfl⟩ (hP.sub (ws' := c1 G (a 15) (fN (V 0))) [4] rfl) rfl hl.1 rfl (Nat.le_of_ble_eq_true rfl) dX1_forget_20 ⟨Nat.le_refl _, Nat.le_refl _⟩ hS (fun q h => by rw [h]; simp [aS]) (fun v9 H9 locs hR9 hk9 hS => ?_)
  obtain ⟨rfl, hP1⟩ := hR9
  have hP := P_one (k := 4) hP hnd (AL := aS a) rfl rfl hk9 hP1
  clear hk9
  generalize H9 = H at hP hS ⊢
  refine W.eq (g2 := F0 m 23 ls []) rfl ?_
  have hP : va_P G.1 vwCl (cS G a q (fun _ => 0) (va_up V 0 (fun _ => 0)) 0) H := hP
  refine lv_aload_n hx hb dX1_forget_23 rfl (lv_at hl 0 rfl) ?_
  refine va_get (D := G.1) (ci := 1) (v := .ref (a 14)) (C := RX1) (T := TX1) (N := 4) hx hb hts hinX1 hown hK.1 hP 0 rfl rfl 3 (by decide) (hts (.fieldLink RX1 20 "PairThreads$Spread" "walked" "[[I") (by decide +kernel)) (fun _ h9 => h9) rfl dX1_forget_24 ?_
  refine lv_iconst (v := nI 1) hx hb dX1_forget_27 rfl ?_
  refine z_ald hx hb hK hP 3 rfl (j := 1) (by omega) (by decide) dX1_forget_28 ?_
  refine lv_iconst (v := nI 0) hx hb dX1_forget_29 rfl ?_
  refine z_callS (rest := []) 2 ⟨hx, hb, hml, hown, hts⟩ hK (c_fill l G (a 16) (fN (V 1)) (nI 0)) gX1_forget_J7_fill_53178 rfl (by decide +kernel) ⟨Nat.le_of_ble_eq_true rfl, Nat.le_of_ble_eq_true rfl⟩ (hP.sub (ws' := c1 G (a 16) (fN (V 1))) [5] rfl) rfl hl.1 rfl (Nat.le_of_ble_eq_true rfl) dX1_forget_30 ⟨Nat.le_refl _, Nat.le_refl _⟩ hS (fun q h => by rw [h]; simp [aS]) (fun v9 H9 locs hR9 hk9 hS => ?_)
  obtain ⟨rfl, hP1⟩ := hR9
  have hP := P_one (k := 5) hP hnd (AL := aS a) rfl rfl hk9 hP1
  clear hk9
  generalize H9 = H at hP hS ⊢
  refine W.eq (g2 := F0 m 33 ls []) rfl ?_
  have hP : va_P G.1 vwCl (cS G a q (fun _ => 0) (fun _ _ => 0) 0) H := hP
  exact z_vret hx hb hr hlocks ⟨rfl, hP⟩ hS dX1_forget_33

set_option maxHeartbeats 4000000 in
set_option maxRecDepth 100000 in
/-- Spread.reach -/
theorem c_reach (l : Launch) (G : Gd) (a p : Nat → Nat) (N : Nat → Nat → Int32) (B F : Nat → Nat → Option Nat) (L : List Pr) (hTI : TI p N B F L) (q r : Nat → Nat) (V : Nat → Nat → Nat) (n0 : Nat) (sl b : Nat) (hsl : sl < 300) (hrs : r sl < 2 ^ 31) (hlt : r sl = 0 → n0 < 300) (hnd : (aTS a).Nodup) : Mt l yX1_reach wsX1_reach 0 0 [.ref (a 11), .int (nI sl), .int (nI b)] G (cT G a p N B F L.length ++ cS G a q r V n0) (fun q => q ∈ aTS a) (fun x h => x = none ∧ ((r sl ≠ 0 ∧ va_P G.1 vwCl (cT G a p N B F L.length ++ cS G a q r V n0) h) ∨ (r sl = 0 ∧ va_P G.1 vwCl (cT G a p N B F L.length ++ cS G a (va_up q n0 sl) (va_up r sl b) V (n0 + 1)) h))) := by
  refine Mt.mk cX1_reach 3 none (by decide) rfl (Nat.le_of_ble_eq_true rfl) ?_
  intro p9 e s m below meth c ls hx hb hr hml hts hown hlocks hP hK hl
  have hinX1 : ∀ w ∈ wsX10, w ∈ wsX1_reach := by decide +kernel
  have hS : va_S (fun q => q ∈ aTS a) s.heap s.heap [] := va_S.rf
  have hl : lv_has ls 3 [(0, .ref (a 11)), (1, .int (nI sl)), (2, .int (nI b))] := hl
  have hown : s.vm.findClass RX1 = some m.cls := hown
  have hDD : ∀ ws : va_W, ws.map Prod.fst = aTS a → va_D (fun q => q ∈ aTS a) ws := D_of hnd (fun q h => h)
  refine lv_aload_n hx hb dX1_reach_0 rfl (lv_at hl 0 rfl) ?_
  refine va_get (D := G.1) (ci := 1) (v := .ref (a 13)) (C := RX1) (T := TX1) (N := 4) hx hb hts hinX1 hown hK.1 hP 11 rfl rfl 2 (by decide) (hts (.fieldLink RX1 15 "PairThreads$Spread" "rowTo" "[I") (by decide +kernel)) (fun _ h9 => h9) rfl dX1_reach_1 ?_
  refine lv_iload_n hx hb dX1_reach_4 rfl (lv_at hl 1 rfl) ?_
  refine z_ialdN hx hb hK hP 13 rfl (j := sl) (by omega) (by decide) dX1_reach_5 ?_
  refine z_if_ne (tgt := 36) hx hb (by omega) dX1_reach_6 (by decide) (fun hc1 => ?_) (fun hc1 => ?_)
  · exact z_vret hx hb hr hlocks ⟨rfl, Or.inl ⟨hc1, hP⟩⟩ hS dX1_reach_36
  · have hn0 := hlt hc1
    refine lv_aload_n hx hb dX1_reach_9 rfl (lv_at hl 0 rfl) ?_
    refine va_get (D := G.1) (ci := 1) (v := .ref (a 13)) (C := RX1) (T := TX1) (N := 4) hx hb hts hinX1 hown hK.1 hP 11 rfl rfl 2 (by decide) (hts (.fieldLink RX1 15 "PairThreads$Spread" "rowTo" "[I") (by decide +kernel)) (fun _ h9 => h9) rfl dX1_reach_10 ?_
    refine lv_iload_n hx hb dX1_reach_13 rfl (lv_at hl 1 rfl) ?_
    refine lv_iload_n hx hb dX1_reach_14 rfl (lv_at hl 2 rfl) ?_
    refine z_iastN hx hb hK hP (hDD _ rfl) hS 13 rfl (j := sl) (by omega) (by decide) dX1_reach_15 (fun H locs hP hS => ?_)
    have hP : va_P G.1 vwCl (cT G a p N B F L.length ++ cS G a q (va_up r sl b) V n0) H := hP
    refine lv_aload_n hx hb dX1_reach_16 rfl (lv_at hl 0 rfl) ?_
    refine va_get (D := G.1) (ci := 1) (v := .ref (a 12)) (C := RX1) (T := TX1) (N := 4) hx hb hts hinX1 hown hK.1 hP 11 rfl rfl 0 (by decide) (hts (.fieldLink RX1 9 "PairThreads$Spread" "reached" "[I") (by decide +kernel)) (fun _ h9 => h9) rfl dX1_reach_17 ?_
    refine lv_aload_n hx hb dX1_reach_20 rfl (lv_at hl 0 rfl) ?_
    refine va_get (D := G.1) (ci := 1) (v := .int (nI n0)) (C := RX1) (T := TX1) (N := 4) hx hb hts hinX1 hown hK.1 hP 11 rfl rfl 1 (by decide) (hts (.fieldLink RX1 27 "PairThreads$Spread" "found" "I") (by decide +kernel)) (fun _ h9 => h9) rfl dX1_reach_21 ?_
    refine lv_iload_n hx hb dX1_reach_24 rfl (lv_at hl 1 rfl) ?_
    refine z_iastN hx hb hK hP (hDD _ rfl) hS 12 rfl (j := n0) (by omega) (by decide) dX1_reach_25 (fun H locs hP hS => ?_)
    have hP : va_P G.1 vwCl (cT G a p N B F L.length ++ cS G a (va_up q n0 sl) (va_up r sl b) V n0) H := hP
    refine lv_aload_n hx hb dX1_reach_26 rfl (lv_at hl 0 rfl) ?_
    refine lv_dup hx hb dX1_reach_27 rfl ?_
    refine va_get (D := G.1) (ci := 1) (v := .int (nI n0)) (C := RX1) (T := TX1) (N := 4) hx hb hts hinX1 hown hK.1 hP 11 rfl rfl 1 (by decide) (hts (.fieldLink RX1 27 "PairThreads$Spread" "found" "I") (by decide +kernel)) (fun _ h9 => h9) rfl dX1_reach_28 ?_
    refine lv_iconst (v := nI 1) hx hb dX1_reach_31 rfl ?_
    refine lv_iadd hx hb dX1_reach_32 ?_
    refine z_top (y := nI (n0 + 1)) (nI_add _ _) ?_
    refine va_put (D := G.1) (ci := 1) (v := .int (nI (n0 + 1))) (ty := .int) (C := RX1) (T := TX1) (N := 4) hx hb hts hinX1 tyX1 tyX1_ok nmX1 hown hK.1 hP (hDD _ rfl) hS 11 rfl rfl 1 (by decide) (hts (.fieldLink RX1 27 "PairThreads$Spread" "found" "I") (by decide +kernel)) (fun _ h9 => h9) rfl (by decide +kernel) rfl rfl (Nat.le_of_ble_eq_true rfl) dX1_reach_33 (fun H locs hP _ hS => ?_)
    have hP : va_P G.1 vwCl (cT G a p N B F L.length ++ cS G a (va_up q n0 sl) (va_up r sl b) V (n0 + 1)) H := hP
    exact z_vret hx hb hr hlocks ⟨rfl, Or.inr ⟨hc1, hP⟩⟩ hS dX1_reach_36

set_option maxHeartbeats 4000000 in
set_option maxRecDepth 100000 in
/-- Spread.walk -/
theorem c_walk (l : Launch) (G : Gd) (a p : Nat → Nat) (N : Nat → Nat → Int32) (B F : Nat → Nat → Option Nat) (L : List Pr) (hTI : TI p N B F L) (q r : Nat → Nat) (V : Nat → Nat → Nat) (n0 : Nat) (g0 : Nat → Nat) (hg0 : ∀ i, i < n0 → q i = p (g0 i)) (S O : Nat → Prop) (s0 d i0 b : Nat) (hd : d < 2) (hi0 : i0 < L.length) (hb0 : 0 < b) (hbe : b ≤ n0 + 1) (hBJ : BJ (tch L) L.length 0 S O s0 n0 g0 (fun i => r (p i)) b) (hWK : WK p L r V) (hrc : ∀ x, x < L.length → key d L x = key d L i0 → rch (tch L) L.length S (b - 1) x) (hnd : (aTS a).Nodup) : Mt l yX1_walk wsX1_walk 1 24 [.ref (a 11), .ref (a 0), .int (nI d), .int (nI (p i0)), .int (nI b)] G (cT G a p N B F L.length ++ cS G a q r V n0) (fun q => q ∈ aTS a) (fun x h => x = none ∧ ∃ (q' r' : Nat → Nat) (V' : Nat → Nat → Nat) (n' : Nat) (g' : Nat → Nat), (∀ i, i < n' → q' i = p (g' i)) ∧ BJ (tch L) L.length 0 S O s0 n' g' (fun i => r' (p i)) b ∧ WK p L r' V' ∧ Ext L.length n0 g0 (fun i => r (p i)) n' g' (fun i => r' (p i)) ∧ (∀ j, j < L.length → key d L j = key d L i0 → r' (p j) ≠ 0) ∧ va_P G.1 vwCl (cT G a p N B F L.length ++ cS G a q' r' V' n') h) := by
  refine Mt.mk cX1_walk 7 none (by decide) rfl (Nat.le_of_ble_eq_true rfl) ?_
  intro p9 e s m below meth c ls hx hb hr hml hts hown hlocks hP hK hl
  have hinX1 : ∀ w ∈ wsX10, w ∈ wsX1_walk := by decide +kernel
  have hinX2 : ∀ w ∈ wsX20, w ∈ wsX1_walk := by decide +kernel
  have hS : va_S (fun q => q ∈ aTS a) s.heap s.heap [] := va_S.rf
  have hl : lv_has ls 7 [(0, .ref (a 11)), (1, .ref (a 0)), (2, .int (nI d)), (3, .int (nI (p i0))), (4, .int (nI b))] := hl
  have hown : s.vm.findClass RX1 = some m.cls := hown
  have hDD : ∀ ws : va_W, ws.map Prod.fst = aTS a → va_D (fun q => q ∈ aTS a) ws := D_of hnd (fun q h => h)
  obtain ⟨hp, hinj, hn, hk, hlk⟩ := id hTI
  have hF9 := lnkF_key hTI hd
  have hB9 := (hlk d hd).1
  have hpi := hp i0 (by omega)
  have hle := BJ_le hBJ
  have hV1 : V d (p i0) ≤ 1 := by rcases Nat.eq_zero_or_pos (V d (p i0)) with z | z; omega; have := (hWK d i0 hd hi0 (by omega)).1; omega
  refine lv_aload_n hx hb dX1_walk_0 rfl (lv_at hl 0 rfl) ?_
  refine va_get (D := G.1) (ci := 1) (v := .ref (a 14)) (C := RX1) (T := TX1) (N := 4) hx hb hts hinX1 hown hK.1 hP 11 rfl rfl 3 (by decide) (hts (.fieldLink RX1 20 "PairThreads$Spread" "walked" "[[I") (by decide +kernel)) (fun _ h9 => h9) rfl dX1_walk_1 ?_
  refine lv_iload_n hx hb dX1_walk_4 rfl (lv_at hl 2 rfl) ?_
  refine z_ald hx hb hK hP 14 rfl (j := d) (by omega) (by decide) dX1_walk_5 ?_
  refine lv_iload_n hx hb dX1_walk_6 rfl (lv_at hl 3 rfl) ?_
  refine z_ialdN hx hb hK hP (15 + d) (cS_V hd) (j := p i0) (by omega) (by decide) dX1_walk_7 ?_
  refine lv_iconst (v := nI 1) hx hb dX1_walk_8 rfl ?_
  refine z_icmp_ne (tgt := 13) hx hb (by omega) (by omega) dX1_walk_9 (by decide) (fun hc1 => ?_) (fun hc1 => ?_)
  · refine lv_aload_n hx hb dX1_walk_13 rfl (lv_at hl 1 rfl) ?_
    refine lv_iload_n hx hb dX1_walk_14 rfl (lv_at hl 2 rfl) ?_
    refine lv_iload_n hx hb dX1_walk_15 rfl (lv_at hl 3 rfl) ?_
    refine z_callV (rest := []) 2 ⟨hx, hb, hml, hown, hts⟩ hK (c_headOf l G a p N B F L.length d i0 hd hi0 hn hp hB9) gX1_walk_X2_headOf rfl (by decide +kernel) ⟨Nat.le_of_ble_eq_true rfl, Nat.le_of_ble_eq_true rfl⟩ (hP.sub (ws' := cT G a p N B F L.length ++ []) [0, 1, 2, 3, 4, 5, 6, 7, 8, 9, 10] rfl) 0 rfl rfl rfl rfl hl.1 rfl (Nat.le_of_ble_eq_true rfl) dX1_walk_16 ⟨Nat.le_refl _, Nat.le_refl _⟩ hS (fun _ h => h.elim) (fun v9 H9 locs hR9 hk9 hS => ?_)
    obtain ⟨h1, rfl, hh1, hh2, hh3⟩ := hR9
    have hP := P_keep0 hP hk9
    clear hk9
    generalize H9 = H at hP hS ⊢
    refine W.eq (g2 := F0 m 19 ls [.int (nI (p h1))]) rfl ?_
    rw [hk d h1 hd (by omega), hk d i0 hd hi0] at hh2
    have hh4 : ∀ j, j < h1 → ¬ key d L j = key d L i0 := fun j hj => by rw [← hk d j hd (by omega), ← hk d i0 hd hi0]; exact hh3 j hj
    have hst0 : stR (key d L) L.length (key d L i0) 0 (some h1) := Or.inr ⟨h1, rfl, by omega, hh2, (cnt_skip (Nat.zero_le h1) (fun j _ hj => hh4 j hj)).symm⟩
    refine z_top (y := lk (Option.map p (some h1))) (rfl) ?_
    refine lv_istore (lv' := [(5, .int (lk (Option.map p (some h1)))), (0, .ref (a 11)), (1, .ref (a 0)), (2, .int (nI d)), (3, .int (nI (p i0))), (4, .int (nI b))]) hx hb dX1_walk_19 hl (by decide) rfl (fun ls hl => ?_)
    refine lv_iconst (v := nI 0) hx hb dX1_walk_21 rfl ?_
    refine lv_istore (lv' := [(6, .int (nI 0)), (5, .int (lk (Option.map p (some h1)))), (0, .ref (a 11)), (1, .ref (a 0)), (2, .int (nI d)), (3, .int (nI (p i0))), (4, .int (nI b))]) hx hb dX1_walk_22 hl (by decide) rfl (fun ls hl => ?_)
    obtain ⟨q0, hq0⟩ : ∃ z, z = q := ⟨_, rfl⟩
    obtain ⟨r0, hr0⟩ : ∃ z, z = r := ⟨_, rfl⟩
    obtain ⟨m0, hm0⟩ : ∃ z, z = n0 := ⟨_, rfl⟩
    obtain ⟨G0, hG0⟩ : ∃ z, z = g0 := ⟨_, rfl⟩
    have loop : ∀ (k9 : Nat) (c1 : Nat) (o : Option Nat) (q : Nat → Nat) (r : Nat → Nat) (V : Nat → Nat → Nat) (n0 : Nat) (g0 : Nat → Nat) (H : Heap) (locs : List Loc) (ls : Array Slot), (L.length < c1 + k9) → (c1 ≤ L.length) → (stR (key d L) L.length (key d L i0) c1 o) → (∀ i, i < n0 → q i = p (g0 i)) → (b ≤ n0 + 1) → (BJ (tch L) L.length 0 S O s0 n0 g0 (fun i => r (p i)) b) → (Ext L.length m0 G0 (fun i => r0 (p i)) n0 g0 (fun i => r (p i))) → (∀ x, x < L.length → key d L x = key d L i0 → (∀ j, o = some j → x < j) → r (p x) ≠ 0) → (∀ d' i, d' < 2 → i < L.length → V d' (p i) ≠ 0 → V d' (p i) = 1 ∧ ((d' = d ∧ key d L i = key d L i0) ∨ ∀ j, j < L.length → key d' L j = key d' L i → r (p j) ≠ 0)) → va_P G.1 vwCl (cT G a p N B F L.length ++ cS G a q r V n0) H → va_S (fun q => q ∈ aTS a) s.heap H locs → lv_has ls 7 [(6, .int (nI c1)), (5, .int (lk (Option.map p o))), (0, .ref (a 11)), (1, .ref (a 0)), (2, .int (nI d)), (3, .int (nI (p i0))), (4, .int (nI b))] → Wz p9 l e 1 24 s m [.ref (a 11), .ref (a 0), .int (nI d), .int (nI (p i0)), .int (nI b)] below meth c (fun q => q ∈ aTS a) (fun x h => x = none ∧ ∃ (q' r' : Nat → Nat) (V' : Nat → Nat → Nat) (n' : Nat) (g' : Nat → Nat), (∀ i, i < n' → q' i = p (g' i)) ∧ BJ (tch L) L.length 0 S O s0 n' g' (fun i => r' (p i)) b ∧ WK p L r' V' ∧ Ext L.length m0 G0 (fun i => r0 (p i)) n' g' (fun i => r' (p i)) ∧ (∀ j, j < L.length → key d L j = key d L i0 → r' (p j) ≠ 0) ∧ va_P G.1 vwCl (cT G a p N B F L.length ++ cS G a q' r' V' n') h) H locs (F0 m 24 ls []) := by
      intro k9
      induction k9 with
      | zero =>
        intro c1 o q r V n0 g0 H locs ls hfuel hcn hst hg0 hbe hBJ hEx hbf hWK hP hS hl
        exact absurd hfuel (by omega)
      | succ k9 ih =>
        intro c1 o q r V n0 g0 H locs ls hfuel hcn hst hg0 hbe hBJ hEx hbf hWK hP hS hl
        refine lv_iload hx hb dX1_walk_24 (lv_at hl 0 rfl) ?_
        refine lv_aload_n hx hb dX1_walk_26 rfl (lv_at hl 3 rfl) ?_
        refine va_getN (D := G.1) (host := "PairThreads") (ci := 2) (v := .int (nI L.length)) (C := RX2) (T := TX2) (N := 5) hx hb hts hinX2 hown hK.1 hP 0 rfl rfl 4 (by decide) hK.2.nlX1_size (fun _ h9 => h9) rfl dX1_walk_27 ?_
        refine z_icmp_ge (tgt := 74) hx hb (by omega) (by omega) dX1_walk_30 (by decide) (fun hc2 => ?_) (fun hc2 => ?_)
        · have hon : o = none := by rcases hst with ⟨h, -⟩ | ⟨j, -, h2, -, h⟩; exact h; have := cnt_le (key d L) (key d L i0) j; omega
          have hall : ∀ x, x < L.length → key d L x = key d L i0 → r (p x) ≠ 0 := fun x hx9 hv => hbf x hx9 hv (fun j hj => by rw [hon] at hj; cases hj)
          exact z_vret hx hb hr hlocks ⟨rfl, q, r, V, n0, g0, hg0, hBJ, fun d' i h1 h2 h3 => ⟨(hWK d' i h1 h2 h3).1, by rcases (hWK d' i h1 h2 h3).2 with ⟨e1, e2⟩ | e1; subst e1; exact fun j hj he => hall j hj (he.trans e2); exact e1⟩, hEx, hall, hP⟩ hS dX1_walk_74
        · refine lv_iload hx hb dX1_walk_33 (lv_at hl 1 rfl) ?_
          refine lv_iconst (v := (-1)) hx hb dX1_walk_35 rfl ?_
          refine z_none_eq (tgt := 74) hx hb (fun k hk9 => by have := mp_lt hp hn (stR_lt hst) hk9; omega) dX1_walk_36 (by decide) (fun hc3 => ?_) (fun k hc3 => ?_)
          · have hon : o = none := by rcases hst with ⟨h, -⟩ | ⟨j, h1, -⟩; exact h; rw [h1] at hc3; cases hc3
            have hall : ∀ x, x < L.length → key d L x = key d L i0 → r (p x) ≠ 0 := fun x hx9 hv => hbf x hx9 hv (fun j hj => by rw [hon] at hj; cases hj)
            exact z_vret hx hb hr hlocks ⟨rfl, q, r, V, n0, g0, hg0, hBJ, fun d' i h1 h2 h3 => ⟨(hWK d' i h1 h2 h3).1, by rcases (hWK d' i h1 h2 h3).2 with ⟨e1, e2⟩ | e1; subst e1; exact fun j hj he => hall j hj (he.trans e2); exact e1⟩, hEx, hall, hP⟩ hS dX1_walk_74
          · rcases hst with ⟨h1, -⟩ | ⟨j, h1, h2, h3, h4⟩
            · rw [h1] at hc3; cases hc3
            · subst h1
              have hl : lv_has ls 7 [(6, .int (nI c1)), (5, .int (nI (p j))), (0, .ref (a 11)), (1, .ref (a 0)), (2, .int (nI d)), (3, .int (nI (p i0))), (4, .int (nI b))] := hl
              have hpj := hp j (by omega)
              have hrj := hBJ.2.2.1 j h2
              have hrj : r (p j) ≤ 300 := hrj
              obtain ⟨o2, ho2, hnx⟩ := hF9 j h2
              refine lv_aload_n hx hb dX1_walk_39 rfl (lv_at hl 2 rfl) ?_
              refine va_get (D := G.1) (ci := 1) (v := .ref (a 14)) (C := RX1) (T := TX1) (N := 4) hx hb hts hinX1 hown hK.1 hP 11 rfl rfl 3 (by decide) (hts (.fieldLink RX1 20 "PairThreads$Spread" "walked" "[[I") (by decide +kernel)) (fun _ h9 => h9) rfl dX1_walk_40 ?_
              refine lv_iload_n hx hb dX1_walk_43 rfl (lv_at hl 4 rfl) ?_
              refine z_ald hx hb hK hP 14 rfl (j := d) (by omega) (by decide) dX1_walk_44 ?_
              refine lv_iload hx hb dX1_walk_45 (lv_at hl 1 rfl) ?_
              refine lv_iconst (v := nI 1) hx hb dX1_walk_47 rfl ?_
              refine z_iastN hx hb hK hP (hDD _ rfl) hS (15 + d) (cS_V hd) (j := p j) (by omega) (by decide) dX1_walk_48 (fun H locs hP hS => ?_)
              rw [cS_sV hd] at hP
              refine lv_aload_n hx hb dX1_walk_49 rfl (lv_at hl 2 rfl) ?_
              refine lv_iload hx hb dX1_walk_50 (lv_at hl 1 rfl) ?_
              refine lv_iload hx hb dX1_walk_52 (lv_at hl 6 rfl) ?_
              obtain ⟨V1, eV1⟩ : ∃ z, z = va_up V d (va_up (V d) (p j) 1) := ⟨_, rfl⟩
              rw [← eV1] at hP
              refine z_callV (rest := []) 2 ⟨hx, hb, hml, hown, hts⟩ hK (c_reach l G a p N B F L hTI q r V1 n0 (p j) b hpj (by omega) (fun z => by have h9 := BJ_lt hBJ h2 z; omega) hnd) gX1_walk_X1_reach rfl (by decide +kernel) ⟨Nat.le_of_ble_eq_true rfl, Nat.le_of_ble_eq_true rfl⟩ hP 11 rfl rfl rfl rfl hl.1 rfl (Nat.le_of_ble_eq_true rfl) dX1_walk_54 ⟨Nat.le_refl _, Nat.le_refl _⟩ hS (fun _ h => h) (fun v9 H9 locs hR9 hk9 hS => ?_)
              obtain ⟨rfl, hP1⟩ := hR9
              have hP := hP1
              clear hk9
              generalize H9 = H at hP hS ⊢
              refine W.eq (g2 := F0 m 57 ls []) rfl ?_
              have hVj : ∀ d' i, d' < 2 → i < L.length → V1 d' (p i) ≠ 0 → V1 d' (p i) = 1 ∧ ((d' = d ∧ key d L i = key d L i0) ∨ V d' (p i) ≠ 0) := fun d' i a1 a2 a3 => by
                by_cases e1 : d' = d
                · subst e1; rw [eV1, up_s] at a3 ⊢
                  by_cases e2 : i = j
                  · subst e2; rw [up_s]; exact ⟨rfl, Or.inl ⟨rfl, h3⟩⟩
                  · have e3 : p i ≠ p j := fun z => e2 (hinj i j (by omega) (by omega) z)
                    rw [up_n e3] at a3 ⊢; exact ⟨(hWK d' i a1 a2 a3).1, Or.inr a3⟩
                · rw [eV1, up_n e1] at a3 ⊢; exact ⟨(hWK d' i a1 a2 a3).1, Or.inr a3⟩
              rcases hP with ⟨hr9, hP⟩ | ⟨hr9, hP⟩
              · have hmono : ∀ x, x < L.length → r (p x) ≠ 0 → r (p x) ≠ 0 := fun x _ h9 => h9
                have hvj : r (p j) ≠ 0 := hr9
                refine lv_aload_n hx hb dX1_walk_57 rfl (lv_at hl 3 rfl) ?_
                refine va_getN (D := G.1) (host := "PairThreads") (ci := 2) (v := .ref (a 4)) (C := RX2) (T := TX2) (N := 5) hx hb hts hinX2 hown hK.1 hP 0 rfl rfl 3 (by decide) hK.2.nlX1_after (fun _ h9 => h9) rfl dX1_walk_58 ?_
                refine lv_iload_n hx hb dX1_walk_61 rfl (lv_at hl 4 rfl) ?_
                refine z_ald hx hb hK hP 4 rfl (j := d) (by omega) (by decide) dX1_walk_62 ?_
                refine lv_iload hx hb dX1_walk_63 (lv_at hl 1 rfl) ?_
                refine z_ialdO hx hb hK hP (9 + d) (cT_F hd) (j := p j) (by omega) (by decide) dX1_walk_65 ?_
                refine z_top (y := lk (Option.map p o2)) (congrArg lk ho2) ?_
                refine lv_istore (lv' := [(5, .int (lk (Option.map p o2))), (6, .int (nI c1)), (0, .ref (a 11)), (1, .ref (a 0)), (2, .int (nI d)), (3, .int (nI (p i0))), (4, .int (nI b))]) hx hb dX1_walk_66 hl (by decide) rfl (fun ls hl => ?_)
                refine z_iinc (lv' := [(6, .int (nI (c1 + 1))), (5, .int (lk (Option.map p o2))), (0, .ref (a 11)), (1, .ref (a 0)), (2, .int (nI d)), (3, .int (nI (p i0))), (4, .int (nI b))]) hx hb dX1_walk_68 hl (k := 1) rfl (by decide) rfl (fun ls hl => ?_)
                refine lv_goto (tgt := 24) hx hb dX1_walk_71 (by decide) ?_
                exact ih (c1 + 1) o2 q r V1 n0 g0 H locs ls (by omega) (by have := cnt_le (key d L) (key d L i0) j; omega) (by rw [h4]; exact stR_next h2 h3 hnx) hg0 (by omega) hBJ hEx (fun x hx9 hv hbx => by by_cases e1 : x < j; exact hmono x hx9 (hbf x hx9 hv (fun j2 hj2 => by cases hj2; exact e1)); by_cases e2 : x = j; rw [e2]; exact hvj; rcases hnx with ⟨-, e3⟩ | ⟨j2, e4, e5, e6, e7, e8⟩; exact absurd (hv.trans h3.symm) (e3 x (by omega) hx9); exact absurd (hv.trans h3.symm) (e8 x (by omega) (hbx j2 e4))) (fun d' i a1 a2 a3 => ⟨(hVj d' i a1 a2 a3).1, by rcases (hVj d' i a1 a2 a3).2 with e1 | e1; exact Or.inl e1; rcases (hWK d' i a1 a2 e1).2 with e2 | e2; exact Or.inl e2; exact Or.inr (fun j9 h9 h8 => hmono j9 h9 (e2 j9 h9 h8))⟩) hP hS (lv_sub hl [0, 1, 2, 3, 4, 5, 6] rfl)
              · have hfu := far_up (r := r) (b := b) hinj hn h2
                have hBJ2 := BJ_to hfu (BJ_add hBJ h2 hr9 hb0 hbe (hrc j h2 h3))
                have hE2 : Ext L.length n0 g0 (fun i => r (p i)) (n0 + 1) (va_up g0 n0 j) (fun i => va_up r (p j) b (p i)) := Ext_to hfu (Ext_add hr9)
                have hmono : ∀ x, x < L.length → r (p x) ≠ 0 → (va_up r (p j) b) (p x) ≠ 0 := fun x _ h9 => by by_cases e1 : p x = p j; rw [e1, up_s]; omega; rw [up_n e1]; exact h9
                have hvj : (va_up r (p j) b) (p j) ≠ 0 := by rw [up_s]; omega
                refine lv_aload_n hx hb dX1_walk_57 rfl (lv_at hl 3 rfl) ?_
                refine va_getN (D := G.1) (host := "PairThreads") (ci := 2) (v := .ref (a 4)) (C := RX2) (T := TX2) (N := 5) hx hb hts hinX2 hown hK.1 hP 0 rfl rfl 3 (by decide) hK.2.nlX1_after (fun _ h9 => h9) rfl dX1_walk_58 ?_
                refine lv_iload_n hx hb dX1_walk_61 rfl (lv_at hl 4 rfl) ?_
                refine z_ald hx hb hK hP 4 rfl (j := d) (by omega) (by decide) dX1_walk_62 ?_
                refine lv_iload hx hb dX1_walk_63 (lv_at hl 1 rfl) ?_
                refine z_ialdO hx hb hK hP (9 + d) (cT_F hd) (j := p j) (by omega) (by decide) dX1_walk_65 ?_
                refine z_top (y := lk (Option.map p o2)) (congrArg lk ho2) ?_
                refine lv_istore (lv' := [(5, .int (lk (Option.map p o2))), (6, .int (nI c1)), (0, .ref (a 11)), (1, .ref (a 0)), (2, .int (nI d)), (3, .int (nI (p i0))), (4, .int (nI b))]) hx hb dX1_walk_66 hl (by decide) rfl (fun ls hl => ?_)
                refine z_iinc (lv' := [(6, .int (nI (c1 + 1))), (5, .int (lk (Option.map p o2))), (0, .ref (a 11)), (1, .ref (a 0)), (2, .int (nI d)), (3, .int (nI (p i0))), (4, .int (nI b))]) hx hb dX1_walk_68 hl (k := 1) rfl (by decide) rfl (fun ls hl => ?_)
                refine lv_goto (tgt := 24) hx hb dX1_walk_71 (by decide) ?_
                exact ih (c1 + 1) o2 (va_up q n0 (p j)) (va_up r (p j) b) V1 (n0 + 1) (va_up g0 n0 j) H locs ls (by omega) (by have := cnt_le (key d L) (key d L i0) j; omega) (by rw [h4]; exact stR_next h2 h3 hnx) (fun i hi => by rcases Nat.lt_succ_iff_lt_or_eq.mp hi with z | z; rw [up_n (by omega), up_n (by omega)]; exact hg0 i z; rw [z, up_s, up_s]) (by omega) hBJ2 (Ext_tr hEx hE2) (fun x hx9 hv hbx => by by_cases e1 : x < j; exact hmono x hx9 (hbf x hx9 hv (fun j2 hj2 => by cases hj2; exact e1)); by_cases e2 : x = j; rw [e2]; exact hvj; rcases hnx with ⟨-, e3⟩ | ⟨j2, e4, e5, e6, e7, e8⟩; exact absurd (hv.trans h3.symm) (e3 x (by omega) hx9); exact absurd (hv.trans h3.symm) (e8 x (by omega) (hbx j2 e4))) (fun d' i a1 a2 a3 => ⟨(hVj d' i a1 a2 a3).1, by rcases (hVj d' i a1 a2 a3).2 with e1 | e1; exact Or.inl e1; rcases (hWK d' i a1 a2 e1).2 with e2 | e2; exact Or.inl e2; exact Or.inr (fun j9 h9 h8 => hmono j9 h9 (e2 j9 h9 h8))⟩) hP hS (lv_sub hl [0, 1, 2, 3, 4, 5, 6] rfl)
    rw [hr0, hm0, hG0] at loop
    exact loop (L.length + 1) 0 (some h1) q r V n0 g0 _ _ ls (by omega) (by omega) hst0 hg0 hbe hBJ Ext_rf (fun x hx9 hv hbx => absurd hv (hh4 x (hbx h1 rfl))) (fun d' i a1 a2 a3 => ⟨(hWK d' i a1 a2 a3).1, Or.inr (hWK d' i a1 a2 a3).2⟩) hP hS (lv_sub hl [0, 1, 2, 3, 4, 5, 6] rfl)
  · exact z_vret hx hb hr hlocks ⟨rfl, q, r, V, n0, g0, hg0, hBJ, hWK, Ext_rf, (hWK d i0 hd hi0 (by omega)).2, hP⟩ hS dX1_walk_12

set_option maxHeartbeats 4000000 in
set_option maxRecDepth 100000 in
/-- Spread.spreadFrom -/
theorem c_spreadFrom (l : Launch) (G : Gd) (a p : Nat → Nat) (N : Nat → Nat → Int32) (B F : Nat → Nat → Option Nat) (L : List Pr) (hTI : TI p N B F L) (q r : Nat → Nat) (V : Nat → Nat → Nat) (n0 : Nat) (g0 : Nat → Nat) (hg0 : ∀ i, i < n0 → q i = p (g0 i)) (d i0 : Nat) (hd : d < 2) (hi0 : i0 < L.length) (hr0 : r (p i0) = 0) (hcz : n0 + 0 = cz (fun i => r (p i)) L.length) (hFB : ∀ x, x < L.length → r (p x) ≤ 300) (hcl : ∀ x y, x < L.length → y < L.length → r (p x) ≠ 0 → tch L x y → r (p y) ≠ 0) (hWK : WK p L r V) (hnd : (aTS a).Nodup) : Mt l yX1_spreadFrom wsX1_spreadFrom 2 50 [.ref (a 11), .ref (a 0), .int (nI d), .int (nI (p i0))] G (cT G a p N B F L.length ++ cS G a q r V n0) (fun q => q ∈ aTS a) (fun x h => x = none ∧ ∃ (q' r' : Nat → Nat) (V' : Nat → Nat → Nat) (n' : Nat) (g' : Nat → Nat), (∀ i, i < n' → q' i = p (g' i)) ∧ (∃ b', BJ (tch L) L.length 0 (fun x => key d L x = key d L i0) (fun x => r (p x) ≠ 0) n0 n' g' (fun i => r' (p i)) b') ∧ Pd (tch L) L.length n0 n' g' (fun i => r' (p i)) ∧ Ext L.length n0 g0 (fun i => r (p i)) n' g' (fun i => r' (p i)) ∧ WK p L r' V' ∧ (∀ x, x < L.length → key d L x = key d L i0 → r' (p x) ≠ 0 ∧ r' (p x) ≤ 1) ∧ va_P G.1 vwCl (cT G a p N B F L.length ++ cS G a q' r' V' n') h) := by
  refine Mt.mk cX1_spreadFrom 7 none (by decide) rfl (Nat.le_of_ble_eq_true rfl) ?_
  intro p9 e s m below meth c ls hx hb hr hml hts hown hlocks hP hK hl
  have hinX1 : ∀ w ∈ wsX10, w ∈ wsX1_spreadFrom := by decide +kernel
  have hS : va_S (fun q => q ∈ aTS a) s.heap s.heap [] := va_S.rf
  have hl : lv_has ls 7 [(0, .ref (a 11)), (1, .ref (a 0)), (2, .int (nI d)), (3, .int (nI (p i0)))] := hl
  have hown : s.vm.findClass RX1 = some m.cls := hown
  have hDD : ∀ ws : va_W, ws.map Prod.fst = aTS a → va_D (fun q => q ∈ aTS a) ws := D_of hnd (fun q h => h)
  obtain ⟨hp, hinj, hn, hk, hlk⟩ := id hTI
  have hpi := hp i0 (by omega)
  have hO0 : ∀ x, x < L.length → key d L x = key d L i0 → ¬ r (p x) ≠ 0 := fun x hx9 hv ho => hcl x i0 hx9 hi0 ho (tch_d hd hv) hr0
  have hB0 : BJ (tch L) L.length 0 (fun x => key d L x = key d L i0) (fun x => r (p x) ≠ 0) n0 n0 g0 (fun i => r (p i)) 1 := BJ_0 hn hFB hcz
  have hle0 := BJ_le hB0
  refine lv_aload_n hx hb dX1_spreadFrom_0 rfl (lv_at hl 0 rfl) ?_
  refine va_get (D := G.1) (ci := 1) (v := .int (nI n0)) (C := RX1) (T := TX1) (N := 4) hx hb hts hinX1 hown hK.1 hP 11 rfl rfl 1 (by decide) (hts (.fieldLink RX1 27 "PairThreads$Spread" "found" "I") (by decide +kernel)) (fun _ h9 => h9) rfl dX1_spreadFrom_1 ?_
  refine lv_istore (lv' := [(4, .int (nI n0)), (0, .ref (a 11)), (1, .ref (a 0)), (2, .int (nI d)), (3, .int (nI (p i0)))]) hx hb dX1_spreadFrom_4 hl (by decide) rfl (fun ls hl => ?_)
  refine lv_aload_n hx hb dX1_spreadFrom_6 rfl (lv_at hl 1 rfl) ?_
  refine lv_aload_n hx hb dX1_spreadFrom_7 rfl (lv_at hl 2 rfl) ?_
  refine lv_iload_n hx hb dX1_spreadFrom_8 rfl (lv_at hl 3 rfl) ?_
  refine lv_iload_n hx hb dX1_spreadFrom_9 rfl (lv_at hl 4 rfl) ?_
  refine lv_iconst (v := nI 1) hx hb dX1_spreadFrom_10 rfl ?_
  refine z_callV (rest := []) 4 ⟨hx, hb, hml, hown, hts⟩ hK (c_walk l G a p N B F L hTI q r V n0 g0 hg0 (fun x => key d L x = key d L i0) (fun x => r (p x) ≠ 0) n0 d i0 1 hd hi0 (by omega) (by omega) hB0 hWK (fun x hx9 hv => ⟨hx9, hv⟩) hnd) gX1_spreadFrom_X1_walk rfl (by decide +kernel) ⟨Nat.le_of_ble_eq_true rfl, Nat.le_of_ble_eq_true rfl⟩ hP 11 rfl rfl rfl rfl hl.1 rfl (Nat.le_of_ble_eq_true rfl) dX1_spreadFrom_11 ⟨Nat.le_refl _, Nat.le_refl _⟩ hS (fun _ h => h) (fun v9 H9 locs hR9 hk9 hS => ?_)
  obtain ⟨rfl, q1, r1, V1, n1, g1, hg1, hBJ1, hWK1, hEx1, hv1, hP⟩ := hR9
  clear hk9
  generalize H9 = H at hP hS ⊢
  refine W.eq (g2 := F0 m 14 ls []) rfl ?_
  have hF2 : ∀ x, x < L.length → key d L x = key d L i0 → r1 (p x) ≠ 0 ∧ r1 (p x) ≤ 1 := fun x hx9 hv => ⟨hv1 x hx9 hv, BJ_far (k := x) (far := fun i => r1 (p i)) hBJ1 hx9 (hv1 x hx9 hv) (hO0 x hx9 hv)⟩
  refine lv_iload hx hb dX1_spreadFrom_14 (lv_at hl 0 rfl) ?_
  refine lv_istore (lv' := [(5, .int (nI n0)), (4, .int (nI n0)), (0, .ref (a 11)), (1, .ref (a 0)), (2, .int (nI d)), (3, .int (nI (p i0)))]) hx hb dX1_spreadFrom_16 hl (by decide) rfl (fun ls hl => ?_)
  have loop : ∀ (k9 : Nat) (t : Nat) (q1 : Nat → Nat) (r1 : Nat → Nat) (V1 : Nat → Nat → Nat) (n1 : Nat) (g1 : Nat → Nat) (b1 : Nat) (H : Heap) (locs : List Loc) (ls : Array Slot), (L.length < t + k9 ∧ n1 ≤ L.length) → (n0 ≤ t ∧ t ≤ n1) → (∀ i, i < n1 → q1 i = p (g1 i)) → (BJ (tch L) L.length 0 (fun x => key d L x = key d L i0) (fun x => r (p x) ≠ 0) n0 n1 g1 (fun i => r1 (p i)) b1) → (t < n1 → b1 ≤ r1 (p (g1 t)) + 1) → (Pd (tch L) L.length n0 t g1 (fun i => r1 (p i))) → (Ext L.length n0 g0 (fun i => r (p i)) n1 g1 (fun i => r1 (p i))) → (WK p L r1 V1) → (∀ x, x < L.length → key d L x = key d L i0 → r1 (p x) ≠ 0 ∧ r1 (p x) ≤ 1) → va_P G.1 vwCl (cT G a p N B F L.length ++ cS G a q1 r1 V1 n1) H → va_S (fun q => q ∈ aTS a) s.heap H locs → lv_has ls 7 [(5, .int (nI t)), (4, .int (nI n0)), (0, .ref (a 11)), (1, .ref (a 0)), (2, .int (nI d)), (3, .int (nI (p i0)))] → Wz p9 l e 2 50 s m [.ref (a 11), .ref (a 0), .int (nI d), .int (nI (p i0))] below meth c (fun q => q ∈ aTS a) (fun x h => x = none ∧ ∃ (q' r' : Nat → Nat) (V' : Nat → Nat → Nat) (n' : Nat) (g' : Nat → Nat), (∀ i, i < n' → q' i = p (g' i)) ∧ (∃ b', BJ (tch L) L.length 0 (fun x => key d L x = key d L i0) (fun x => r (p x) ≠ 0) n0 n' g' (fun i => r' (p i)) b') ∧ Pd (tch L) L.length n0 n' g' (fun i => r' (p i)) ∧ Ext L.length n0 g0 (fun i => r (p i)) n' g' (fun i => r' (p i)) ∧ WK p L r' V' ∧ (∀ x, x < L.length → key d L x = key d L i0 → r' (p x) ≠ 0 ∧ r' (p x) ≤ 1) ∧ va_P G.1 vwCl (cT G a p N B F L.length ++ cS G a q' r' V' n') h) H locs (F0 m 18 ls []) := by
    intro k9
    induction k9 with
    | zero =>
      intro t q1 r1 V1 n1 g1 b1 H locs ls hfuel ht hg1 hBJ hb1 hPd hEx hWK1 hF2 hP hS hl
      exact absurd hfuel (by omega)
    | succ k9 ih =>
      intro t q1 r1 V1 n1 g1 b1 H locs ls hfuel ht hg1 hBJ hb1 hPd hEx hWK1 hF2 hP hS hl
      have hle := BJ_le hBJ
      refine lv_iload hx hb dX1_spreadFrom_18 (lv_at hl 0 rfl) ?_
      refine lv_aload_n hx hb dX1_spreadFrom_20 rfl (lv_at hl 2 rfl) ?_
      refine va_get (D := G.1) (ci := 1) (v := .int (nI n1)) (C := RX1) (T := TX1) (N := 4) hx hb hts hinX1 hown hK.1 hP 11 rfl rfl 1 (by decide) (hts (.fieldLink RX1 27 "PairThreads$Spread" "found" "I") (by decide +kernel)) (fun _ h9 => h9) rfl dX1_spreadFrom_21 ?_
      refine z_icmp_ge (tgt := 84) hx hb (by omega) (by omega) dX1_spreadFrom_24 (by decide) (fun hc1 => ?_) (fun hc1 => ?_)
      · have he : t = n1 := by omega
        subst he
        exact z_vret hx hb hr hlocks ⟨rfl, q1, r1, V1, t, g1, hg1, ⟨b1, hBJ⟩, hPd, hEx, hWK1, hF2, hP⟩ hS dX1_spreadFrom_84
      · refine lv_iload hx hb dX1_spreadFrom_27 (lv_at hl 0 rfl) ?_
        refine lv_sipush (v := nI 300) hx hb dX1_spreadFrom_29 (by decide) ?_
        refine z_icmp_ge (tgt := 84) hx hb (by omega) (by omega) dX1_spreadFrom_32 (by decide) (fun hc2 => ?_) (fun hc2 => ?_)
        · exact absurd hc2 (by omega)
        · obtain ⟨hq1, hq2, hq3, hq4⟩ := hBJ.1.2.2.1 t ht.1 (by omega)
          have hq2 : r1 (p (g1 t)) ≠ 0 := hq2
          have hJ : r1 (p (g1 t)) ≤ t + 1 := hBJ.2.1 t ht.1 (by omega)
          have hBJ := BJ_wk (hb1 (by omega)) hBJ
          obtain ⟨x, hxe⟩ : ∃ z, z = g1 t := ⟨_, rfl⟩
          obtain ⟨fr, hfr⟩ : ∃ z, z = r1 (p x) := ⟨_, rfl⟩
          rw [← hxe] at hq1 hq2 hq3 hJ hBJ
          rw [← hfr] at hBJ hJ hq2
          have hqt : q1 t = p x := by rw [hg1 t (by omega), hxe]
          have hpx := hp x (by omega)
          have hTx : ∀ e y, e < 2 → y < L.length → key e L y = key e L x → rch (tch L) L.length (fun x => key d L x = key d L i0) (fr + 1 - 1) y := fun e y he hy hv => by have h9 := BJ_nb hBJ ht.1 (by omega) hy (hxe ▸ tch_d he hv.symm); rw [← hxe] at h9; rw [hfr]; exact h9
          refine lv_aload_n hx hb dX1_spreadFrom_35 rfl (lv_at hl 2 rfl) ?_
          refine va_get (D := G.1) (ci := 1) (v := .ref (a 12)) (C := RX1) (T := TX1) (N := 4) hx hb hts hinX1 hown hK.1 hP 11 rfl rfl 0 (by decide) (hts (.fieldLink RX1 9 "PairThreads$Spread" "reached" "[I") (by decide +kernel)) (fun _ h9 => h9) rfl dX1_spreadFrom_36 ?_
          refine lv_iload hx hb dX1_spreadFrom_39 (lv_at hl 0 rfl) ?_
          refine z_ialdN hx hb hK hP 12 rfl (j := t) (by omega) (by decide) dX1_spreadFrom_41 ?_
          refine z_top (y := nI (p x)) (congrArg nI hqt) ?_
          refine lv_istore (lv' := [(6, .int (nI (p x))), (5, .int (nI t)), (4, .int (nI n0)), (0, .ref (a 11)), (1, .ref (a 0)), (2, .int (nI d)), (3, .int (nI (p i0)))]) hx hb dX1_spreadFrom_42 hl (by decide) rfl (fun ls hl => ?_)
          refine lv_aload_n hx hb dX1_spreadFrom_44 rfl (lv_at hl 3 rfl) ?_
          refine lv_aload_n hx hb dX1_spreadFrom_45 rfl (lv_at hl 4 rfl) ?_
          refine lv_iconst (v := nI 0) hx hb dX1_spreadFrom_46 rfl ?_
          refine lv_iload hx hb dX1_spreadFrom_47 (lv_at hl 0 rfl) ?_
          refine lv_aload_n hx hb dX1_spreadFrom_49 rfl (lv_at hl 3 rfl) ?_
          refine va_get (D := G.1) (ci := 1) (v := .ref (a 13)) (C := RX1) (T := TX1) (N := 4) hx hb hts hinX1 hown hK.1 hP 11 rfl rfl 2 (by decide) (hts (.fieldLink RX1 15 "PairThreads$Spread" "rowTo" "[I") (by decide +kernel)) (fun _ h9 => h9) rfl dX1_spreadFrom_50 ?_
          refine lv_iload hx hb dX1_spreadFrom_53 (lv_at hl 0 rfl) ?_
          refine z_ialdN hx hb hK hP 13 rfl (j := p x) (by omega) (by decide) dX1_spreadFrom_55 ?_
          refine z_top (y := nI fr) (congrArg nI hfr.symm) ?_
          refine lv_iconst (v := nI 1) hx hb dX1_spreadFrom_56 rfl ?_
          refine lv_iadd hx hb dX1_spreadFrom_57 ?_
          refine z_top (y := nI (fr + 1)) (nI_add _ _) ?_
          refine z_callV (rest := []) 4 ⟨hx, hb, hml, hown, hts⟩ hK (c_walk l G a p N B F L hTI q1 r1 V1 n1 g1 hg1 (fun x => key d L x = key d L i0) (fun x => r (p x) ≠ 0) n0 0 x (fr + 1) (by omega) hq1 (by omega) (by omega) hBJ hWK1 (fun y hy hv => hTx 0 y (by omega) hy hv) hnd) gX1_spreadFrom_X1_walk rfl (by decide +kernel) ⟨Nat.le_of_ble_eq_true rfl, Nat.le_of_ble_eq_true rfl⟩ hP 11 rfl rfl rfl rfl hl.1 rfl (Nat.le_of_ble_eq_true rfl) dX1_spreadFrom_58 ⟨Nat.le_refl _, Nat.le_refl _⟩ hS (fun _ h => h) (fun v9 H9 locs hR9 hk9 hS => ?_)
          obtain ⟨rfl, q2, r2, V2, n2, g2, hg2, hBJ2, hWK2, hEx2, hv2, hP⟩ := hR9
          clear hk9
          generalize H9 = H at hP hS ⊢
          refine W.eq (g2 := F0 m 61 ls []) rfl ?_
          have hn2 := hEx2.1
          have hfr2 : r2 (p x) = fr := by rw [hfr]; exact hEx2.2.2 x hq1 (by show r1 (p x) ≠ 0; omega)
          refine lv_aload_n hx hb dX1_spreadFrom_61 rfl (lv_at hl 3 rfl) ?_
          refine lv_aload_n hx hb dX1_spreadFrom_62 rfl (lv_at hl 4 rfl) ?_
          refine lv_iconst (v := nI 1) hx hb dX1_spreadFrom_63 rfl ?_
          refine lv_iload hx hb dX1_spreadFrom_64 (lv_at hl 0 rfl) ?_
          refine lv_aload_n hx hb dX1_spreadFrom_66 rfl (lv_at hl 3 rfl) ?_
          refine va_get (D := G.1) (ci := 1) (v := .ref (a 13)) (C := RX1) (T := TX1) (N := 4) hx hb hts hinX1 hown hK.1 hP 11 rfl rfl 2 (by decide) (hts (.fieldLink RX1 15 "PairThreads$Spread" "rowTo" "[I") (by decide +kernel)) (fun _ h9 => h9) rfl dX1_spreadFrom_67 ?_
          refine lv_iload hx hb dX1_spreadFrom_70 (lv_at hl 0 rfl) ?_
          refine z_ialdN hx hb hK hP 13 rfl (j := p x) (by omega) (by decide) dX1_spreadFrom_72 ?_
          refine z_top (y := nI fr) (congrArg nI hfr2) ?_
          refine lv_iconst (v := nI 1) hx hb dX1_spreadFrom_73 rfl ?_
          refine lv_iadd hx hb dX1_spreadFrom_74 ?_
          refine z_top (y := nI (fr + 1)) (nI_add _ _) ?_
          refine z_callV (rest := []) 4 ⟨hx, hb, hml, hown, hts⟩ hK (c_walk l G a p N B F L hTI q2 r2 V2 n2 g2 hg2 (fun x => key d L x = key d L i0) (fun x => r (p x) ≠ 0) n0 1 x (fr + 1) (by omega) hq1 (by omega) (by omega) hBJ2 hWK2 (fun y hy hv => hTx 1 y (by omega) hy hv) hnd) gX1_spreadFrom_X1_walk rfl (by decide +kernel) ⟨Nat.le_of_ble_eq_true rfl, Nat.le_of_ble_eq_true rfl⟩ hP 11 rfl rfl rfl rfl hl.1 rfl (Nat.le_of_ble_eq_true rfl) dX1_spreadFrom_75 ⟨Nat.le_refl _, Nat.le_refl _⟩ hS (fun _ h => h) (fun v9 H9 locs hR9 hk9 hS => ?_)
          obtain ⟨rfl, q3, r3, V3, n3, g3, hg3, hBJ3, hWK3, hEx3, hv3, hP⟩ := hR9
          clear hk9
          generalize H9 = H at hP hS ⊢
          refine W.eq (g2 := F0 m 78 ls []) rfl ?_
          have hn3 := hEx3.1
          have hE13 := Ext_tr hEx2 hEx3
          have hgt : g3 t = x := by rw [hE13.2.1 t (by omega), hxe]
          have hfr3 : r3 (p x) = fr := by rw [hfr]; exact hE13.2.2 x hq1 (by show r1 (p x) ≠ 0; omega)
          have hPd3 : Pd (tch L) L.length n0 (t + 1) g3 (fun i => r3 (p i)) := by
            have h9 := Pd_ext (show t ≤ n1 by omega) (fun i a1 a2 => ⟨(hBJ.1.2.2.1 i a1 a2).1, (hBJ.1.2.2.1 i a1 a2).2.1⟩) hPd hE13
            intro i a1 a2 y hy hT
            rcases Nat.lt_succ_iff_lt_or_eq.mp a2 with z | z
            · exact h9 i a1 z y hy hT
            · subst z; rw [hgt] at hT ⊢
              have hvy : r3 (p y) ≠ 0 := by
                rcases hT with h8 | h8
                · have h7 := hv2 y hy h8.symm
                  rw [show r3 (p y) = r2 (p y) from hEx3.2.2 y hy h7]; exact h7
                · exact hv3 y hy h8.symm
              refine ⟨hvy, ?_⟩
              have h6 := BJ_far hBJ3 hy hvy (fun ho => hq3 (hcl y x hy hq1 ho (tch_sym L _ _ hT)))
              show r3 (p y) ≤ r3 (p x) + 1
              rw [hfr3]; exact h6
          refine z_iinc (lv' := [(5, .int (nI (t + 1))), (6, .int (nI (p x))), (4, .int (nI n0)), (0, .ref (a 11)), (1, .ref (a 0)), (2, .int (nI d)), (3, .int (nI (p i0)))]) hx hb dX1_spreadFrom_78 hl (k := 1) rfl (by decide) rfl (fun ls hl => ?_)
          refine lv_goto (tgt := 18) hx hb dX1_spreadFrom_81 (by decide) ?_
          exact ih (t + 1) q3 r3 V3 n3 g3 (fr + 1) H locs ls ⟨by omega, BJ_le hBJ3⟩ ⟨by omega, by omega⟩ hg3 hBJ3 (fun h1 => by have h2 : r3 (p (g3 t)) ≤ r3 (p (g3 (t + 1))) := hBJ3.1.2.2.2.2.2.1 t (t + 1) ht.1 (by omega) h1; rw [hgt, hfr3] at h2; omega) hPd3 (Ext_tr hEx hE13) hWK3 (fun y hy hv => by have h9 := hF2 y hy hv; rw [show r3 (p y) = r1 (p y) from hE13.2.2 y hy h9.1]; exact h9) hP hS (lv_sub hl [0, 2, 3, 4, 5, 6] rfl)
  have hle1 := BJ_le hBJ1
  exact loop (L.length + 1) n0 q1 r1 V1 n1 g1 1 _ _ ls ⟨by omega, by omega⟩ ⟨by omega, hEx1.1⟩ hg1 hBJ1 (fun h => by have h9 : r1 (p (g1 n0)) ≠ 0 := (hBJ1.1.2.2.1 n0 (by omega) h).2.1; omega) (fun i a1 a2 => absurd a2 (by omega)) hEx1 hWK1 hF2 hP hS (lv_sub hl [0, 1, 2, 3, 4, 5] rfl)
