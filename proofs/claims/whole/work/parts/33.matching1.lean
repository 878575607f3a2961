set_option maxHeartbeats 4000000 in
set_option maxRecDepth 100000 in
/-- Matching.findHeads -/
theorem c_findHeads (l : Launch) (G : Gd) (a p : Nat → Nat) (N : Nat → Nat → Int32) (B F : Nat → Nat → Option Nat) (L : List Pr) (hTI : TI p N B F L) (Hd : Nat → Nat → Nat) (C : Nat → Nat → Option Nat) (w : Nat → Nat) (n0 : Nat) (cs : Nat → Option Nat) (sn : Nat → Nat) (d : Nat) (hd : d < 2) (hnd : (aTM a).Nodup) : Mt l yX0_findHeads wsX0_findHeads 0 0 [.ref (a 17), .ref (a 0), .int (nI d)] G (cT G a p N B F L.length ++ cM G a Hd C w n0 cs sn) (fun q => q ∈ aTM a) (fun x h => x = none ∧ ∃ Hd' : Nat → Nat → Nat, (∀ i, i < L.length → Hd' d (p i) = p (fh (key d L) i)) ∧ (∀ e9, e9 ≠ d → Hd' e9 = Hd e9) ∧ va_P G.1 vwCl (cT G a p N B F L.length ++ cM G a Hd' C w n0 cs sn) h) := by
  refine Mt.mk cX0_findHeads 6 none (by decide) rfl (Nat.le_of_ble_eq_true rfl) ?_
  intro p9 e s m below meth c ls hx hb hr hml hts hown hlocks hP hK hl
  have hinX0 : ∀ w ∈ wsX00, w ∈ wsX0_findHeads := by decide +kernel
  have hinX2 : ∀ w ∈ wsX20, w ∈ wsX0_findHeads := by decide +kernel
  have hS : va_S (fun q => q ∈ aTM a) s.heap s.heap [] := va_S.rf
  have hl : lv_has ls 6 [(0, .ref (a 17)), (1, .ref (a 0)), (2, .int (nI d))] := hl
  have hown : s.vm.findClass RX0 = some m.cls := hown
  have hDD : ∀ ws : va_W, ws.map Prod.fst = aTM a → va_D (fun q => q ∈ aTM a) ws := D_of hnd (fun q h => h)
  obtain ⟨hp, hinj, hn, hk, hlk⟩ := id hTI
  have hB9 := lnkB_key hTI hd
  obtain ⟨H0, hH0⟩ : ∃ z, z = Hd := ⟨_, rfl⟩
  refine lv_iconst (v := nI 0) hx hb dX0_findHeads_0 rfl ?_
  refine lv_istore_n (lv' := [(3, .int (nI 0)), (0, .ref (a 17)), (1, .ref (a 0)), (2, .int (nI d))]) hx hb dX0_findHeads_1 rfl hl (by decide) rfl (fun ls hl => ?_)
  have loop : ∀ (k9 : Nat) (i : Nat) (Hd : Nat → Nat → Nat) (H : Heap) (locs : List Loc) (ls : Array Slot), (L.length < i + k9) → (i ≤ L.length) → (∀ j, j < i → Hd d (p j) = p (fh (key d L) j)) → (∀ e9, e9 ≠ d → Hd e9 = H0 e9) → va_P G.1 vwCl (cT G a p N B F L.length ++ cM G a Hd C w n0 cs sn) H → va_S (fun q => q ∈ aTM a) s.heap H locs → lv_has ls 6 [(3, .int (nI i)), (0, .ref (a 17)), (1, .ref (a 0)), (2, .int (nI d))] → Wz p9 l e 0 0 s m [.ref (a 17), .ref (a 0), .int (nI d)] below meth c (fun q => q ∈ aTM a) (fun x h => x = none ∧ ∃ Hd' : Nat → Nat → Nat, (∀ i, i < L.length → Hd' d (p i) = p (fh (key d L) i)) ∧ (∀ e9, e9 ≠ d → Hd' e9 = H0 e9) ∧ va_P G.1 vwCl (cT G a p N B F L.length ++ cM G a Hd' C w n0 cs sn) h) H locs (F0 m 2 ls []) := by
    intro k9
    induction k9 with
    | zero =>
      intro i Hd H locs ls hfuel hi hv ho hP hS hl
      exact absurd hfuel (by omega)
    | succ k9 ih =>
      intro i Hd H locs ls hfuel hi hv ho hP hS hl
      refine lv_iload_n hx hb dX0_findHeads_2 rfl (lv_at hl 0 rfl) ?_
      refine lv_aload_n hx hb dX0_findHeads_3 rfl (lv_at hl 2 rfl) ?_
      refine va_getN (D := G.1) (host := "PairThreads") (ci := 2) (v := .int (nI L.length)) (C := RX2) (T := TX2) (N := 5) hx hb hts hinX2 hown hK.1 hP 0 rfl rfl 4 (by decide) hK.2.nlX0_size (fun _ h9 => h9) rfl dX0_findHeads_4 ?_
      refine z_icmp_ge (tgt := 64) hx hb (by omega) (by omega) dX0_findHeads_7 (by decide) (fun hc1 => ?_) (fun hc1 => ?_)
      · exact z_vret hx hb hr hlocks ⟨rfl, Hd, fun j hj => hv j (by omega), ho, hP⟩ hS dX0_findHeads_64
      · have hpi := hp i (by omega)
        obtain ⟨o, hob, hpr⟩ := hB9 i (by omega)
        refine lv_aload_n hx hb dX0_findHeads_10 rfl (lv_at hl 2 rfl) ?_
        refine va_getN (D := G.1) (host := "PairThreads") (ci := 2) (v := .ref (a 1)) (C := RX2) (T := TX2) (N := 5) hx hb hts hinX2 hown hK.1 hP 0 rfl rfl 0 (by decide) hK.2.nlX0_order (fun _ h9 => h9) rfl dX0_findHeads_11 ?_
        refine lv_iload_n hx hb dX0_findHeads_14 rfl (lv_at hl 0 rfl) ?_
        refine z_ialdN hx hb hK hP 1 rfl (j := i) (by omega) (by decide) dX0_findHeads_15 ?_
        refine lv_istore (lv' := [(4, .int (nI (p i))), (3, .int (nI i)), (0, .ref (a 17)), (1, .ref (a 0)), (2, .int (nI d))]) hx hb dX0_findHeads_16 hl (by decide) rfl (fun ls hl => ?_)
        refine lv_aload_n hx hb dX0_findHeads_18 rfl (lv_at hl 3 rfl) ?_
        refine va_getN (D := G.1) (host := "PairThreads") (ci := 2) (v := .ref (a 3)) (C := RX2) (T := TX2) (N := 5) hx hb hts hinX2 hown hK.1 hP 0 rfl rfl 2 (by decide) hK.2.nlX0_before (fun _ h9 => h9) rfl dX0_findHeads_19 ?_
        refine lv_iload_n hx hb dX0_findHeads_22 rfl (lv_at hl 4 rfl) ?_
        refine z_ald hx hb hK hP 3 rfl (j := d) (by omega) (by decide) dX0_findHeads_23 ?_
        refine lv_iload hx hb dX0_findHeads_24 (lv_at hl 0 rfl) ?_
        refine z_ialdO hx hb hK hP (7 + d) (cT_B hd) (j := p i) (by omega) (by decide) dX0_findHeads_26 ?_
        refine z_top (y := lk (Option.map p o)) (congrArg lk hob) ?_
        refine lv_istore (lv' := [(5, .int (lk (Option.map p o))), (4, .int (nI (p i))), (3, .int (nI i)), (0, .ref (a 17)), (1, .ref (a 0)), (2, .int (nI d))]) hx hb dX0_findHeads_27 hl (by decide) rfl (fun ls hl => ?_)
        refine lv_aload_n hx hb dX0_findHeads_29 rfl (lv_at hl 3 rfl) ?_
        refine va_get (D := G.1) (ci := 0) (v := .ref (a 18)) (C := RX0) (T := TX0) (N := 6) hx hb hts hinX0 hown hK.1 hP 11 rfl rfl 0 (by decide) (hts (.fieldLink RX0 11 "PairThreads$Matching" "head" "[[I") (by decide +kernel)) (fun _ h9 => h9) rfl dX0_findHeads_30 ?_
        refine lv_iload_n hx hb dX0_findHeads_33 rfl (lv_at hl 5 rfl) ?_
        refine z_ald hx hb hK hP 12 rfl (j := d) (by omega) (by decide) dX0_findHeads_34 ?_
        refine lv_iload hx hb dX0_findHeads_35 (lv_at hl 1 rfl) ?_
        refine lv_iload hx hb dX0_findHeads_37 (lv_at hl 0 rfl) ?_
        refine lv_iconst (v := (-1)) hx hb dX0_findHeads_39 rfl ?_
        refine z_none_ne (tgt := 48) hx hb (fun k9 hk9 => by have := mp_lt hp (show i ≤ 300 by omega) (prevR_lt hpr) hk9; omega) dX0_findHeads_40 (by decide) (fun k3 hc2 => ?_) (fun hc2 => ?_)
        · rcases hpr with ⟨e1, -⟩ | ⟨j3, e1, e2, e3, e4⟩
          · rw [e1] at hc2; cases hc2
          · subst e1
            have hl : lv_has ls 6 [(5, .int (nI (p j3))), (4, .int (nI (p i))), (3, .int (nI i)), (0, .ref (a 17)), (1, .ref (a 0)), (2, .int (nI d))] := hl
            have hpj := hp j3 (by omega)
            have hvj := hv j3 e2
            have hfl := hp (fh (key d L) j3) (by have := fh_le (key d L) j3; omega)
            refine lv_aload_n hx hb dX0_findHeads_48 rfl (lv_at hl 3 rfl) ?_
            refine va_get (D := G.1) (ci := 0) (v := .ref (a 18)) (C := RX0) (T := TX0) (N := 6) hx hb hts hinX0 hown hK.1 hP 11 rfl rfl 0 (by decide) (hts (.fieldLink RX0 11 "PairThreads$Matching" "head" "[[I") (by decide +kernel)) (fun _ h9 => h9) rfl dX0_findHeads_49 ?_
            refine lv_iload_n hx hb dX0_findHeads_52 rfl (lv_at hl 5 rfl) ?_
            refine z_ald hx hb hK hP 12 rfl (j := d) (by omega) (by decide) dX0_findHeads_53 ?_
            refine lv_iload hx hb dX0_findHeads_54 (lv_at hl 0 rfl) ?_
            refine z_ialdN hx hb hK hP (13 + d) (cM_H hd) (j := p j3) (by omega) (by decide) dX0_findHeads_56 ?_
            refine z_top (y := nI (p (fh (key d L) j3))) (congrArg nI hvj) ?_
            refine z_iastN hx hb hK hP (hDD _ rfl) hS (13 + d) (cM_H hd) (j := p i) (by omega) (by decide) dX0_findHeads_57 (fun H locs hP hS => ?_)
            rw [cM_sH hd] at hP
            refine z_iinc (lv' := [(3, .int (nI (i + 1))), (5, .int (nI (p j3))), (4, .int (nI (p i))), (0, .ref (a 17)), (1, .ref (a 0)), (2, .int (nI d))]) hx hb dX0_findHeads_58 hl (k := 2) rfl (by decide) rfl (fun ls hl => ?_)
            refine lv_goto (tgt := 2) hx hb dX0_findHeads_61 (by decide) ?_
            exact ih (i + 1) (va_up Hd d (va_up (Hd d) (p i) (p (fh (key d L) j3)))) H locs ls (by omega) (by omega) (fun j hj => by rw [up_s]; rcases Nat.lt_succ_iff_lt_or_eq.mp hj with z | z; rw [up_n (fun y => by have := hinj j i (by omega) (by omega) y; omega)]; exact hv j z; rw [z, up_s]; exact congrArg p (fh_eq e3)) (fun e9 he9 => by rw [up_n he9]; exact ho e9 he9) hP hS (lv_sub hl [0, 3, 4, 5] rfl)
        · have hfi : fh (key d L) i = i := by rcases hpr with ⟨-, e1⟩ | ⟨j3, e1, -⟩; exact (fh_un rfl e1).symm; rw [e1] at hc2; cases hc2
          refine lv_iload hx hb dX0_findHeads_43 (lv_at hl 1 rfl) ?_
          refine lv_goto (tgt := 57) hx hb dX0_findHeads_45 (by decide) ?_
          refine z_iastN hx hb hK hP (hDD _ rfl) hS (13 + d) (cM_H hd) (j := p i) (by omega) (by decide) dX0_findHeads_57 (fun H locs hP hS => ?_)
          rw [cM_sH hd] at hP
          refine z_iinc (lv' := [(3, .int (nI (i + 1))), (5, .int (lk (Option.map p o))), (4, .int (nI (p i))), (0, .ref (a 17)), (1, .ref (a 0)), (2, .int (nI d))]) hx hb dX0_findHeads_58 hl (k := 2) rfl (by decide) rfl (fun ls hl => ?_)
          refine lv_goto (tgt := 2) hx hb dX0_findHeads_61 (by decide) ?_
          exact ih (i + 1) (va_up Hd d (va_up (Hd d) (p i) (p i))) H locs ls (by omega) (by omega) (fun j hj => by rw [up_s]; rcases Nat.lt_succ_iff_lt_or_eq.mp hj with z | z; rw [up_n (fun y => by have := hinj j i (by omega) (by omega) y; omega)]; exact hv j z; rw [z, up_s]; exact congrArg p hfi.symm) (fun e9 he9 => by rw [up_n he9]; exact ho e9 he9) hP hS (lv_sub hl [0, 3, 4, 5] rfl)
  rw [hH0] at loop
  exact loop (L.length + 1) 0 Hd _ _ ls (by omega) (by omega) (fun j hj => absurd hj (Nat.not_lt_zero j)) (fun _ _ => rfl) hP hS (lv_sub hl [0, 1, 2, 3] rfl)

set_option maxHeartbeats 4000000 in
set_option maxRecDepth 100000 in
/-- Matching.chosenOf -/
theorem c_chosenOf (l : Launch) (G : Gd) (a p : Nat → Nat) (N : Nat → Nat → Int32) (B F : Nat → Nat → Option Nat) (L : List Pr) (hTI : TI p N B F L) (Hd : Nat → Nat → Nat) (C : Nat → Nat → Option Nat) (w : Nat → Nat) (n0 : Nat) (cs : Nat → Option Nat) (sn : Nat → Nat) (d sl : Nat) (hd : d < 2) (hsl : sl < 300) (hh : Hd d sl < 300) : Mt l yX0_chosenOf wsX0_chosenOf 0 0 [.ref (a 17), .int (nI d), .int (nI sl)] G (cT G a p N B F L.length ++ cM G a Hd C w n0 cs sn) (fun _ => False) (fun x _ => x = some (.int (lk (C d (Hd d sl))))) := by
  refine Mt.mk cX0_chosenOf 3 (some .int) (by decide) rfl (Nat.le_of_ble_eq_true rfl) ?_
  intro p9 e s m below meth c ls hx hb hr hml hts hown hlocks hP hK hl
  have hinX0 : ∀ w ∈ wsX00, w ∈ wsX0_chosenOf := by decide +kernel
  have hS : va_S (fun _ => False) s.heap s.heap [] := va_S.rf
  have hl : lv_has ls 3 [(0, .ref (a 17)), (1, .int (nI d)), (2, .int (nI sl))] := hl
  have hown : s.vm.findClass RX0 = some m.cls := hown
  refine lv_aload_n hx hb dX0_chosenOf_0 rfl (lv_at hl 0 rfl) ?_
  refine va_get (D := G.1) (ci := 0) (v := .ref (a 21)) (C := RX0) (T := TX0) (N := 6) hx hb hts hinX0 hown hK.1 hP 11 rfl rfl 1 (by decide) (hts (.fieldLink RX0 16 "PairThreads$Matching" "chosen" "[[I") (by decide +kernel)) (fun _ h9 => h9) rfl dX0_chosenOf_1 ?_
  refine lv_iload_n hx hb dX0_chosenOf_4 rfl (lv_at hl 1 rfl) ?_
  refine z_ald hx hb hK hP 15 rfl (j := d) (by omega) (by decide) dX0_chosenOf_5 ?_
  refine lv_aload_n hx hb dX0_chosenOf_6 rfl (lv_at hl 0 rfl) ?_
  refine va_get (D := G.1) (ci := 0) (v := .ref (a 18)) (C := RX0) (T := TX0) (N := 6) hx hb hts hinX0 hown hK.1 hP 11 rfl rfl 0 (by decide) (hts (.fieldLink RX0 11 "PairThreads$Matching" "head" "[[I") (by decide +kernel)) (fun _ h9 => h9) rfl dX0_chosenOf_7 ?_
  refine lv_iload_n hx hb dX0_chosenOf_10 rfl (lv_at hl 1 rfl) ?_
  refine z_ald hx hb hK hP 12 rfl (j := d) (by omega) (by decide) dX0_chosenOf_11 ?_
  refine lv_iload_n hx hb dX0_chosenOf_12 rfl (lv_at hl 2 rfl) ?_
  refine z_ialdN hx hb hK hP (13 + d) (cM_H hd) (j := sl) (by omega) (by decide) dX0_chosenOf_13 ?_
  refine z_ialdO hx hb hK hP (16 + d) (cM_C hd) (j := Hd d sl) (by omega) (by decide) dX0_chosenOf_14 ?_
  exact z_iret hx hb hr hlocks rfl hS dX0_chosenOf_15

set_option maxHeartbeats 4000000 in
set_option maxRecDepth 100000 in
/-- Matching.choose -/
theorem c_choose (l : Launch) (G : Gd) (a p : Nat → Nat) (N : Nat → Nat → Int32) (B F : Nat → Nat → Option Nat) (L : List Pr) (hTI : TI p N B F L) (Hd : Nat → Nat → Nat) (C : Nat → Nat → Option Nat) (w : Nat → Nat) (n0 : Nat) (cs : Nat → Option Nat) (sn : Nat → Nat) (sl : Nat) (hsl : sl < 300) (h0 : Hd 0 sl < 300) (h1 : Hd 1 sl < 300) (hnd : (aTM a).Nodup) : Mt l yX0_choose wsX0_choose 0 0 [.ref (a 17), .int (nI sl)] G (cT G a p N B F L.length ++ cM G a Hd C w n0 cs sn) (fun q => q ∈ aTM a) (fun x h => x = none ∧ va_P G.1 vwCl (cT G a p N B F L.length ++ cM G a Hd (chC Hd C sl) w n0 cs sn) h) := by
  refine Mt.mk cX0_choose 2 none (by decide) rfl (Nat.le_of_ble_eq_true rfl) ?_
  intro p9 e s m below meth c ls hx hb hr hml hts hown hlocks hP hK hl
  have hinX0 : ∀ w ∈ wsX00, w ∈ wsX0_choose := by decide +kernel
  have hS : va_S (fun q => q ∈ aTM a) s.heap s.heap [] := va_S.rf
  have hl : lv_has ls 2 [(0, .ref (a 17)), (1, .int (nI sl))] := hl
  have hown : s.vm.findClass RX0 = some m.cls := hown
  have hDD : ∀ ws : va_W, ws.map Prod.fst = aTM a → va_D (fun q => q ∈ aTM a) ws := D_of hnd (fun q h => h)
  refine lv_aload_n hx hb dX0_choose_0 rfl (lv_at hl 0 rfl) ?_
  refine va_get (D := G.1) (ci := 0) (v := .ref (a 21)) (C := RX0) (T := TX0) (N := 6) hx hb hts hinX0 hown hK.1 hP 11 rfl rfl 1 (by decide) (hts (.fieldLink RX0 16 "PairThreads$Matching" "chosen" "[[I") (by decide +kernel)) (fun _ h9 => h9) rfl dX0_choose_1 ?_
  refine lv_iconst (v := nI 0) hx hb dX0_choose_4 rfl ?_
  refine z_ald hx hb hK hP 15 rfl (j := 0) (by omega) (by decide) dX0_choose_5 ?_
  refine lv_aload_n hx hb dX0_choose_6 rfl (lv_at hl 0 rfl) ?_
  refine va_get (D := G.1) (ci := 0) (v := .ref (a 18)) (C := RX0) (T := TX0) (N := 6) hx hb hts hinX0 hown hK.1 hP 11 rfl rfl 0 (by decide) (hts (.fieldLink RX0 11 "PairThreads$Matching" "head" "[[I") (by decide +kernel)) (fun _ h9 => h9) rfl dX0_choose_7 ?_
  refine lv_iconst (v := nI 0) hx hb dX0_choose_10 rfl ?_
  refine z_ald hx hb hK hP 12 rfl (j := 0) (by omega) (by decide) dX0_choose_11 ?_
  refine lv_iload_n hx hb dX0_choose_12 rfl (lv_at hl 1 rfl) ?_
  refine z_ialdN hx hb hK hP 13 rfl (j := sl) (by omega) (by decide) dX0_choose_13 ?_
  refine lv_iload_n hx hb dX0_choose_14 rfl (lv_at hl 1 rfl) ?_
  refine z_top (y := lk (some sl)) (rfl) ?_
  refine z_iastO hx hb hK hP (hDD _ rfl) hS 16 rfl (j := Hd 0 sl) (by omega) (by decide) dX0_choose_15 (fun H locs hP hS => ?_)
  have hP : va_P G.1 vwCl (cT G a p N B F L.length ++ cM G a Hd (va_up C 0 (va_up (C 0) (Hd 0 sl) (some sl))) w n0 cs sn) H := hP
  refine lv_aload_n hx hb dX0_choose_16 rfl (lv_at hl 0 rfl) ?_
  refine va_get (D := G.1) (ci := 0) (v := .ref (a 21)) (C := RX0) (T := TX0) (N := 6) hx hb hts hinX0 hown hK.1 hP 11 rfl rfl 1 (by decide) (hts (.fieldLink RX0 16 "PairThreads$Matching" "chosen" "[[I") (by decide +kernel)) (fun _ h9 => h9) rfl dX0_choose_17 ?_
  refine lv_iconst (v := nI 1) hx hb dX0_choose_20 rfl ?_
  refine z_ald hx hb hK hP 15 rfl (j := 1) (by omega) (by decide) dX0_choose_21 ?_
  refine lv_aload_n hx hb dX0_choose_22 rfl (lv_at hl 0 rfl) ?_
  refine va_get (D := G.1) (ci := 0) (v := .ref (a 18)) (C := RX0) (T := TX0) (N := 6) hx hb hts hinX0 hown hK.1 hP 11 rfl rfl 0 (by decide) (hts (.fieldLink RX0 11 "PairThreads$Matching" "head" "[[I") (by decide +kernel)) (fun _ h9 => h9) rfl dX0_choose_23 ?_
  refine lv_iconst (v := nI 1) hx hb dX0_choose_26 rfl ?_
  refine z_ald hx hb hK hP 12 rfl (j := 1) (by omega) (by decide) dX0_choose_27 ?_
  refine lv_iload_n hx hb dX0_choose_28 rfl (lv_at hl 1 rfl) ?_
  refine z_ialdN hx hb hK hP 14 rfl (j := sl) (by omega) (by decide) dX0_choose_29 ?_
  refine lv_iload_n hx hb dX0_choose_30 rfl (lv_at hl 1 rfl) ?_
  refine z_top (y := lk (some sl)) (rfl) ?_
  refine z_iastO hx hb hK hP (hDD _ rfl) hS 17 rfl (j := Hd 1 sl) (by omega) (by decide) dX0_choose_31 (fun H locs hP hS => ?_)
  have hP : va_P G.1 vwCl (cT G a p N B F L.length ++ cM G a Hd (va_up (va_up C 0 (va_up (C 0) (Hd 0 sl) (some sl))) 1 (va_up ((va_up C 0 (va_up (C 0) (Hd 0 sl) (some sl))) 1) (Hd 1 sl) (some sl))) w n0 cs sn) H := hP
  exact z_vret hx hb hr hlocks ⟨rfl, hP⟩ hS dX0_choose_32

set_option maxHeartbeats 4000000 in
set_option maxRecDepth 100000 in
/-- Matching.await -/
theorem c_await (l : Launch) (G : Gd) (a p : Nat → Nat) (N : Nat → Nat → Int32) (B F : Nat → Nat → Option Nat) (L : List Pr) (hTI : TI p N B F L) (Hd : Nat → Nat → Nat) (C : Nat → Nat → Option Nat) (w : Nat → Nat) (n0 : Nat) (cs : Nat → Option Nat) (sn : Nat → Nat) (sl : Nat) (o : Option Nat) (hsl : sl < 300) (hn0 : n0 < 300) (hnd : (aTM a).Nodup) : Mt l yX0_await wsX0_await 0 0 [.ref (a 17), .int (nI sl), .int (lk o)] G (cT G a p N B F L.length ++ cM G a Hd C w n0 cs sn) (fun q => q ∈ aTM a) (fun x h => x = none ∧ va_P G.1 vwCl (cT G a p N B F L.length ++ cM G a Hd C (va_up w n0 sl) (n0 + 1) (va_up cs sl o) sn) h) := by
  refine Mt.mk cX0_await 3 none (by decide) rfl (Nat.le_of_ble_eq_true rfl) ?_
  intro p9 e s m below meth c ls hx hb hr hml hts hown hlocks hP hK hl
  have hinX0 : ∀ w ∈ wsX00, w ∈ wsX0_await := by decide +kernel
  have hS : va_S (fun q => q ∈ aTM a) s.heap s.heap [] := va_S.rf
  have hl : lv_has ls 3 [(0, .ref (a 17)), (1, .int (nI sl)), (2, .int (lk o))] := hl
  have hown : s.vm.findClass RX0 = some m.cls := hown
  have hDD : ∀ ws : va_W, ws.map Prod.fst = aTM a → va_D (fun q => q ∈ aTM a) ws := D_of hnd (fun q h => h)
  refine lv_aload_n hx hb dX0_await_0 rfl (lv_at hl 0 rfl) ?_
  refine va_get (D := G.1) (ci := 0) (v := .ref (a 25)) (C := RX0) (T := TX0) (N := 6) hx hb hts hinX0 hown hK.1 hP 11 rfl rfl 4 (by decide) (hts (.fieldLink RX0 23 "PairThreads$Matching" "cause" "[I") (by decide +kernel)) (fun _ h9 => h9) rfl dX0_await_1 ?_
  refine lv_iload_n hx hb dX0_await_4 rfl (lv_at hl 1 rfl) ?_
  refine lv_iload_n hx hb dX0_await_5 rfl (lv_at hl 2 rfl) ?_
  refine z_iastO hx hb hK hP (hDD _ rfl) hS 19 rfl (j := sl) (by omega) (by decide) dX0_await_6 (fun H locs hP hS => ?_)
  have hP : va_P G.1 vwCl (cT G a p N B F L.length ++ cM G a Hd C w n0 (va_up cs sl o) sn) H := hP
  refine lv_aload_n hx hb dX0_await_7 rfl (lv_at hl 0 rfl) ?_
  refine va_get (D := G.1) (ci := 0) (v := .ref (a 24)) (C := RX0) (T := TX0) (N := 6) hx hb hts hinX0 hown hK.1 hP 11 rfl rfl 2 (by decide) (hts (.fieldLink RX0 19 "PairThreads$Matching" "waiting" "[I") (by decide +kernel)) (fun _ h9 => h9) rfl dX0_await_8 ?_
  refine lv_aload_n hx hb dX0_await_11 rfl (lv_at hl 0 rfl) ?_
  refine va_get (D := G.1) (ci := 0) (v := .int (nI n0)) (C := RX0) (T := TX0) (N := 6) hx hb hts hinX0 hown hK.1 hP 11 rfl rfl 3 (by decide) (hts (.fieldLink RX0 71 "PairThreads$Matching" "found" "I") (by decide +kernel)) (fun _ h9 => h9) rfl dX0_await_12 ?_
  refine lv_iload_n hx hb dX0_await_15 rfl (lv_at hl 1 rfl) ?_
  refine z_iastN hx hb hK hP (hDD _ rfl) hS 18 rfl (j := n0) (by omega) (by decide) dX0_await_16 (fun H locs hP hS => ?_)
  have hP : va_P G.1 vwCl (cT G a p N B F L.length ++ cM G a Hd C (va_up w n0 sl) n0 (va_up cs sl o) sn) H := hP
  refine lv_aload_n hx hb dX0_await_17 rfl (lv_at hl 0 rfl) ?_
  refine lv_dup hx hb dX0_await_18 rfl ?_
  refine va_get (D := G.1) (ci := 0) (v := .int (nI n0)) (C := RX0) (T := TX0) (N := 6) hx hb hts hinX0 hown hK.1 hP 11 rfl rfl 3 (by decide) (hts (.fieldLink RX0 71 "PairThreads$Matching" "found" "I") (by decide +kernel)) (fun _ h9 => h9) rfl dX0_await_19 ?_
  refine lv_iconst (v := nI 1) hx hb dX0_await_22 rfl ?_
  refine lv_iadd hx hb dX0_await_23 ?_
  refine z_top (y := nI (n0 + 1)) (nI_add _ _) ?_
  refine va_put (D := G.1) (ci := 0) (v := .int (nI (n0 + 1))) (ty := .int) (C := RX0) (T := TX0) (N := 6) hx hb hts hinX0 tyX0 tyX0_ok nmX0 hown hK.1 hP (hDD _ rfl) hS 11 rfl rfl 3 (by decide) (hts (.fieldLink RX0 71 "PairThreads$Matching" "found" "I") (by decide +kernel)) (fun _ h9 => h9) rfl (by decide +kernel) rfl rfl (Nat.le_of_ble_eq_true rfl) dX0_await_24 (fun H locs hP _ hS => ?_)
  have hP : va_P G.1 vwCl (cT G a p N B F L.length ++ cM G a Hd C (va_up w n0 sl) (n0 + 1) (va_up cs sl o) sn) H := hP
  exact z_vret hx hb hr hlocks ⟨rfl, hP⟩ hS dX0_await_27

set_option maxHeartbeats 4000000 in
set_option maxRecDepth 100000 in
/-- Matching.takeFree -/
theorem c_takeFree (l : Launch) (G : Gd) (a p : Nat → Nat) (N : Nat → Nat → Int32) (B F : Nat → Nat → Option Nat) (L : List Pr) (hTI : TI p N B F L) (Hd : Nat → Nat → Nat) (C : Nat → Nat → Option Nat) (w : Nat → Nat) (n0 : Nat) (cs : Nat → Option Nat) (sn : Nat → Nat) (hH : ∀ d i, d < 2 → i < L.length → Hd d (p i) = p (fh (key d L) i)) (hnd : (aTM a).Nodup) : Mt l yX0_takeFree wsX0_takeFree 1 23 [.ref (a 17), .ref (a 0)] G (cT G a p N B F L.length ++ cM G a Hd C w n0 cs sn) (fun q => q ∈ aTM a) (fun x h => ∃ (C' : Nat → Nat → Option Nat) (c0 c1 : Nat → Option Nat), x = some (.int (nI (cz (fun r => om (c1 r)) L.length))) ∧ CO p L.length C' c0 c1 ∧ MJ L c0 c1 ∧ va_P G.1 vwCl (cT G a p N B F L.length ++ cM G a Hd C' w n0 cs sn) h) := by
  refine Mt.mk cX0_takeFree 5 (some .int) (by decide) rfl (Nat.le_of_ble_eq_true rfl) ?_
  intro p9 e s m below meth c ls hx hb hr hml hts hown hlocks hP hK hl
  have hinX0 : ∀ w ∈ wsX00, w ∈ wsX0_takeFree := by decide +kernel
  have hinX2 : ∀ w ∈ wsX20, w ∈ wsX0_takeFree := by decide +kernel
  have hS : va_S (fun q => q ∈ aTM a) s.heap s.heap [] := va_S.rf
  have hl : lv_has ls 5 [(0, .ref (a 17)), (1, .ref (a 0))] := hl
  have hown : s.vm.findClass RX0 = some m.cls := hown
  have hDD : ∀ ws : va_W, ws.map Prod.fst = aTM a → va_D (fun q => q ∈ aTM a) ws := D_of hnd (fun q h => h)
  obtain ⟨hp, hinj, hn, hk, hlk⟩ := id hTI
  refine lv_iconst (v := nI 0) hx hb dX0_takeFree_0 rfl ?_
  refine lv_istore_n (lv' := [(2, .int (nI 0)), (0, .ref (a 17)), (1, .ref (a 0))]) hx hb dX0_takeFree_1 rfl hl (by decide) rfl (fun ls hl => ?_)
  refine lv_aload_n hx hb dX0_takeFree_2 rfl (lv_at hl 1 rfl) ?_
  refine va_get (D := G.1) (ci := 0) (v := .ref (a 21)) (C := RX0) (T := TX0) (N := 6) hx hb hts hinX0 hown hK.1 hP 11 rfl rfl 1 (by decide) (hts (.fieldLink RX0 16 "PairThreads$Matching" "chosen" "[[I") (by decide +kernel)) (fun _ h9 => h9) rfl dX0_takeFree_3 ?_
  refine lv_iconst (v := nI 0) hx hb dX0_takeFree_6 rfl ?_
  refine z_ald hx hb hK hP 15 rfl (j := 0) (by omega) (by decide) dX0_takeFree_7 ?_
  refine lv_iconst (v := (-1)) hx hb dX0_takeFree_8 rfl ?_
  refine z_callS (rest := []) 2 ⟨hx, hb, hml, hown, hts⟩ hK (c_fill l G (a 22) (fO (C 0)) (-1)) gX0_takeFree_J7_fill_53178 rfl (by decide +kernel) ⟨Nat.le_of_ble_eq_true rfl, Nat.le_of_ble_eq_true rfl⟩ (hP.sub (ws' := c1 G (a 22) (fO (C 0))) [16] rfl) rfl hl.1 rfl (Nat.le_of_ble_eq_true rfl) dX0_takeFree_9 ⟨Nat.le_refl _, Nat.le_refl _⟩ hS (fun q h => by rw [h]; simp [aTM, aM]) (fun v9 H9 locs hR9 hk9 hS => ?_)
  obtain ⟨rfl, hP1⟩ := hR9
  have hP := P_one (k := 16) hP hnd (AL := aTM a) rfl rfl hk9 hP1
  clear hk9
  generalize H9 = H at hP hS ⊢
  refine W.eq (g2 := F0 m 12 ls []) rfl ?_
  have hP : va_P G.1 vwCl (cT G a p N B F L.length ++ cM G a Hd (va_up C 0 (fun _ => none)) w n0 cs sn) H := hP
  refine lv_aload_n hx hb dX0_takeFree_12 rfl (lv_at hl 1 rfl) ?_
  refine va_get (D := G.1) (ci := 0) (v := .ref (a 21)) (C := RX0) (T := TX0) (N := 6) hx hb hts hinX0 hown hK.1 hP 11 rfl rfl 1 (by decide) (hts (.fieldLink RX0 16 "PairThreads$Matching" "chosen" "[[I") (by decide +kernel)) (fun _ h9 => h9) rfl dX0_takeFree_13 ?_
  refine lv_iconst (v := nI 1) hx hb dX0_takeFree_16 rfl ?_
  refine z_ald hx hb hK hP 15 rfl (j := 1) (by omega) (by decide) dX0_takeFree_17 ?_
  refine lv_iconst (v := (-1)) hx hb dX0_takeFree_18 rfl ?_
  refine z_callS (rest := []) 2 ⟨hx, hb, hml, hown, hts⟩ hK (c_fill l G (a 23) (fO (C 1)) (-1)) gX0_takeFree_J7_fill_53178 rfl (by decide +kernel) ⟨Nat.le_of_ble_eq_true rfl, Nat.le_of_ble_eq_true rfl⟩ (hP.sub (ws' := c1 G (a 23) (fO (C 1))) [17] rfl) rfl hl.1 rfl (Nat.le_of_ble_eq_true rfl) dX0_takeFree_19 ⟨Nat.le_refl _, Nat.le_refl _⟩ hS (fun q h => by rw [h]; simp [aTM, aM]) (fun v9 H9 locs hR9 hk9 hS => ?_)
  obtain ⟨rfl, hP1⟩ := hR9
  have hP := P_one (k := 17) hP hnd (AL := aTM a) rfl rfl hk9 hP1
  clear hk9
  generalize H9 = H at hP hS ⊢
  refine W.eq (g2 := F0 m 22 ls []) rfl ?_
  have hP : va_P G.1 vwCl (cT G a p N B F L.length ++ cM G a Hd (fun _ _ => none) w n0 cs sn) H := hP
  refine lv_iconst (v := nI 0) hx hb dX0_takeFree_22 rfl ?_
  refine lv_istore_n (lv' := [(3, .int (nI 0)), (2, .int (nI 0)), (0, .ref (a 17)), (1, .ref (a 0))]) hx hb dX0_takeFree_23 rfl hl (by decide) rfl (fun ls hl => ?_)
  have loop : ∀ (k9 : Nat) (i : Nat) (C : Nat → Nat → Option Nat) (c0 : Nat → Option Nat) (c1 : Nat → Option Nat) (H : Heap) (locs : List Loc) (ls : Array Slot), (L.length < i + k9) → (i ≤ L.length) → (CO p L.length C c0 c1) → (MJ L c0 c1) → va_P G.1 vwCl (cT G a p N B F L.length ++ cM G a Hd C w n0 cs sn) H → va_S (fun q => q ∈ aTM a) s.heap H locs → lv_has ls 5 [(3, .int (nI i)), (2, .int (nI (cz (fun r => om (c1 r)) L.length))), (0, .ref (a 17)), (1, .ref (a 0))] → Wz p9 l e 1 23 s m [.ref (a 17), .ref (a 0)] below meth c (fun q => q ∈ aTM a) (fun x h => ∃ (C' : Nat → Nat → Option Nat) (c0 c1 : Nat → Option Nat), x = some (.int (nI (cz (fun r => om (c1 r)) L.length))) ∧ CO p L.length C' c0 c1 ∧ MJ L c0 c1 ∧ va_P G.1 vwCl (cT G a p N B F L.length ++ cM G a Hd C' w n0 cs sn) h) H locs (F0 m 24 ls []) := by
    intro k9
    induction k9 with
    | zero =>
      intro i C c0 c1 H locs ls hfuel hi hCO hMJ hP hS hl
      exact absurd hfuel (by omega)
    | succ k9 ih =>
      intro i C c0 c1 H locs ls hfuel hi hCO hMJ hP hS hl
      refine lv_iload_n hx hb dX0_takeFree_24 rfl (lv_at hl 0 rfl) ?_
      refine lv_aload_n hx hb dX0_takeFree_25 rfl (lv_at hl 3 rfl) ?_
      refine va_getN (D := G.1) (host := "PairThreads") (ci := 2) (v := .int (nI L.length)) (C := RX2) (T := TX2) (N := 5) hx hb hts hinX2 hown hK.1 hP 0 rfl rfl 4 (by decide) hK.2.nlX0_size (fun _ h9 => h9) rfl dX0_takeFree_26 ?_
      refine z_icmp_ge (tgt := 77) hx hb (by omega) (by omega) dX0_takeFree_29 (by decide) (fun hc1 => ?_) (fun hc1 => ?_)
      · refine lv_iload_n hx hb dX0_takeFree_77 rfl (lv_at hl 1 rfl) ?_
        exact z_iret hx hb hr hlocks ⟨C, c0, c1, rfl, hCO, hMJ, hP⟩ hS dX0_takeFree_78
      · have hpi := hp i (by omega)
        have hf0 : fh (key 0 L) i < L.length := (Nat.lt_of_le_of_lt (fh_le (key 0 L) i) (by omega))
        have hf1 : fh (key 1 L) i < L.length := (Nat.lt_of_le_of_lt (fh_le (key 1 L) i) (by omega))
        have hpf0 := hp (fh (key 0 L) i) (by omega)
        have hpf1 := hp (fh (key 1 L) i) (by omega)
        have hh0 := hH 0 i (by omega) (by omega)
        have hh1 := hH 1 i (by omega) (by omega)
        refine lv_aload_n hx hb dX0_takeFree_32 rfl (lv_at hl 3 rfl) ?_
        refine va_getN (D := G.1) (host := "PairThreads") (ci := 2) (v := .ref (a 1)) (C := RX2) (T := TX2) (N := 5) hx hb hts hinX2 hown hK.1 hP 0 rfl rfl 0 (by decide) hK.2.nlX0_order (fun _ h9 => h9) rfl dX0_takeFree_33 ?_
        refine lv_iload_n hx hb dX0_takeFree_36 rfl (lv_at hl 0 rfl) ?_
        refine z_ialdN hx hb hK hP 1 rfl (j := i) (by omega) (by decide) dX0_takeFree_37 ?_
        refine lv_istore (lv' := [(4, .int (nI (p i))), (3, .int (nI i)), (2, .int (nI (cz (fun r => om (c1 r)) L.length))), (0, .ref (a 17)), (1, .ref (a 0))]) hx hb dX0_takeFree_38 hl (by decide) rfl (fun ls hl => ?_)
        refine lv_aload_n hx hb dX0_takeFree_40 rfl (lv_at hl 3 rfl) ?_
        refine lv_iconst (v := nI 0) hx hb dX0_takeFree_41 rfl ?_
        refine lv_iload hx hb dX0_takeFree_42 (lv_at hl 0 rfl) ?_
        refine z_callV (rest := []) 2 ⟨hx, hb, hml, hown, hts⟩ hK (c_chosenOf l G a p N B F L hTI Hd C w n0 cs sn 0 (p i) (by omega) hpi (by rw [hh0]; exact hpf0)) gX0_takeFree_X0_chosenOf rfl (by decide +kernel) ⟨Nat.le_of_ble_eq_true rfl, Nat.le_of_ble_eq_true rfl⟩ hP 11 rfl rfl rfl rfl hl.1 rfl (Nat.le_of_ble_eq_true rfl) dX0_takeFree_44 ⟨Nat.le_refl _, Nat.le_refl _⟩ hS (fun _ h => h.elim) (fun v9 H9 locs hR9 hk9 hS => ?_)
        obtain rfl := hR9
        have hP := P_keep0 hP hk9
        clear hk9
        generalize H9 = H at hP hS ⊢
        refine W.eq (g2 := F0 m 47 ls [.int (lk (C 0 (Hd 0 (p i))))]) rfl ?_
        refine z_top (y := lk (Option.map p (c0 (fh (key 0 L) i)))) (congrArg lk (by rw [hh0]; exact hCO.1 _ hf0)) ?_
        refine lv_iconst (v := (-1)) hx hb dX0_takeFree_47 rfl ?_
        refine z_none_ne (tgt := 71) hx hb (fun k9 hk9 => by have := mp_lt (n := L.length) hp hn (fun j hj => hCO.2.2.1 _ j hf0 hj) hk9; omega) dX0_takeFree_48 (by decide) (fun k3 hc2 => ?_) (fun hc2 => ?_)
        · refine z_iinc (lv' := [(3, .int (nI (i + 1))), (4, .int (nI (p i))), (2, .int (nI (cz (fun r => om (c1 r)) L.length))), (0, .ref (a 17)), (1, .ref (a 0))]) hx hb dX0_takeFree_71 hl (k := 1) rfl (by decide) rfl (fun ls hl => ?_)
          refine lv_goto (tgt := 24) hx hb dX0_takeFree_74 (by decide) ?_
          exact ih (i + 1) C c0 c1 H locs ls (by omega) (by omega) hCO hMJ hP hS (lv_sub hl [0, 2, 3, 4] rfl)
        · have he0 : c0 (fh (key 0 L) i) = none := by cases e9 : c0 (fh (key 0 L) i) with | none => rfl | some z9 => rw [e9] at hc2; cases hc2
          refine lv_aload_n hx hb dX0_takeFree_51 rfl (lv_at hl 3 rfl) ?_
          refine lv_iconst (v := nI 1) hx hb dX0_takeFree_52 rfl ?_
          refine lv_iload hx hb dX0_takeFree_53 (lv_at hl 0 rfl) ?_
          refine z_callV (rest := []) 2 ⟨hx, hb, hml, hown, hts⟩ hK (c_chosenOf l G a p N B F L hTI Hd C w n0 cs sn 1 (p i) (by omega) hpi (by rw [hh1]; exact hpf1)) gX0_takeFree_X0_chosenOf rfl (by decide +kernel) ⟨Nat.le_of_ble_eq_true rfl, Nat.le_of_ble_eq_true rfl⟩ hP 11 rfl rfl rfl rfl hl.1 rfl (Nat.le_of_ble_eq_true rfl) dX0_takeFree_55 ⟨Nat.le_refl _, Nat.le_refl _⟩ hS (fun _ h => h.elim) (fun v9 H9 locs hR9 hk9 hS => ?_)
          obtain rfl := hR9
          have hP := P_keep0 hP hk9
          clear hk9
          generalize H9 = H at hP hS ⊢
          refine W.eq (g2 := F0 m 58 ls [.int (lk (C 1 (Hd 1 (p i))))]) rfl ?_
          refine z_top (y := lk (Option.map p (c1 (fh (key 1 L) i)))) (congrArg lk (by rw [hh1]; exact hCO.2.1 _ hf1)) ?_
          refine lv_iconst (v := (-1)) hx hb dX0_takeFree_58 rfl ?_
          refine z_none_ne (tgt := 71) hx hb (fun k9 hk9 => by have := mp_lt (n := L.length) hp hn (fun j hj => hCO.2.2.2 _ j hf1 hj) hk9; omega) dX0_takeFree_59 (by decide) (fun k3 hc3 => ?_) (fun hc3 => ?_)
          · refine z_iinc (lv' := [(3, .int (nI (i + 1))), (4, .int (nI (p i))), (2, .int (nI (cz (fun r => om (c1 r)) L.length))), (0, .ref (a 17)), (1, .ref (a 0))]) hx hb dX0_takeFree_71 hl (k := 1) rfl (by decide) rfl (fun ls hl => ?_)
            refine lv_goto (tgt := 24) hx hb dX0_takeFree_74 (by decide) ?_
            exact ih (i + 1) C c0 c1 H locs ls (by omega) (by omega) hCO hMJ hP hS (lv_sub hl [0, 2, 3, 4] rfl)
          · have he1 : c1 (fh (key 1 L) i) = none := by cases e9 : c1 (fh (key 1 L) i) with | none => rfl | some z9 => rw [e9] at hc3; cases hc3
            refine lv_aload_n hx hb dX0_takeFree_62 rfl (lv_at hl 3 rfl) ?_
            refine lv_iload hx hb dX0_takeFree_63 (lv_at hl 0 rfl) ?_
            refine z_callV (rest := []) 1 ⟨hx, hb, hml, hown, hts⟩ hK (c_choose l G a p N B F L hTI Hd C w n0 cs sn (p i) hpi (by rw [hh0]; exact hpf0) (by rw [hh1]; exact hpf1) hnd) gX0_takeFree_X0_choose rfl (by decide +kernel) ⟨Nat.le_of_ble_eq_true rfl, Nat.le_of_ble_eq_true rfl⟩ hP 11 rfl rfl rfl rfl hl.1 rfl (Nat.le_of_ble_eq_true rfl) dX0_takeFree_65 ⟨Nat.le_refl _, Nat.le_refl _⟩ hS (fun _ h => h) (fun v9 H9 locs hR9 hk9 hS => ?_)
            obtain ⟨rfl, hP⟩ := hR9
            clear hk9
            generalize H9 = H at hP hS ⊢
            refine W.eq (g2 := F0 m 68 ls []) rfl ?_
            refine z_iinc (lv' := [(2, .int (nI (cz (fun r => om (c1 r)) L.length + 1))), (4, .int (nI (p i))), (3, .int (nI i)), (0, .ref (a 17)), (1, .ref (a 0))]) hx hb dX0_takeFree_68 hl (k := 2) rfl (by decide) rfl (fun ls hl => ?_)
            refine z_iinc (lv' := [(3, .int (nI (i + 1))), (2, .int (nI (cz (fun r => om (c1 r)) L.length + 1))), (4, .int (nI (p i))), (0, .ref (a 17)), (1, .ref (a 0))]) hx hb dX0_takeFree_71 hl (k := 2) rfl (by decide) rfl (fun ls hl => ?_)
            refine lv_goto (tgt := 24) hx hb dX0_takeFree_74 (by decide) ?_
            have hcz := om_take (i := i) (Nat.lt_of_le_of_lt (fh_le (key 1 L) i) (by omega)) he1
            have hl : lv_has ls 5 [(3, .int (nI (i + 1))), (2, .int (nI (cz (fun r => om (va_up c1 (fh (key 1 L) i) (some i) r)) L.length))), (4, .int (nI (p i))), (0, .ref (a 17)), (1, .ref (a 0))] := by rw [hcz]; exact hl
            exact ih (i + 1) (chC Hd C (p i)) (va_up c0 (fh (key 0 L) i) (some i)) (va_up c1 (fh (key 1 L) i) (some i)) H locs ls (by omega) (by omega) (CO_ch hinj hn hH (by omega) hCO) (MJ_take hMJ (by omega) he0 he1) hP hS (lv_sub hl [0, 1, 3, 4] rfl)
  have hc9 : cz (fun r => om ((fun _ => none : Nat → Option Nat) r)) L.length = 0 := cz_0 (fun _ _ => rfl)
  have hl : lv_has ls 5 [(3, .int (nI 0)), (2, .int (nI (cz (fun r => om ((fun _ => none : Nat → Option Nat) r)) L.length))), (0, .ref (a 17)), (1, .ref (a 0))] := by rw [hc9]; exact hl
  exact loop (L.length + 1) 0 (fun _ _ => none) (fun _ => none) (fun _ => none) _ _ ls (by omega) (by omega) ⟨fun _ _ => rfl, fun _ _ => rfl, fun _ _ _ h => (by cases h), fun _ _ _ h => (by cases h)⟩ ⟨fun _ _ _ h => (by cases h), fun _ _ _ h => (by cases h)⟩ hP hS (lv_sub hl [0, 1, 2, 3] rfl)

set_option maxHeartbeats 4000000 in
set_option maxRecDepth 100000 in
/-- Matching.awaitFree -/
theorem c_awaitFree (l : Launch) (G : Gd) (a p : Nat → Nat) (N : Nat → Nat → Int32) (B F : Nat → Nat → Option Nat) (L : List Pr) (hTI : TI p N B F L) (Hd : Nat → Nat → Nat) (C : Nat → Nat → Option Nat) (w : Nat → Nat) (n0 : Nat) (cs : Nat → Option Nat) (sn : Nat → Nat) (c0 c1 : Nat → Option Nat) (hH : ∀ d i, d < 2 → i < L.length → Hd d (p i) = p (fh (key d L) i)) (hCO : CO p L.length C c0 c1) (hnd : (aTM a).Nodup) : Mt l yX0_awaitFree wsX0_awaitFree 1 22 [.ref (a 17), .ref (a 0)] G (cT G a p N B F L.length ++ cM G a Hd C w n0 cs sn) (fun q => q ∈ aTM a) (fun x h => x = none ∧ ∃ (w' : Nat → Nat) (n' : Nat) (cs' : Nat → Option Nat) (w9 : Nat → Nat), (∀ i, i < n' → w' i = p (w9 i) ∧ w9 i < L.length ∧ c0 (fh (key 0 L) (w9 i)) = none ∧ cs' (p (w9 i)) = none) ∧ (∀ i j, i < n' → j < n' → w9 i = w9 j → i = j) ∧ (∀ x, x < L.length → c0 (fh (key 0 L) x) = none → ∃ i, i < n' ∧ w9 i = x) ∧ va_P G.1 vwCl (cT G a p N B F L.length ++ cM G a Hd C w' n' cs' sn) h) := by
  refine Mt.mk cX0_awaitFree 4 none (by decide) rfl (Nat.le_of_ble_eq_true rfl) ?_
  intro p9 e s m below meth c ls hx hb hr hml hts hown hlocks hP hK hl
  have hinX0 : ∀ w ∈ wsX00, w ∈ wsX0_awaitFree := by decide +kernel
  have hinX2 : ∀ w ∈ wsX20, w ∈ wsX0_awaitFree := by decide +kernel
  have hS : va_S (fun q => q ∈ aTM a) s.heap s.heap [] := va_S.rf
  have hl : lv_has ls 4 [(0, .ref (a 17)), (1, .ref (a 0))] := hl
  have hown : s.vm.findClass RX0 = some m.cls := hown
  have hDD : ∀ ws : va_W, ws.map Prod.fst = aTM a → va_D (fun q => q ∈ aTM a) ws := D_of hnd (fun q h => h)
  obtain ⟨hp, hinj, hn, hk, hlk⟩ := id hTI
  refine lv_aload_n hx hb dX0_awaitFree_0 rfl (lv_at hl 0 rfl) ?_
  refine lv_iconst (v := nI 0) hx hb dX0_awaitFree_1 rfl ?_
  refine va_put (D := G.1) (ci := 0) (v := .int (nI 0)) (ty := .int) (C := RX0) (T := TX0) (N := 6) hx hb hts hinX0 tyX0 tyX0_ok nmX0 hown hK.1 hP (hDD _ rfl) hS 11 rfl rfl 3 (by decide) (hts (.fieldLink RX0 71 "PairThreads$Matching" "found" "I") (by decide +kernel)) (fun _ h9 => h9) rfl (by decide +kernel) rfl rfl (Nat.le_of_ble_eq_true rfl) dX0_awaitFree_2 (fun H locs hP _ hS => ?_)
  have hP : va_P G.1 vwCl (cT G a p N B F L.length ++ cM G a Hd C w 0 cs sn) H := hP
  refine lv_iconst (v := nI 0) hx hb dX0_awaitFree_5 rfl ?_
  refine lv_istore_n (lv' := [(2, .int (nI 0)), (0, .ref (a 17)), (1, .ref (a 0))]) hx hb dX0_awaitFree_6 rfl hl (by decide) rfl (fun ls hl => ?_)
  have loop : ∀ (k9 : Nat) (k : Nat) (w : Nat → Nat) (n0 : Nat) (cs : Nat → Option Nat) (w9 : Nat → Nat) (H : Heap) (locs : List Loc) (ls : Array Slot), (L.length < k + k9) → (k ≤ L.length) → (n0 ≤ k) → (∀ i, i < n0 → w i = p (w9 i) ∧ w9 i < k ∧ c0 (fh (key 0 L) (w9 i)) = none ∧ cs (p (w9 i)) = none) → (∀ i j, i < n0 → j < n0 → w9 i = w9 j → i = j) → (∀ x, x < k → c0 (fh (key 0 L) x) = none → ∃ i, i < n0 ∧ w9 i = x) → va_P G.1 vwCl (cT G a p N B F L.length ++ cM G a Hd C w n0 cs sn) H → va_S (fun q => q ∈ aTM a) s.heap H locs → lv_has ls 4 [(2, .int (nI k)), (0, .ref (a 17)), (1, .ref (a 0))] → Wz p9 l e 1 22 s m [.ref (a 17), .ref (a 0)] below meth c (fun q => q ∈ aTM a) (fun x h => x = none ∧ ∃ (w' : Nat → Nat) (n' : Nat) (cs' : Nat → Option Nat) (w9 : Nat → Nat), (∀ i, i < n' → w' i = p (w9 i) ∧ w9 i < L.length ∧ c0 (fh (key 0 L) (w9 i)) = none ∧ cs' (p (w9 i)) = none) ∧ (∀ i j, i < n' → j < n' → w9 i = w9 j → i = j) ∧ (∀ x, x < L.length → c0 (fh (key 0 L) x) = none → ∃ i, i < n' ∧ w9 i = x) ∧ va_P G.1 vwCl (cT G a p N B F L.length ++ cM G a Hd C w' n' cs' sn) h) H locs (F0 m 7 ls []) := by
    intro k9
    induction k9 with
    | zero =>
      intro k w n0 cs w9 H locs ls hfuel hk9 hnk hw hij hall hP hS hl
      exact absurd hfuel (by omega)
    | succ k9 ih =>
      intro k w n0 cs w9 H locs ls hfuel hk9 hnk hw hij hall hP hS hl
      refine lv_iload_n hx hb dX0_awaitFree_7 rfl (lv_at hl 0 rfl) ?_
      refine lv_aload_n hx hb dX0_awaitFree_8 rfl (lv_at hl 2 rfl) ?_
      refine va_getN (D := G.1) (host := "PairThreads") (ci := 2) (v := .int (nI L.length)) (C := RX2) (T := TX2) (N := 5) hx hb hts hinX2 hown hK.1 hP 0 rfl rfl 4 (by decide) hK.2.nlX0_size (fun _ h9 => h9) rfl dX0_awaitFree_9 ?_
      refine z_icmp_ge (tgt := 44) hx hb (by omega) (by omega) dX0_awaitFree_12 (by decide) (fun hc1 => ?_) (fun hc1 => ?_)
      · exact z_vret hx hb hr hlocks ⟨rfl, w, n0, cs, w9, fun i hi => ⟨(hw i hi).1, by have := (hw i hi).2.1; omega, (hw i hi).2.2⟩, hij, fun x hx9 h9 => hall x (by omega) h9, hP⟩ hS dX0_awaitFree_44
      · have hpi := hp k (by omega)
        have hf0 : fh (key 0 L) k < L.length := (Nat.lt_of_le_of_lt (fh_le (key 0 L) k) (by omega))
        have hf1 : fh (key 1 L) k < L.length := (Nat.lt_of_le_of_lt (fh_le (key 1 L) k) (by omega))
        have hpf0 := hp (fh (key 0 L) k) (by omega)
        have hpf1 := hp (fh (key 1 L) k) (by omega)
        have hh0 := hH 0 k (by omega) (by omega)
        have hh1 := hH 1 k (by omega) (by omega)
        refine lv_aload_n hx hb dX0_awaitFree_15 rfl (lv_at hl 2 rfl) ?_
        refine va_getN (D := G.1) (host := "PairThreads") (ci := 2) (v := .ref (a 1)) (C := RX2) (T := TX2) (N := 5) hx hb hts hinX2 hown hK.1 hP 0 rfl rfl 0 (by decide) hK.2.nlX0_order (fun _ h9 => h9) rfl dX0_awaitFree_16 ?_
        refine lv_iload_n hx hb dX0_awaitFree_19 rfl (lv_at hl 0 rfl) ?_
        refine z_ialdN hx hb hK hP 1 rfl (j := k) (by omega) (by decide) dX0_awaitFree_20 ?_
        refine lv_istore_n (lv' := [(3, .int (nI (p k))), (2, .int (nI k)), (0, .ref (a 17)), (1, .ref (a 0))]) hx hb dX0_awaitFree_21 rfl hl (by decide) rfl (fun ls hl => ?_)
        refine lv_aload_n hx hb dX0_awaitFree_22 rfl (lv_at hl 2 rfl) ?_
        refine lv_iconst (v := nI 0) hx hb dX0_awaitFree_23 rfl ?_
        refine lv_iload_n hx hb dX0_awaitFree_24 rfl (lv_at hl 0 rfl) ?_
        refine z_callV (rest := []) 2 ⟨hx, hb, hml, hown, hts⟩ hK (c_chosenOf l G a p N B F L hTI Hd C w n0 cs sn 0 (p k) (by omega) hpi (by rw [hh0]; exact hpf0)) gX0_awaitFree_X0_chosenOf rfl (by decide +kernel) ⟨Nat.le_of_ble_eq_true rfl, Nat.le_of_ble_eq_true rfl⟩ hP 11 rfl rfl rfl rfl hl.1 rfl (Nat.le_of_ble_eq_true rfl) dX0_awaitFree_25 ⟨Nat.le_refl _, Nat.le_refl _⟩ hS (fun _ h => h.elim) (fun v9 H9 locs hR9 hk9 hS => ?_)
        obtain rfl := hR9
        have hP := P_keep0 hP hk9
        clear hk9
        generalize H9 = H at hP hS ⊢
        refine W.eq (g2 := F0 m 28 ls [.int (lk (C 0 (Hd 0 (p k))))]) rfl ?_
        refine z_top (y := lk (Option.map p (c0 (fh (key 0 L) k)))) (congrArg lk (by rw [hh0]; exact hCO.1 _ hf0)) ?_
        refine lv_iconst (v := (-1)) hx hb dX0_awaitFree_28 rfl ?_
        refine z_none_ne (tgt := 38) hx hb (fun k9 hk9 => by have := mp_lt (n := L.length) hp hn (fun j hj => hCO.2.2.1 _ j hf0 hj) hk9; omega) dX0_awaitFree_29 (by decide) (fun k3 hc2 => ?_) (fun hc2 => ?_)
        · refine z_iinc (lv' := [(2, .int (nI (k + 1))), (3, .int (nI (p k))), (0, .ref (a 17)), (1, .ref (a 0))]) hx hb dX0_awaitFree_38 hl (k := 1) rfl (by decide) rfl (fun ls hl => ?_)
          refine lv_goto (tgt := 7) hx hb dX0_awaitFree_41 (by decide) ?_
          exact ih (k + 1) w n0 cs w9 H locs ls (by omega) (by omega) (by omega) (fun i hi => ⟨(hw i hi).1, by have := (hw i hi).2.1; omega, (hw i hi).2.2⟩) hij (fun x hx9 h9 => by rcases Nat.lt_succ_iff_lt_or_eq.mp hx9 with z | z; exact hall x z h9; rw [z] at h9; rw [h9] at hc2; cases hc2) hP hS (lv_sub hl [0, 2, 3] rfl)
        · have he0 : c0 (fh (key 0 L) k) = none := by cases e9 : c0 (fh (key 0 L) k) with | none => rfl | some z9 => rw [e9] at hc2; cases hc2
          refine lv_aload_n hx hb dX0_awaitFree_32 rfl (lv_at hl 2 rfl) ?_
          refine lv_iload_n hx hb dX0_awaitFree_33 rfl (lv_at hl 0 rfl) ?_
          refine lv_iconst (v := (-1)) hx hb dX0_awaitFree_34 rfl ?_
          refine z_top (y := lk none) (rfl) ?_
          refine z_callV (rest := []) 2 ⟨hx, hb, hml, hown, hts⟩ hK (c_await l G a p N B F L hTI Hd C w n0 cs sn (p k) none hpi (by omega) hnd) gX0_awaitFree_X0_await rfl (by decide +kernel) ⟨Nat.le_of_ble_eq_true rfl, Nat.le_of_ble_eq_true rfl⟩ hP 11 rfl rfl rfl rfl hl.1 rfl (Nat.le_of_ble_eq_true rfl) dX0_awaitFree_35 ⟨Nat.le_refl _, Nat.le_refl _⟩ hS (fun _ h => h) (fun v9 H9 locs hR9 hk9 hS => ?_)
          obtain ⟨rfl, hP⟩ := hR9
          clear hk9
          generalize H9 = H at hP hS ⊢
          refine W.eq (g2 := F0 m 38 ls []) rfl ?_
          refine z_iinc (lv' := [(2, .int (nI (k + 1))), (3, .int (nI (p k))), (0, .ref (a 17)), (1, .ref (a 0))]) hx hb dX0_awaitFree_38 hl (k := 1) rfl (by decide) rfl (fun ls hl => ?_)
          refine lv_goto (tgt := 7) hx hb dX0_awaitFree_41 (by decide) ?_
          exact ih (k + 1) (va_up w n0 (p k)) (n0 + 1) (va_up cs (p k) none) (va_up w9 n0 k) H locs ls (by omega) (by omega) (by omega) (fun i hi => by rcases Nat.lt_succ_iff_lt_or_eq.mp hi with z | z; have h9 := hw i z; rw [up_n (show i ≠ n0 by omega), up_n (show i ≠ n0 by omega), up_n (fun y => by have := hinj (w9 i) k (by omega) (by omega) y; omega)]; exact ⟨h9.1, by omega, h9.2.2⟩; rw [z, up_s, up_s, up_s]; exact ⟨rfl, by omega, he0, rfl⟩) (fun i j hi hj he => by rcases Nat.lt_succ_iff_lt_or_eq.mp hi with z | z <;> rcases Nat.lt_succ_iff_lt_or_eq.mp hj with y | y; rw [up_n (by omega), up_n (by omega)] at he; exact hij i j z y he; rw [up_n (by omega), y, up_s] at he; have := (hw i z).2.1; omega; rw [up_n (show j ≠ n0 by omega), z, up_s] at he; have := (hw j y).2.1; omega; omega) (fun x hx9 h9 => by rcases Nat.lt_succ_iff_lt_or_eq.mp hx9 with z | z; obtain ⟨i, a1, a2⟩ := hall x z h9; exact ⟨i, by omega, by rw [up_n (by omega)]; exact a2⟩; exact ⟨n0, by omega, by rw [up_s, z]⟩) hP hS (lv_sub hl [0, 2, 3] rfl)
  exact loop (L.length + 1) 0 w 0 cs w _ _ ls (by omega) (by omega) (by omega) (fun i hi => absurd hi (Nat.not_lt_zero i)) (fun i j hi => absurd hi (Nat.not_lt_zero i)) (fun x hx9 => absurd hx9 (Nat.not_lt_zero x)) hP hS (lv_sub hl [0, 1, 2] rfl)
