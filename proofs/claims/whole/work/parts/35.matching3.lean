set_option maxHeartbeats 4000000 in
set_option maxRecDepth 100000 in
/-- Matching.grow -/
theorem c_grow (l : Launch) (G : Gd) (a p : Nat → Nat) (N : Nat → Nat → Int32) (B F : Nat → Nat → Option Nat) (L : List Pr) (hTI : TI p N B F L) (Hd : Nat → Nat → Nat) (C : Nat → Nat → Option Nat) (w : Nat → Nat) (n0 : Nat) (cs : Nat → Option Nat) (sn : Nat → Nat) (k0 k1 : Nat → Option Nat) (hH : ∀ d i, d < 2 → i < L.length → Hd d (p i) = p (fh (key d L) i)) (hCO : CO p L.length C k0 k1) (hMJ : MJ L k0 k1) (hnd : (aTM a).Nodup) : Mt l yX0_grow wsX0_grow 2 47 [.ref (a 17), .ref (a 0)] G (cT G a p N B F L.length ++ cM G a Hd C w n0 cs sn) (fun q => q ∈ aTM a) (fun x h => ∃ (z : Nat) (C' : Nat → Nat → Option Nat) (w' : Nat → Nat) (n' : Nat) (cs' : Nat → Option Nat) (sn' : Nat → Nat) (c0' c1' : Nat → Option Nat), x = some (.int (nI z)) ∧ CO p L.length C' c0' c1' ∧ MJ L c0' c1' ∧ ((z = 1 ∧ cz (fun r => om (c1' r)) L.length = cz (fun r => om (k1 r)) L.length + 1) ∨ (z = 0 ∧ c1' = k1 ∧ isMM L (cz (fun r => om (k1 r)) L.length))) ∧ va_P G.1 vwCl (cT G a p N B F L.length ++ cM G a Hd C' w' n' cs' sn') h) := by
  refine Mt.mk cX0_grow 5 (some .boolean) (by decide) rfl (Nat.le_of_ble_eq_true rfl) ?_
  intro p9 e s m below meth c ls hx hb hr hml hts hown hlocks hP hK hl
  have hinX0 : ∀ w ∈ wsX00, w ∈ wsX0_grow := by decide +kernel
  have hinX2 : ∀ w ∈ wsX20, w ∈ wsX0_grow := by decide +kernel
  have hS : va_S (fun q => q ∈ aTM a) s.heap s.heap [] := va_S.rf
  have hl : lv_has ls 5 [(0, .ref (a 17)), (1, .ref (a 0))] := hl
  have hown : s.vm.findClass RX0 = some m.cls := hown
  have hDD : ∀ ws : va_W, ws.map Prod.fst = aTM a → va_D (fun q => q ∈ aTM a) ws := D_of hnd (fun q h => h)
  obtain ⟨hp, hinj, hn, hk, hlk⟩ := id hTI
  refine lv_aload_n hx hb dX0_grow_0 rfl (lv_at hl 0 rfl) ?_
  refine va_get (D := G.1) (ci := 0) (v := .ref (a 26)) (C := RX0) (T := TX0) (N := 6) hx hb hts hinX0 hown hK.1 hP 11 rfl rfl 5 (by decide) (hts (.fieldLink RX0 26 "PairThreads$Matching" "seen" "[I") (by decide +kernel)) (fun _ h9 => h9) rfl dX0_grow_1 ?_
  refine lv_iconst (v := nI 0) hx hb dX0_grow_4 rfl ?_
  refine z_callS (rest := []) 2 ⟨hx, hb, hml, hown, hts⟩ hK (c_fill l G (a 26) (fN sn) (nI 0)) gX0_grow_J7_fill_53178 rfl (by decide +kernel) ⟨Nat.le_of_ble_eq_true rfl, Nat.le_of_ble_eq_true rfl⟩ (hP.sub (ws' := c1 G (a 26) (fN sn)) [20] rfl) rfl hl.1 rfl (Nat.le_of_ble_eq_true rfl) dX0_grow_5 ⟨Nat.le_refl _, Nat.le_refl _⟩ hS (fun q h => by rw [h]; simp [aTM, aM]) (fun v9 H9 locs hR9 hk9 hS => ?_)
  obtain ⟨rfl, hP1⟩ := hR9
  have hP := P_one (k := 20) hP hnd (AL := aTM a) rfl rfl hk9 hP1
  clear hk9
  generalize H9 = H at hP hS ⊢
  refine W.eq (g2 := F0 m 8 ls []) rfl ?_
  have hP : va_P G.1 vwCl (cT G a p N B F L.length ++ cM G a Hd C w n0 cs (fun _ => 0)) H := hP
  refine lv_aload_n hx hb dX0_grow_8 rfl (lv_at hl 0 rfl) ?_
  refine lv_aload_n hx hb dX0_grow_9 rfl (lv_at hl 1 rfl) ?_
  refine z_callV (rest := []) 1 ⟨hx, hb, hml, hown, hts⟩ hK (c_awaitFree l G a p N B F L hTI Hd C w n0 cs (fun _ => 0) k0 k1 hH hCO hnd) gX0_grow_X0_awaitFree rfl (by decide +kernel) ⟨Nat.le_of_ble_eq_true rfl, Nat.le_of_ble_eq_true rfl⟩ hP 11 rfl rfl rfl rfl hl.1 rfl (Nat.le_of_ble_eq_true rfl) dX0_grow_10 ⟨Nat.le_refl _, Nat.le_refl _⟩ hS (fun _ h => h) (fun v9 H9 locs hR9 hk9 hS => ?_)
  obtain ⟨rfl, w1, n1, cs1, w9, hw1, hij1, hall1, hP⟩ := hR9
  clear hk9
  generalize H9 = H at hP hS ⊢
  refine W.eq (g2 := F0 m 13 ls []) rfl ?_
  refine lv_iconst (v := nI 0) hx hb dX0_grow_13 rfl ?_
  refine lv_istore_n (lv' := [(2, .int (nI 0)), (0, .ref (a 17)), (1, .ref (a 0))]) hx hb dX0_grow_14 rfl hl (by decide) rfl (fun ls hl => ?_)
  have hWI0 : WI L k0 n1 w9 (fun _ => none) (fun _ => 0) := ⟨fun i hi => (hw1 i hi).2.1, hij1, fun i hi => Or.inl ⟨rfl, (hw1 i hi).2.2.1⟩, fun _ _ _ _ _ => rfl, hall1⟩
  have loop : ∀ (k9 : Nat) (t : Nat) (w : Nat → Nat) (n0 : Nat) (cs : Nat → Option Nat) (sn : Nat → Nat) (w9 : Nat → Nat) (cs9 : Nat → Option Nat) (H : Heap) (locs : List Loc) (ls : Array Slot), (L.length < t + k9 ∧ n0 ≤ L.length) → (t ≤ n0) → (WI L k0 n0 w9 cs9 (fun h => sn (p h))) → (∀ i, i < n0 → w i = p (w9 i)) → (∀ i, i < n0 → cs (p (w9 i)) = Option.map p (cs9 (w9 i))) → (∀ i, i < t → sn (p (fh (key 1 L) (w9 i))) ≠ 0) → (∀ h, h < L.length → sn (p h) ≠ 0 → k1 h ≠ none) → (∀ h, h < L.length → sn (p h) ≤ 1) → (∀ x g9, x < L.length → k0 (fh (key 0 L) x) = some g9 → g9 ≠ x → sn (p (fh (key 1 L) g9)) ≠ 0 → ∃ i, i < n0 ∧ w9 i = x) → va_P G.1 vwCl (cT G a p N B F L.length ++ cM G a Hd C w n0 cs sn) H → va_S (fun q => q ∈ aTM a) s.heap H locs → lv_has ls 5 [(2, .int (nI t)), (0, .ref (a 17)), (1, .ref (a 0))] → Wz p9 l e 2 47 s m [.ref (a 17), .ref (a 0)] below meth c (fun q => q ∈ aTM a) (fun x h => ∃ (z : Nat) (C' : Nat → Nat → Option Nat) (w' : Nat → Nat) (n' : Nat) (cs' : Nat → Option Nat) (sn' : Nat → Nat) (c0' c1' : Nat → Option Nat), x = some (.int (nI z)) ∧ CO p L.length C' c0' c1' ∧ MJ L c0' c1' ∧ ((z = 1 ∧ cz (fun r => om (c1' r)) L.length = cz (fun r => om (k1 r)) L.length + 1) ∨ (z = 0 ∧ c1' = k1 ∧ isMM L (cz (fun r => om (k1 r)) L.length))) ∧ va_P G.1 vwCl (cT G a p N B F L.length ++ cM G a Hd C' w' n' cs' sn') h) H locs (F0 m 15 ls []) := by
    intro k9
    induction k9 with
    | zero =>
      intro t w n0 cs sn w9 cs9 H locs ls hfuel ht hWI hw hcs hPr hW5 hsb hW6 hP hS hl
      exact absurd hfuel (by omega)
    | succ k9 ih =>
      intro t w n0 cs sn w9 cs9 H locs ls hfuel ht hWI hw hcs hPr hW5 hsb hW6 hP hS hl
      have hle := pig L.length n0 w9 hWI.1 hWI.2.1
      refine lv_iload_n hx hb dX0_grow_15 rfl (lv_at hl 0 rfl) ?_
      refine lv_aload_n hx hb dX0_grow_16 rfl (lv_at hl 1 rfl) ?_
      refine va_get (D := G.1) (ci := 0) (v := .int (nI n0)) (C := RX0) (T := TX0) (N := 6) hx hb hts hinX0 hown hK.1 hP 11 rfl rfl 3 (by decide) (hts (.fieldLink RX0 71 "PairThreads$Matching" "found" "I") (by decide +kernel)) (fun _ h9 => h9) rfl dX0_grow_17 ?_
      refine z_icmp_ge (tgt := 114) hx hb (by omega) (by omega) dX0_grow_20 (by decide) (fun hc1 => ?_) (fun hc1 => ?_)
      · have he : t = n0 := by omega
        subst he
        refine lv_iconst (v := nI 0) hx hb dX0_grow_114 rfl ?_
        have hMM := MJ_cov (sn := (fun h => sn (p h))) hMJ hW5 (fun x hx9 h9 => by obtain ⟨i, a1, a2⟩ := hWI.2.2.2.2 x hx9 h9; have := hPr i a1; rw [a2] at this; exact this) (fun x g9 hx9 h9 h8 h7 => by obtain ⟨i, a1, a2⟩ := hW6 x g9 hx9 h9 h8 h7; have := hPr i a1; rw [a2] at this; exact this)
        exact z_zret hx hb hr rfl hlocks ⟨0, C, w, t, cs, sn, k0, k1, rfl, hCO, hMJ, Or.inr ⟨rfl, rfl, hMM⟩, hP⟩ hS dX0_grow_115
      · refine lv_iload_n hx hb dX0_grow_23 rfl (lv_at hl 0 rfl) ?_
        refine lv_sipush (v := nI 300) hx hb dX0_grow_24 (by decide) ?_
        refine z_icmp_ge (tgt := 114) hx hb (by omega) (by omega) dX0_grow_27 (by decide) (fun hc2 => ?_) (fun hc2 => ?_)
        · exact absurd hc2 (by omega)
        · have htn : t < n0 := by omega
          have hwn := hWI.1 t htn
          have hpi := hp (w9 t) (by omega)
          have hf0 : fh (key 0 L) (w9 t) < L.length := (Nat.lt_of_le_of_lt (fh_le (key 0 L) (w9 t)) (by omega))
          have hf1 : fh (key 1 L) (w9 t) < L.length := (Nat.lt_of_le_of_lt (fh_le (key 1 L) (w9 t)) (by omega))
          have hpf0 := hp (fh (key 0 L) (w9 t)) (by omega)
          have hpf1 := hp (fh (key 1 L) (w9 t)) (by omega)
          have hh0 := hH 0 (w9 t) (by omega) (by omega)
          have hh1 := hH 1 (w9 t) (by omega) (by omega)
          have hwt := hw t htn
          have hs1 := hsb _ hf1
          refine lv_aload_n hx hb dX0_grow_30 rfl (lv_at hl 1 rfl) ?_
          refine va_get (D := G.1) (ci := 0) (v := .ref (a 24)) (C := RX0) (T := TX0) (N := 6) hx hb hts hinX0 hown hK.1 hP 11 rfl rfl 2 (by decide) (hts (.fieldLink RX0 19 "PairThreads$Matching" "waiting" "[I") (by decide +kernel)) (fun _ h9 => h9) rfl dX0_grow_31 ?_
          refine lv_iload_n hx hb dX0_grow_34 rfl (lv_at hl 0 rfl) ?_
          refine z_ialdN hx hb hK hP 18 rfl (j := t) (by omega) (by decide) dX0_grow_35 ?_
          refine z_top (y := nI (p (w9 t))) (congrArg nI hwt) ?_
          refine lv_istore_n (lv' := [(3, .int (nI (p (w9 t)))), (2, .int (nI t)), (0, .ref (a 17)), (1, .ref (a 0))]) hx hb dX0_grow_36 rfl hl (by decide) rfl (fun ls hl => ?_)
          refine lv_aload_n hx hb dX0_grow_37 rfl (lv_at hl 2 rfl) ?_
          refine va_get (D := G.1) (ci := 0) (v := .ref (a 18)) (C := RX0) (T := TX0) (N := 6) hx hb hts hinX0 hown hK.1 hP 11 rfl rfl 0 (by decide) (hts (.fieldLink RX0 11 "PairThreads$Matching" "head" "[[I") (by decide +kernel)) (fun _ h9 => h9) rfl dX0_grow_38 ?_
          refine lv_iconst (v := nI 1) hx hb dX0_grow_41 rfl ?_
          refine z_ald hx hb hK hP 12 rfl (j := 1) (by omega) (by decide) dX0_grow_42 ?_
          refine lv_iload_n hx hb dX0_grow_43 rfl (lv_at hl 0 rfl) ?_
          refine z_ialdN hx hb hK hP 14 rfl (j := p (w9 t)) (by omega) (by decide) dX0_grow_44 ?_
          refine z_top (y := nI (p (fh (key 1 L) (w9 t)))) (congrArg nI hh1) ?_
          refine lv_istore (lv' := [(4, .int (nI (p (fh (key 1 L) (w9 t))))), (3, .int (nI (p (w9 t)))), (2, .int (nI t)), (0, .ref (a 17)), (1, .ref (a 0))]) hx hb dX0_grow_45 hl (by decide) rfl (fun ls hl => ?_)
          refine lv_aload_n hx hb dX0_grow_47 rfl (lv_at hl 3 rfl) ?_
          refine va_get (D := G.1) (ci := 0) (v := .ref (a 26)) (C := RX0) (T := TX0) (N := 6) hx hb hts hinX0 hown hK.1 hP 11 rfl rfl 5 (by decide) (hts (.fieldLink RX0 26 "PairThreads$Matching" "seen" "[I") (by decide +kernel)) (fun _ h9 => h9) rfl dX0_grow_48 ?_
          refine lv_iload hx hb dX0_grow_51 (lv_at hl 0 rfl) ?_
          refine z_ialdN hx hb hK hP 20 rfl (j := p (fh (key 1 L) (w9 t))) (by omega) (by decide) dX0_grow_53 ?_
          refine lv_iconst (v := nI 1) hx hb dX0_grow_54 rfl ?_
          refine z_icmp_ne (tgt := 61) hx hb (by omega) (by omega) dX0_grow_55 (by decide) (fun hc3 => ?_) (fun hc3 => ?_)
          · have hs0 : sn (p (fh (key 1 L) (w9 t))) = 0 := by omega
            have hC1 := hCO.2.1 _ hf1
            refine lv_aload_n hx hb dX0_grow_61 rfl (lv_at hl 3 rfl) ?_
            refine va_get (D := G.1) (ci := 0) (v := .ref (a 26)) (C := RX0) (T := TX0) (N := 6) hx hb hts hinX0 hown hK.1 hP 11 rfl rfl 5 (by decide) (hts (.fieldLink RX0 26 "PairThreads$Matching" "seen" "[I") (by decide +kernel)) (fun _ h9 => h9) rfl dX0_grow_62 ?_
            refine lv_iload hx hb dX0_grow_65 (lv_at hl 0 rfl) ?_
            refine lv_iconst (v := nI 1) hx hb dX0_grow_67 rfl ?_
            refine z_iastN hx hb hK hP (hDD _ rfl) hS 20 rfl (j := p (fh (key 1 L) (w9 t))) (by omega) (by decide) dX0_grow_68 (fun H locs hP hS => ?_)
            have hP : va_P G.1 vwCl (cT G a p N B F L.length ++ cM G a Hd C w n0 cs (va_up sn (p (fh (key 1 L) (w9 t))) 1)) H := hP
            refine lv_aload_n hx hb dX0_grow_69 rfl (lv_at hl 3 rfl) ?_
            refine va_get (D := G.1) (ci := 0) (v := .ref (a 21)) (C := RX0) (T := TX0) (N := 6) hx hb hts hinX0 hown hK.1 hP 11 rfl rfl 1 (by decide) (hts (.fieldLink RX0 16 "PairThreads$Matching" "chosen" "[[I") (by decide +kernel)) (fun _ h9 => h9) rfl dX0_grow_70 ?_
            refine lv_iconst (v := nI 1) hx hb dX0_grow_73 rfl ?_
            refine z_ald hx hb hK hP 15 rfl (j := 1) (by omega) (by decide) dX0_grow_74 ?_
            refine lv_iload hx hb dX0_grow_75 (lv_at hl 0 rfl) ?_
            refine z_ialdO hx hb hK hP 17 rfl (j := p (fh (key 1 L) (w9 t))) (by omega) (by decide) dX0_grow_77 ?_
            refine z_top (y := lk (Option.map p (k1 (fh (key 1 L) (w9 t))))) (congrArg lk hC1) ?_
            refine lv_iconst (v := (-1)) hx hb dX0_grow_78 rfl ?_
            refine z_none_ne (tgt := 93) hx hb (fun k9 hk9 => by have := mp_lt (n := L.length) hp hn (fun j hj => hCO.2.2.2 _ j hf1 hj) hk9; omega) dX0_grow_79 (by decide) (fun k3 hc4 => ?_) (fun hc4 => ?_)
            · obtain ⟨g9, hg9, -⟩ := Option.map_eq_some_iff.mp hc4
              obtain ⟨b1, b2, b3⟩ := hMJ.2 _ g9 hf1 hg9
              have hpg := hp g9 (by omega)
              obtain ⟨sn2, esn⟩ : ∃ z, z = va_up sn (p (fh (key 1 L) (w9 t))) 1 := ⟨_, rfl⟩
              rw [← esn] at hP
              have hmono : ∀ x, sn (p x) ≠ 0 → sn2 (p x) ≠ 0 := fun x h9 => by rw [esn]; by_cases e1 : p x = p (fh (key 1 L) (w9 t)); rw [e1, up_s]; exact Nat.one_ne_zero; rw [up_n e1]; exact h9
              have hsrh : sn2 (p (fh (key 1 L) (w9 t))) ≠ 0 := by rw [esn, up_s]; exact Nat.one_ne_zero
              have hsn2 : ∀ x, x < L.length → x ≠ fh (key 1 L) (w9 t) → sn2 (p x) = sn (p x) := fun x hx9 hne => by rw [esn]; exact up_n (fun z => hne (hinj x _ (by omega) (by omega) z))
              have hgw : ∀ i, i < n0 → key 0 L (w9 i) = key 0 L g9 → False := fun i hi hkey => by
                have hfe := fh_eq hkey
                rcases hWI.2.2.1 i hi with ⟨-, e2⟩ | ⟨i', g8, e1, e2, e3, e4, e5, e6⟩
                · rw [hfe, b3] at e2; cases e2
                · rw [hfe, b3] at e3; cases e3; rw [b2] at e6; exact e6 hs0
              refine lv_aload_n hx hb dX0_grow_93 rfl (lv_at hl 3 rfl) ?_
              refine lv_aload_n hx hb dX0_grow_94 rfl (lv_at hl 4 rfl) ?_
              refine lv_aload_n hx hb dX0_grow_95 rfl (lv_at hl 3 rfl) ?_
              refine va_get (D := G.1) (ci := 0) (v := .ref (a 21)) (C := RX0) (T := TX0) (N := 6) hx hb hts hinX0 hown hK.1 hP 11 rfl rfl 1 (by decide) (hts (.fieldLink RX0 16 "PairThreads$Matching" "chosen" "[[I") (by decide +kernel)) (fun _ h9 => h9) rfl dX0_grow_96 ?_
              refine lv_iconst (v := nI 1) hx hb dX0_grow_99 rfl ?_
              refine z_ald hx hb hK hP 15 rfl (j := 1) (by omega) (by decide) dX0_grow_100 ?_
              refine lv_iload hx hb dX0_grow_101 (lv_at hl 0 rfl) ?_
              refine z_ialdO hx hb hK hP 17 rfl (j := p (fh (key 1 L) (w9 t))) (by omega) (by decide) dX0_grow_103 ?_
              refine z_top (y := nI (p g9)) ((congrArg lk (hC1.trans (by rw [hg9]))).trans rfl) ?_
              refine lv_iload_n hx hb dX0_grow_104 rfl (lv_at hl 1 rfl) ?_
              refine z_callV (rest := []) 3 ⟨hx, hb, hml, hown, hts⟩ hK (c_awaitInstead l G a p N B F L hTI Hd C w n0 cs sn2 g9 (w9 t) w9 hH b1 hwn (fun i hi => ⟨hw i hi, hWI.1 i hi⟩) hWI.2.1 (fun i hi h9 => hgw i hi h9.1) hnd) gX0_grow_X0_awaitInstead rfl (by decide +kernel) ⟨Nat.le_of_ble_eq_true rfl, Nat.le_of_ble_eq_true rfl⟩ hP 11 rfl rfl rfl rfl hl.1 rfl (Nat.le_of_ble_eq_true rfl) dX0_grow_105 ⟨Nat.le_refl _, Nat.le_refl _⟩ hS (fun _ h => h) (fun v9 H9 locs hR9 hk9 hS => ?_)
              obtain ⟨rfl, w2, n2, cs2, v9, hn2, hex, hw2, hij2, hnew, hcov, hcs2, hP⟩ := hR9
              clear hk9
              generalize H9 = H at hP hS ⊢
              refine W.eq (g2 := F0 m 108 ls []) rfl ?_
              have hvt := hex t htn
              obtain ⟨d9, hd9⟩ : ∃ d9 : Nat → Option Nat, ∀ x, d9 x = @ite (Option Nat) (∃ i, i < n0 ∧ w9 i = x) (Classical.propDecidable _) (cs9 x) (some (w9 t)) := ⟨_, fun _ => rfl⟩
              have hdo : ∀ i, i < n0 → d9 (v9 i) = cs9 (w9 i) := fun i hi => by rw [hd9, hex i hi, if_pos ⟨i, hi, rfl⟩]
              have hdn : ∀ i, n0 ≤ i → i < n2 → d9 (v9 i) = some (w9 t) := fun i h5 h6 => by rw [hd9, if_neg (fun ⟨j, j1, j2⟩ => by have := hij2 j i (by omega) h6 ((hex j j1).trans j2); omega)]
              have hWI2 : WI L k0 n2 v9 d9 (fun h => sn2 (p h)) := by
                refine ⟨fun i hi => (hw2 i hi).2, hij2, fun i hi => ?_, fun i j hi hj hkey => ?_, fun x hx9 h9 => ?_⟩
                · rcases Nat.lt_or_ge i n0 with z | z
                  · rw [hdo i z, hex i z]
                    rcases hWI.2.2.1 i z with e1 | ⟨i', g8, e1, e2, e3, e4, e5, e6⟩
                    · exact Or.inl e1
                    · exact Or.inr ⟨i', g8, e1, by rw [hex i' (by omega)]; exact e2, e3, e4, by rw [hex i' (by omega)]; exact e5, hmono _ e6⟩
                  · obtain ⟨f1a, f1b, -⟩ := hnew i z hi
                    exact Or.inr ⟨t, g9, by omega, by rw [hdn i z hi, hvt], by rw [fh_eq f1a]; exact b3, fun y => f1b y.symm, by rw [hvt]; exact b2, by show sn2 (p (fh (key 1 L) g9)) ≠ 0; rw [b2]; exact hsrh⟩
                · rcases Nat.lt_or_ge i n0 with z | z <;> rcases Nat.lt_or_ge j n0 with y | y
                  · rw [hdo i z, hdo j y]; rw [hex i z, hex j y] at hkey; exact hWI.2.2.2.1 i j z y hkey
                  · rw [hex i z, (hnew j y hj).1] at hkey; exact (hgw i z hkey).elim
                  · rw [hex j y, (hnew i z hi).1] at hkey; exact (hgw j y hkey.symm).elim
                  · rw [hdn i z hi, hdn j y hj]
                · obtain ⟨i, a1, a2⟩ := hWI.2.2.2.2 x hx9 h9; exact ⟨i, by omega, by rw [hex i a1]; exact a2⟩
              have hW62 : ∀ x g8, x < L.length → k0 (fh (key 0 L) x) = some g8 → g8 ≠ x → sn2 (p (fh (key 1 L) g8)) ≠ 0 → ∃ i, i < n2 ∧ v9 i = x := fun x g8 hx9 h9 h8 h7 => by
                obtain ⟨a1, a2, a3⟩ := hMJ.1 _ g8 (Nat.lt_of_le_of_lt (fh_le _ _) hx9) h9
                by_cases e1 : fh (key 1 L) g8 = fh (key 1 L) (w9 t)
                · rw [e1, hg9] at a3; cases a3; exact hcov x hx9 (fh_key a2.symm) (fun y => h8 y.symm)
                · rw [hsn2 _ (Nat.lt_of_le_of_lt (fh_le _ _) a1) e1] at h7; obtain ⟨i, j1, j2⟩ := hW6 x g8 hx9 h9 h8 h7; exact ⟨i, by omega, by rw [hex i j1]; exact j2⟩
              refine z_iinc (lv' := [(2, .int (nI (t + 1))), (4, .int (nI (p (fh (key 1 L) (w9 t))))), (3, .int (nI (p (w9 t)))), (0, .ref (a 17)), (1, .ref (a 0))]) hx hb dX0_grow_108 hl (k := 2) rfl (by decide) rfl (fun ls hl => ?_)
              refine lv_goto (tgt := 15) hx hb dX0_grow_111 (by decide) ?_
              exact ih (t + 1) w2 n2 cs2 sn2 v9 d9 H locs ls ⟨by omega, pig L.length n2 v9 (fun i hi => (hw2 i hi).2) hij2⟩ (by omega) hWI2 (fun i hi => (hw2 i hi).1) (fun i hi => by rcases Nat.lt_or_ge i n0 with z | z; rw [hcs2 i z, hdo i z, hex i z]; exact hcs i z; rw [(hnew i z hi).2.2, hdn i z hi]; rfl) (fun i hi => by rcases Nat.lt_succ_iff_lt_or_eq.mp hi with z | z; rw [hex i (by omega)]; exact hmono _ (hPr i z); rw [z, hvt]; exact hsrh) (fun h9 hh9 h8 => by by_cases e1 : h9 = fh (key 1 L) (w9 t); rw [e1, hg9]; exact (fun y => by cases y); rw [hsn2 h9 hh9 e1] at h8; exact hW5 h9 hh9 h8) (fun h9 hh9 => by by_cases e1 : h9 = fh (key 1 L) (w9 t); rw [e1, esn, up_s]; exact Nat.le_refl _; rw [hsn2 h9 hh9 e1]; exact hsb h9 hh9) hW62 hP hS (lv_sub hl [0, 3, 4] rfl)
            · have hfree : k1 (fh (key 1 L) (w9 t)) = none := by cases e9 : k1 (fh (key 1 L) (w9 t)) with | none => rfl | some z9 => rw [e9] at hc4; cases hc4
              refine lv_aload_n hx hb dX0_grow_82 rfl (lv_at hl 3 rfl) ?_
              refine lv_iload_n hx hb dX0_grow_83 rfl (lv_at hl 1 rfl) ?_
              refine lv_aload_n hx hb dX0_grow_84 rfl (lv_at hl 4 rfl) ?_
              refine va_getN (D := G.1) (host := "PairThreads") (ci := 2) (v := .int (nI L.length)) (C := RX2) (T := TX2) (N := 5) hx hb hts hinX2 hown hK.1 hP 0 rfl rfl 4 (by decide) hK.2.nlX0_size (fun _ h9 => h9) rfl dX0_grow_85 ?_
              refine z_callV (rest := []) 2 ⟨hx, hb, hml, hown, hts⟩ hK (c_turn l G a p N B F L hTI Hd C w n0 cs (va_up sn (p (fh (key 1 L) (w9 t))) 1) k0 k1 w9 cs9 (fun h => sn (p h)) t hH hCO hMJ hWI hcs htn hfree hnd) gX0_grow_X0_turn rfl (by decide +kernel) ⟨Nat.le_of_ble_eq_true rfl, Nat.le_of_ble_eq_true rfl⟩ hP 11 rfl rfl rfl rfl hl.1 rfl (Nat.le_of_ble_eq_true rfl) dX0_grow_88 ⟨Nat.le_refl _, Nat.le_refl _⟩ hS (fun _ h => h) (fun v9 H9 locs hR9 hk9 hS => ?_)
              obtain ⟨rfl, C2, e0, e1, hCO2, hMJ2, hcz2, hP⟩ := hR9
              clear hk9
              generalize H9 = H at hP hS ⊢
              refine W.eq (g2 := F0 m 91 ls []) rfl ?_
              refine lv_iconst (v := nI 1) hx hb dX0_grow_91 rfl ?_
              exact z_zret hx hb hr rfl hlocks ⟨1, C2, w, n0, cs, _, e0, e1, rfl, hCO2, hMJ2, Or.inl ⟨rfl, hcz2⟩, hP⟩ hS dX0_grow_92
          · refine lv_goto (tgt := 108) hx hb dX0_grow_58 (by decide) ?_
            refine z_iinc (lv' := [(2, .int (nI (t + 1))), (4, .int (nI (p (fh (key 1 L) (w9 t))))), (3, .int (nI (p (w9 t)))), (0, .ref (a 17)), (1, .ref (a 0))]) hx hb dX0_grow_108 hl (k := 2) rfl (by decide) rfl (fun ls hl => ?_)
            refine lv_goto (tgt := 15) hx hb dX0_grow_111 (by decide) ?_
            exact ih (t + 1) w n0 cs sn w9 cs9 H locs ls ⟨by omega, hle⟩ (by omega) hWI hw hcs (fun i hi => by rcases Nat.lt_succ_iff_lt_or_eq.mp hi with z | z; exact hPr i z; rw [z]; omega) hW5 hsb hW6 hP hS (lv_sub hl [0, 3, 4] rfl)
  exact loop (L.length + 1) 0 w1 n1 cs1 (fun _ => 0) w9 (fun _ => none) _ _ ls ⟨by omega, pig L.length n1 w9 (fun i hi => (hw1 i hi).2.1) hij1⟩ (by omega) hWI0 (fun i hi => (hw1 i hi).1) (fun i hi => (hw1 i hi).2.2.2) (fun i hi => absurd hi (Nat.not_lt_zero i)) (fun h9 _ h8 => absurd rfl h8) (fun _ _ => Nat.zero_le _) (fun x g9 _ _ _ h7 => absurd rfl h7) hP hS (lv_sub hl [0, 1, 2] rfl)

set_option maxHeartbeats 4000000 in
set_option maxRecDepth 100000 in
/-- Matching.largest -/
theorem c_largest (l : Launch) (G : Gd) (a p : Nat → Nat) (N : Nat → Nat → Int32) (B F : Nat → Nat → Option Nat) (L : List Pr) (hTI : TI p N B F L) (Hd : Nat → Nat → Nat) (C : Nat → Nat → Option Nat) (w : Nat → Nat) (n0 : Nat) (cs : Nat → Option Nat) (sn : Nat → Nat) (hnd : (aTM a).Nodup) : Mt l yX0_largest wsX0_largest 3 71 [.ref (a 17), .ref (a 0)] G (cT G a p N B F L.length ++ cM G a Hd C w n0 cs sn) (fun q => q ∈ aTM a) (fun x h => ∃ z : Nat, x = some (.int (nI z)) ∧ isMM L z ∧ ∃ (Hd' : Nat → Nat → Nat) (C' : Nat → Nat → Option Nat) (w' : Nat → Nat) (n' : Nat) (cs' : Nat → Option Nat) (sn' : Nat → Nat), va_P G.1 vwCl (cT G a p N B F L.length ++ cM G a Hd' C' w' n' cs' sn') h) := by
  refine Mt.mk cX0_largest 4 (some .int) (by decide) rfl (Nat.le_of_ble_eq_true rfl) ?_
  intro p9 e s m below meth c ls hx hb hr hml hts hown hlocks hP hK hl
  have hinX2 : ∀ w ∈ wsX20, w ∈ wsX0_largest := by decide +kernel
  have hS : va_S (fun q => q ∈ aTM a) s.heap s.heap [] := va_S.rf
  have hl : lv_has ls 4 [(0, .ref (a 17)), (1, .ref (a 0))] := hl
  have hown : s.vm.findClass RX0 = some m.cls := hown
  have hDD : ∀ ws : va_W, ws.map Prod.fst = aTM a → va_D (fun q => q ∈ aTM a) ws := D_of hnd (fun q h => h)
  obtain ⟨hp, hinj, hn, hk, hlk⟩ := id hTI
  refine lv_aload_n hx hb dX0_largest_0 rfl (lv_at hl 0 rfl) ?_
  refine lv_aload_n hx hb dX0_largest_1 rfl (lv_at hl 1 rfl) ?_
  refine lv_iconst (v := nI 0) hx hb dX0_largest_2 rfl ?_
  refine z_callV (rest := []) 2 ⟨hx, hb, hml, hown, hts⟩ hK (c_findHeads l G a p N B F L hTI Hd C w n0 cs sn 0 (by omega) hnd) gX0_largest_X0_findHeads rfl (by decide +kernel) ⟨Nat.le_of_ble_eq_true rfl, Nat.le_of_ble_eq_true rfl⟩ hP 11 rfl rfl rfl rfl hl.1 rfl (Nat.le_of_ble_eq_true rfl) dX0_largest_3 ⟨Nat.le_refl _, Nat.le_refl _⟩ hS (fun _ h => h) (fun v9 H9 locs hR9 hk9 hS => ?_)
  obtain ⟨rfl, H1, h1a, h1b, hP⟩ := hR9
  clear hk9
  generalize H9 = H at hP hS ⊢
  refine W.eq (g2 := F0 m 6 ls []) rfl ?_
  refine lv_aload_n hx hb dX0_largest_6 rfl (lv_at hl 0 rfl) ?_
  refine lv_aload_n hx hb dX0_largest_7 rfl (lv_at hl 1 rfl) ?_
  refine lv_iconst (v := nI 1) hx hb dX0_largest_8 rfl ?_
  refine z_callV (rest := []) 2 ⟨hx, hb, hml, hown, hts⟩ hK (c_findHeads l G a p N B F L hTI H1 C w n0 cs sn 1 (by omega) hnd) gX0_largest_X0_findHeads rfl (by decide +kernel) ⟨Nat.le_of_ble_eq_true rfl, Nat.le_of_ble_eq_true rfl⟩ hP 11 rfl rfl rfl rfl hl.1 rfl (Nat.le_of_ble_eq_true rfl) dX0_largest_9 ⟨Nat.le_refl _, Nat.le_refl _⟩ hS (fun _ h => h) (fun v9 H9 locs hR9 hk9 hS => ?_)
  obtain ⟨rfl, H2, h2a, h2b, hP⟩ := hR9
  clear hk9
  generalize H9 = H at hP hS ⊢
  refine W.eq (g2 := F0 m 12 ls []) rfl ?_
  have hH : ∀ d i, d < 2 → i < L.length → H2 d (p i) = p (fh (key d L) i) := fun d i hd hi => by rcases (show d = 0 ∨ d = 1 by omega) with rfl | rfl; rw [h2b 0 (by decide)]; exact h1a i hi; exact h2a i hi
  refine lv_aload_n hx hb dX0_largest_12 rfl (lv_at hl 0 rfl) ?_
  refine lv_aload_n hx hb dX0_largest_13 rfl (lv_at hl 1 rfl) ?_
  refine z_callV (rest := []) 1 ⟨hx, hb, hml, hown, hts⟩ hK (c_takeFree l G a p N B F L hTI H2 C w n0 cs sn hH hnd) gX0_largest_X0_takeFree rfl (by decide +kernel) ⟨Nat.le_of_ble_eq_true rfl, Nat.le_of_ble_eq_true rfl⟩ hP 11 rfl rfl rfl rfl hl.1 rfl (Nat.le_of_ble_eq_true rfl) dX0_largest_14 ⟨Nat.le_refl _, Nat.le_refl _⟩ hS (fun _ h => h) (fun v9 H9 locs hR9 hk9 hS => ?_)
  obtain ⟨C1, k0, k1, rfl, hCO, hMJ, hP⟩ := hR9
  clear hk9
  generalize H9 = H at hP hS ⊢
  refine W.eq (g2 := F0 m 17 ls [.int (nI (cz (fun r => om (k1 r)) L.length))]) rfl ?_
  refine lv_istore_n (lv' := [(2, .int (nI (cz (fun r => om (k1 r)) L.length))), (0, .ref (a 17)), (1, .ref (a 0))]) hx hb dX0_largest_17 rfl hl (by decide) rfl (fun ls hl => ?_)
  refine lv_iload_n hx hb dX0_largest_18 rfl (lv_at hl 0 rfl) ?_
  refine lv_istore_n (lv' := [(3, .int (nI (cz (fun r => om (k1 r)) L.length))), (2, .int (nI (cz (fun r => om (k1 r)) L.length))), (0, .ref (a 17)), (1, .ref (a 0))]) hx hb dX0_largest_19 rfl hl (by decide) rfl (fun ls hl => ?_)
  have loop : ∀ (k9 : Nat) (C : Nat → Nat → Option Nat) (w : Nat → Nat) (n0 : Nat) (cs : Nat → Option Nat) (sn : Nat → Nat) (k0 : Nat → Option Nat) (k1 : Nat → Option Nat) (H : Heap) (locs : List Loc) (ls : Array Slot), (L.length < cz (fun r => om (k1 r)) L.length + k9 ∧ cz (fun r => om (k1 r)) L.length ≤ L.length) → (CO p L.length C k0 k1) → (MJ L k0 k1) → va_P G.1 vwCl (cT G a p N B F L.length ++ cM G a H2 C w n0 cs sn) H → va_S (fun q => q ∈ aTM a) s.heap H locs → lv_has ls 4 [(3, .int (nI (cz (fun r => om (k1 r)) L.length))), (2, .int (nI (cz (fun r => om (k1 r)) L.length))), (0, .ref (a 17)), (1, .ref (a 0))] → Wz p9 l e 3 71 s m [.ref (a 17), .ref (a 0)] below meth c (fun q => q ∈ aTM a) (fun x h => ∃ z : Nat, x = some (.int (nI z)) ∧ isMM L z ∧ ∃ (Hd' : Nat → Nat → Nat) (C' : Nat → Nat → Option Nat) (w' : Nat → Nat) (n' : Nat) (cs' : Nat → Option Nat) (sn' : Nat → Nat), va_P G.1 vwCl (cT G a p N B F L.length ++ cM G a Hd' C' w' n' cs' sn') h) H locs (F0 m 20 ls []) := by
    intro k9
    induction k9 with
    | zero =>
      intro C w n0 cs sn k0 k1 H locs ls hfuel hCO hMJ hP hS hl
      exact absurd hfuel (by omega)
    | succ k9 ih =>
      intro C w n0 cs sn k0 k1 H locs ls hfuel hCO hMJ hP hS hl
      have hcl := cz_le (fun r => om (k1 r)) L.length
      refine lv_iload_n hx hb dX0_largest_20 rfl (lv_at hl 0 rfl) ?_
      refine lv_aload_n hx hb dX0_largest_21 rfl (lv_at hl 3 rfl) ?_
      refine va_getN (D := G.1) (host := "PairThreads") (ci := 2) (v := .int (nI L.length)) (C := RX2) (T := TX2) (N := 5) hx hb hts hinX2 hown hK.1 hP 0 rfl rfl 4 (by decide) hK.2.nlX0_size (fun _ h9 => h9) rfl dX0_largest_22 ?_
      refine z_icmp_ge (tgt := 45) hx hb (by omega) (by omega) dX0_largest_25 (by decide) (fun hc1 => ?_) (fun hc1 => ?_)
      · refine lv_iload_n hx hb dX0_largest_45 rfl (lv_at hl 1 rfl) ?_
        exact z_iret hx hb hr hlocks ⟨_, rfl, MJ_full hMJ (by omega), H2, C, w, n0, cs, sn, hP⟩ hS dX0_largest_46
      · refine lv_aload_n hx hb dX0_largest_28 rfl (lv_at hl 2 rfl) ?_
        refine lv_aload_n hx hb dX0_largest_29 rfl (lv_at hl 3 rfl) ?_
        refine z_callV (rest := []) 1 ⟨hx, hb, hml, hown, hts⟩ hK (c_grow l G a p N B F L hTI H2 C w n0 cs sn k0 k1 hH hCO hMJ hnd) gX0_largest_X0_grow rfl (by decide +kernel) ⟨Nat.le_of_ble_eq_true rfl, Nat.le_of_ble_eq_true rfl⟩ hP 11 rfl rfl rfl rfl hl.1 rfl (Nat.le_of_ble_eq_true rfl) dX0_largest_30 ⟨Nat.le_refl _, Nat.le_refl _⟩ hS (fun _ h => h) (fun v9 H9 locs hR9 hk9 hS => ?_)
        obtain ⟨z, C3, w3, n3, cs3, sn3, e0, e1, rfl, hCO3, hMJ3, hz, hP⟩ := hR9
        clear hk9
        generalize H9 = H at hP hS ⊢
        refine W.eq (g2 := F0 m 33 ls [.int (nI z)]) rfl ?_
        rcases hz with ⟨rfl, hcz⟩ | ⟨rfl, -, hMM⟩
        · refine z_if_eq (tgt := 45) hx hb (by omega) dX0_largest_33 (by decide) (fun hc2 => ?_) (fun hc2 => ?_)
          · exact absurd hc2 (by decide)
          · refine z_iinc (lv' := [(2, .int (nI (cz (fun r => om (k1 r)) L.length + 1))), (3, .int (nI (cz (fun r => om (k1 r)) L.length))), (0, .ref (a 17)), (1, .ref (a 0))]) hx hb dX0_largest_36 hl (k := 1) rfl (by decide) rfl (fun ls hl => ?_)
            refine z_iinc (lv' := [(3, .int (nI (cz (fun r => om (k1 r)) L.length + 1))), (2, .int (nI (cz (fun r => om (k1 r)) L.length + 1))), (0, .ref (a 17)), (1, .ref (a 0))]) hx hb dX0_largest_39 hl (k := 1) rfl (by decide) rfl (fun ls hl => ?_)
            refine lv_goto (tgt := 20) hx hb dX0_largest_42 (by decide) ?_
            have hl : lv_has ls 4 [(3, .int (nI (cz (fun r => om (e1 r)) L.length))), (2, .int (nI (cz (fun r => om (e1 r)) L.length))), (0, .ref (a 17)), (1, .ref (a 0))] := by rw [hcz]; exact hl
            exact ih C3 w3 n3 cs3 sn3 e0 e1 H locs ls ⟨by omega, by omega⟩ hCO3 hMJ3 hP hS (lv_sub hl [0, 1, 2, 3] rfl)
        · refine z_if_eq (tgt := 45) hx hb (by omega) dX0_largest_33 (by decide) (fun hc3 => ?_) (fun hc3 => ?_)
          · refine lv_iload_n hx hb dX0_largest_45 rfl (lv_at hl 1 rfl) ?_
            exact z_iret hx hb hr hlocks ⟨_, rfl, hMM, H2, C3, w3, n3, cs3, sn3, hP⟩ hS dX0_largest_46
          · exact absurd rfl hc3
  have hcl := cz_le (fun r => om (k1 r)) L.length
  exact loop (L.length + 1) C1 w n0 cs sn k0 k1 _ _ ls ⟨by omega, by omega⟩ hCO hMJ hP hS (lv_sub hl [0, 1, 2, 3] rfl)
