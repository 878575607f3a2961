set_option maxHeartbeats 4000000 in
set_option maxRecDepth 100000 in
/-- the model: turn -/
theorem c_Rturn (l : Launch) (G : Gd) (b : Nat → Nat) (lf : Nat → Int32) (rt : Nat → Int32) (lo : Nat → Nat) (ro : Nat → Nat) (fo : Nat → Option Nat) (no : Nat → Option Nat) (lm : Nat) (rm : Nat) (pa : Nat → Option Nat) (mt : Nat → Int32) (q : Nat → Nat) (cf : Nat → Option Nat) (fa : Nat → Nat) (kp : Nat → Int32) (L : List Pr) (hMI : MI lf rt L) (st last e0 t : Nat) (cf0 : Nat → Option Nat) (DL DR : Nat → Prop) (hlo : ∀ k, k < L.length → lo k < lm) (hro : ∀ k, k < L.length → ro k < rm) (hlm : lm ≤ 300) (hrm : rm ≤ 300) (hG : GB L.length lm rm lo ro pa st e0 q cf0) (hM : MT L.length rm lo ro pa) (hu : ∀ x, x < rm → ¬ pa x = some st) (hD : CD L.length rm lo ro pa DL DR) (hcf : cf = va_up cf0 last (some (q t))) (ht : t < e0) (hlast : last < rm) (hpl : pa last = none) (hEt : Ed L.length lo ro (q t) last) (hnd : (aR b).Nodup) : Mt l yX4_turn wsX4_turn 0 0 [.ref (b 0), .int (nI st), .int (nI last)] G (cR G b L.length lf rt lo ro fo no lm rm pa mt q cf fa kp) (fun q => q ∈ aR b) (fun r h => r = none ∧ ∃ pa' : Nat → Option Nat, FN L.length rm lo ro pa st last DR pa' ∧ va_P G.1 vwCl (cR G b L.length lf rt lo ro fo no lm rm pa' mt q cf fa kp) h) := by
  refine Mt.mk cX4_turn 8 none (by decide) rfl (Nat.le_of_ble_eq_true rfl) ?_
  intro p9 e s m below meth c ls hx hb hr hml hts hown hlocks hP hK hl
  have hinX4 : ∀ w ∈ wsX40, w ∈ wsX4_turn := by decide +kernel
  have hS : va_S (fun q => q ∈ aR b) s.heap s.heap [] := va_S.rf
  have hl : lv_has ls 8 [(0, .ref (b 0)), (1, .int (nI st)), (2, .int (nI last))] := hl
  have hown : s.vm.findClass RX4 = some m.cls := hown
  have hDD : ∀ ws : va_W, ws.map Prod.fst = aR b → va_D (fun q => q ∈ aR b) ws := D_of hnd (fun q h => h)
  have hE : ∀ y l, y < rm → cf y = some l → Ed L.length lo ro l y := fun y l9 hy h9 => by
    by_cases e1 : y = last
    · rw [hcf, e1, up_s] at h9; rw [← Option.some.inj h9, e1]; exact hEt
    · rw [hcf, up_n e1] at h9; exact (hG.2.2.2.2.1 y l9 hy h9).1
  have hst : st < lm := by rw [← hG.2.1]; exact hG.2.2.1 0 hG.1
  obtain ⟨pa0, hpa0⟩ : ∃ z, z = pa := ⟨_, rfl⟩
  rw [← hpa0] at hG hM hu hD hpl
  have hIV0 := IV_0 hG hM hD hcf ht hlast hpl
  have hle := GB_le hG
  refine lv_iload_n hx hb dX4_turn_0 rfl (lv_at hl 2 rfl) ?_
  refine lv_istore_n (lv' := [(3, .int (nI last)), (0, .ref (b 0)), (1, .int (nI st)), (2, .int (nI last))]) hx hb dX4_turn_1 rfl hl (by decide) rfl (fun ls hl => ?_)
  refine lv_iconst (v := nI 1) hx hb dX4_turn_2 rfl ?_
  refine lv_istore (lv' := [(4, .int (nI 1)), (3, .int (nI last)), (0, .ref (b 0)), (1, .int (nI st)), (2, .int (nI last))]) hx hb dX4_turn_3 hl (by decide) rfl (fun ls hl => ?_)
  have hl : lv_has ls 8 [(4, .int (nI 1)), (3, .int (lk (some last))), (0, .ref (b 0)), (1, .int (nI st)), (2, .int (nI last))] := hl
  have loop : ∀ (k9 : Nat) (gz : Nat) (o3 : Option Nat) (pa : Nat → Option Nat) (c9 : Nat) (H : Heap) (locs : List Loc) (ls : Array Slot), (c9 + 2 * gz < k9) → ((gz = 1 ∧ ∃ r, o3 = some r ∧ IV L.length rm lo ro pa0 last e0 q cf DR pa r c9) ∨ (gz = 0 ∧ FN L.length rm lo ro pa0 st last DR pa)) → va_P G.1 vwCl (cR G b L.length lf rt lo ro fo no lm rm pa mt q cf fa kp) H → va_S (fun q => q ∈ aR b) s.heap H locs → lv_has ls 8 [(3, .int (lk o3)), (4, .int (nI gz)), (0, .ref (b 0)), (1, .int (nI st)), (2, .int (nI last))] → Wz p9 l e 0 0 s m [.ref (b 0), .int (nI st), .int (nI last)] below meth c (fun q => q ∈ aR b) (fun r h => r = none ∧ ∃ pa' : Nat → Option Nat, FN L.length rm lo ro pa0 st last DR pa' ∧ va_P G.1 vwCl (cR G b L.length lf rt lo ro fo no lm rm pa' mt q cf fa kp) h) H locs (F0 m 5 ls []) := by
    intro k9
    induction k9 with
    | zero =>
      intro gz o3 pa c9 H locs ls hfuel hst9 hP hS hl
      exact absurd hfuel (by omega)
    | succ k9 ih =>
      intro gz o3 pa c9 H locs ls hfuel hst9 hP hS hl
      refine lv_iload hx hb dX4_turn_5 (lv_at hl 1 rfl) ?_
      refine z_if_eq (tgt := 87) hx hb (by rcases hst9 with ⟨h, -⟩ | ⟨h, -⟩ <;> omega) dX4_turn_7 (by decide) (fun hc1 => ?_) (fun hc1 => ?_)
      · rcases hst9 with ⟨h9, -⟩ | ⟨-, hFN⟩
        · omega
        · exact z_vret hx hb hr hlocks ⟨rfl, pa, hFN, hP⟩ hS dX4_turn_87
      · rcases hst9 with ⟨h9, r9, ho3, hIV⟩ | ⟨h9, -⟩
        · subst ho3
          subst h9
          have hl : lv_has ls 8 [(3, .int (nI r9)), (4, .int (nI 1)), (0, .ref (b 0)), (1, .int (nI st)), (2, .int (nI last))] := hl
          have hI := id hIV
          obtain ⟨i1, i2, i3, i4, i5, i6, i7, i8, i9, i10, i11, i12, i13⟩ := hI
          have hqc := hG.2.2.1 c9 i2
          have hpl9 : ∀ x k, x < rm → pa x = some k → k < lm := fun x k hx9 hk => by obtain ⟨y, y1, y2, -⟩ := i8 x k hx9 hk; rw [← y2]; exact hlo y y1
          refine lv_aload_n hx hb dX4_turn_10 rfl (lv_at hl 2 rfl) ?_
          refine va_get (D := G.1) (ci := 4) (v := .ref (b 10)) (C := RX4) (T := TX4) (N := 15) hx hb hts hinX4 hown hK.1 hP 0 rfl rfl 12 (by decide) (hts (.fieldLink RX4 38 "PairThreadsModel" "comesFrom" "[I") (by decide +kernel)) (fun _ h9 => h9) rfl dX4_turn_11 ?_
          refine lv_iload_n hx hb dX4_turn_14 rfl (lv_at hl 0 rfl) ?_
          refine z_ialdO hx hb hK hP 10 rfl (j := r9) (by omega) (by decide) dX4_turn_15 ?_
          refine z_top (y := nI (q c9)) ((congrArg lk i3).trans rfl) ?_
          refine lv_istore (lv' := [(5, .int (nI (q c9))), (3, .int (nI r9)), (4, .int (nI 1)), (0, .ref (b 0)), (1, .int (nI st)), (2, .int (nI last))]) hx hb dX4_turn_16 hl (by decide) rfl (fun ls hl => ?_)
          refine lv_iconst (v := (-1)) hx hb dX4_turn_18 rfl ?_
          refine lv_istore (lv' := [(6, .int ((-1))), (5, .int (nI (q c9))), (3, .int (nI r9)), (4, .int (nI 1)), (0, .ref (b 0)), (1, .int (nI st)), (2, .int (nI last))]) hx hb dX4_turn_19 hl (by decide) rfl (fun ls hl => ?_)
          refine lv_iconst (v := nI 0) hx hb dX4_turn_21 rfl ?_
          refine lv_istore (lv' := [(7, .int (nI 0)), (6, .int ((-1))), (5, .int (nI (q c9))), (3, .int (nI r9)), (4, .int (nI 1)), (0, .ref (b 0)), (1, .int (nI st)), (2, .int (nI last))]) hx hb dX4_turn_22 hl (by decide) rfl (fun ls hl => ?_)
          have hl : lv_has ls 8 [(7, .int (nI 0)), (6, .int (lk none)), (5, .int (nI (q c9))), (3, .int (nI r9)), (4, .int (nI 1)), (0, .ref (b 0)), (1, .int (nI st)), (2, .int (nI last))] := hl
          have ihout := ih
          have loop2 : ∀ (k9 : Nat) (j : Nat) (o6 : Option Nat) (H : Heap) (locs : List Loc) (ls : Array Slot), (rm < j + k9) → (j ≤ rm) → ((o6 = none ∧ ∀ x, x < j → ¬ pa x = some (q c9)) ∨ ∃ x, x < j ∧ o6 = some x ∧ pa x = some (q c9)) → va_P G.1 vwCl (cR G b L.length lf rt lo ro fo no lm rm pa mt q cf fa kp) H → va_S (fun q => q ∈ aR b) s.heap H locs → lv_has ls 8 [(7, .int (nI j)), (6, .int (lk o6)), (5, .int (nI (q c9))), (3, .int (nI r9)), (4, .int (nI 1)), (0, .ref (b 0)), (1, .int (nI st)), (2, .int (nI last))] → Wz p9 l e 0 0 s m [.ref (b 0), .int (nI st), .int (nI last)] below meth c (fun q => q ∈ aR b) (fun r h => r = none ∧ ∃ pa' : Nat → Option Nat, FN L.length rm lo ro pa0 st last DR pa' ∧ va_P G.1 vwCl (cR G b L.length lf rt lo ro fo no lm rm pa' mt q cf fa kp) h) H locs (F0 m 24 ls []) := by
            intro k9
            induction k9 with
            | zero =>
              intro j o6 H locs ls hfuel hj ho6 hP hS hl
              exact absurd hfuel (by omega)
            | succ k9 ih =>
              intro j o6 H locs ls hfuel hj ho6 hP hS hl
              refine lv_iload hx hb dX4_turn_24 (lv_at hl 0 rfl) ?_
              refine lv_aload_n hx hb dX4_turn_26 rfl (lv_at hl 5 rfl) ?_
              refine va_get (D := G.1) (ci := 4) (v := .int (nI rm)) (C := RX4) (T := TX4) (N := 15) hx hb hts hinX4 hown hK.1 hP 0 rfl rfl 8 (by decide) (hts (.fieldLink RX4 76 "PairThreadsModel" "rightMany" "I") (by decide +kernel)) (fun _ h9 => h9) rfl dX4_turn_27 ?_
              refine z_icmp_ge (tgt := 60) hx hb (by omega) (by omega) dX4_turn_30 (by decide) (fun hc2 => ?_) (fun hc2 => ?_)
              · refine lv_aload_n hx hb dX4_turn_60 rfl (lv_at hl 5 rfl) ?_
                refine va_get (D := G.1) (ci := 4) (v := .ref (b 7)) (C := RX4) (T := TX4) (N := 15) hx hb hts hinX4 hown hK.1 hP 0 rfl rfl 9 (by decide) (hts (.fieldLink RX4 28 "PairThreadsModel" "partner" "[I") (by decide +kernel)) (fun _ h9 => h9) rfl dX4_turn_61 ?_
                refine lv_iload_n hx hb dX4_turn_64 rfl (lv_at hl 3 rfl) ?_
                refine lv_iload hx hb dX4_turn_65 (lv_at hl 2 rfl) ?_
                refine z_top (y := lk (some (q c9))) (rfl) ?_
                refine z_iastO hx hb hK hP (hDD _ rfl) hS 7 rfl (j := r9) (by omega) (by decide) dX4_turn_67 (fun H locs hP hS => ?_)
                have hP : va_P G.1 vwCl (cR G b L.length lf rt lo ro fo no lm rm (va_up pa r9 (some (q c9))) mt q cf fa kp) H := hP
                refine lv_iload hx hb dX4_turn_68 (lv_at hl 2 rfl) ?_
                refine lv_iload_n hx hb dX4_turn_70 rfl (lv_at hl 6 rfl) ?_
                refine z_icmp_eq (tgt := 78) hx hb (by omega) (by omega) dX4_turn_71 (by decide) (fun hc3 => ?_) (fun hc3 => ?_)
                · have hc0 : c9 = 0 := hG.2.2.2.1 c9 0 i2 hG.1 (by rw [hG.2.1]; exact hc3)
                  subst hc0
                  have hFN := IV_f hG hu hcf hE hIV
                  refine lv_iconst (v := nI 0) hx hb dX4_turn_78 rfl ?_
                  refine lv_istore (lv' := [(4, .int (nI 0)), (7, .int (nI j)), (6, .int (lk o6)), (5, .int (nI (q 0))), (3, .int (nI r9)), (0, .ref (b 0)), (1, .int (nI st)), (2, .int (nI last))]) hx hb dX4_turn_79 hl (by decide) rfl (fun ls hl => ?_)
                  refine lv_iload hx hb dX4_turn_81 (lv_at hl 2 rfl) ?_
                  refine lv_istore_n (lv' := [(3, .int (lk o6)), (4, .int (nI 0)), (7, .int (nI j)), (6, .int (lk o6)), (5, .int (nI (q 0))), (0, .ref (b 0)), (1, .int (nI st)), (2, .int (nI last))]) hx hb dX4_turn_83 rfl hl (by decide) rfl (fun ls hl => ?_)
                  refine lv_goto (tgt := 5) hx hb dX4_turn_84 (by decide) ?_
                  rw [hG.2.1] at hP
                  exact ihout 0 o6 (va_up pa r9 (some st)) 0 H locs ls (by omega) (Or.inr ⟨rfl, hFN⟩) hP hS (lv_sub hl [0, 1, 5, 6, 7] rfl)
                · have hc0 : 0 < c9 := by rcases Nat.eq_zero_or_pos c9 with z | z; exact absurd (by rw [z]; exact hG.2.1) hc3; exact z
                  obtain ⟨r0, j0, b1, b2, b3, b4⟩ := hG.2.2.2.2.2.2 c9 hc0 i2
                  obtain ⟨y9, y1, -, y3⟩ := i7 _ r0 b1 b4
                  rcases ho6 with ⟨-, h8⟩ | ⟨x9, h7, h8, h6⟩
                  · exact absurd y3 (h8 y9 (by omega))
                  · subst h8
                    obtain ⟨j9, hj9, hIV9⟩ := IV_s hG hM hD hcf hpl hE hIV hc0 (show x9 < rm by omega) h6
                    refine lv_iconst (v := nI 1) hx hb dX4_turn_74 rfl ?_
                    refine lv_goto (tgt := 79) hx hb dX4_turn_75 (by decide) ?_
                    refine lv_istore (lv' := [(4, .int (nI 1)), (7, .int (nI j)), (6, .int (lk (some x9))), (5, .int (nI (q c9))), (3, .int (nI r9)), (0, .ref (b 0)), (1, .int (nI st)), (2, .int (nI last))]) hx hb dX4_turn_79 hl (by decide) rfl (fun ls hl => ?_)
                    refine lv_iload hx hb dX4_turn_81 (lv_at hl 2 rfl) ?_
                    refine lv_istore_n (lv' := [(3, .int (lk (some x9))), (4, .int (nI 1)), (7, .int (nI j)), (6, .int (lk (some x9))), (5, .int (nI (q c9))), (0, .ref (b 0)), (1, .int (nI st)), (2, .int (nI last))]) hx hb dX4_turn_83 rfl hl (by decide) rfl (fun ls hl => ?_)
                    refine lv_goto (tgt := 5) hx hb dX4_turn_84 (by decide) ?_
                    exact ihout 1 (some x9) (va_up pa r9 (some (q c9))) j9 H locs ls (by omega) (Or.inl ⟨rfl, x9, rfl, hIV9⟩) hP hS (lv_sub hl [0, 1, 5, 6, 7] rfl)
              · refine lv_aload_n hx hb dX4_turn_33 rfl (lv_at hl 5 rfl) ?_
                refine va_get (D := G.1) (ci := 4) (v := .ref (b 7)) (C := RX4) (T := TX4) (N := 15) hx hb hts hinX4 hown hK.1 hP 0 rfl rfl 9 (by decide) (hts (.fieldLink RX4 28 "PairThreadsModel" "partner" "[I") (by decide +kernel)) (fun _ h9 => h9) rfl dX4_turn_34 ?_
                refine lv_iload hx hb dX4_turn_37 (lv_at hl 0 rfl) ?_
                refine z_ialdO hx hb hK hP 7 rfl (j := j) (by omega) (by decide) dX4_turn_39 ?_
                refine lv_iload hx hb dX4_turn_40 (lv_at hl 2 rfl) ?_
                refine lv_icmp_ne (tgt := 50) hx hb dX4_turn_42 (by decide) (fun hc4 => ?_) (fun hc4 => ?_)
                · have hne : ¬ pa j = some (q c9) := fun z => hc4 ((lk_eq (fun k hk => by have := hpl9 j k (by omega) hk; omega) (by omega)).mpr z)
                  refine lv_iload hx hb dX4_turn_50 (lv_at hl 1 rfl) ?_
                  refine lv_istore (lv' := [(6, .int (lk o6)), (7, .int (nI j)), (5, .int (nI (q c9))), (3, .int (nI r9)), (4, .int (nI 1)), (0, .ref (b 0)), (1, .int (nI st)), (2, .int (nI last))]) hx hb dX4_turn_52 hl (by decide) rfl (fun ls hl => ?_)
                  refine z_iinc (lv' := [(7, .int (nI (j + 1))), (6, .int (lk o6)), (5, .int (nI (q c9))), (3, .int (nI r9)), (4, .int (nI 1)), (0, .ref (b 0)), (1, .int (nI st)), (2, .int (nI last))]) hx hb dX4_turn_54 hl (k := 1) rfl (by decide) rfl (fun ls hl => ?_)
                  refine lv_goto (tgt := 24) hx hb dX4_turn_57 (by decide) ?_
                  exact ih (j + 1) o6 H locs ls (by omega) (by omega) (by rcases ho6 with ⟨e1, h1⟩ | ⟨x, a1, a2, a3⟩; exact Or.inl ⟨e1, fun x hx9 => by rcases Nat.lt_succ_iff_lt_or_eq.mp hx9 with z | z; exact h1 x z; rw [z]; exact hne⟩; exact Or.inr ⟨x, by omega, a2, a3⟩) hP hS (lv_sub hl [0, 1, 2, 3, 4, 5, 6, 7] rfl)
                · have heq : pa j = some (q c9) := (lk_eq (fun k hk => by have := hpl9 j k (by omega) hk; omega) (by omega)).mp hc4
                  refine lv_iload hx hb dX4_turn_45 (lv_at hl 0 rfl) ?_
                  refine lv_goto (tgt := 52) hx hb dX4_turn_47 (by decide) ?_
                  refine z_top (y := lk (some j)) (rfl) ?_
                  refine lv_istore (lv' := [(6, .int (lk (some j))), (7, .int (nI j)), (5, .int (nI (q c9))), (3, .int (nI r9)), (4, .int (nI 1)), (0, .ref (b 0)), (1, .int (nI st)), (2, .int (nI last))]) hx hb dX4_turn_52 hl (by decide) rfl (fun ls hl => ?_)
                  refine z_iinc (lv' := [(7, .int (nI (j + 1))), (6, .int (lk (some j))), (5, .int (nI (q c9))), (3, .int (nI r9)), (4, .int (nI 1)), (0, .ref (b 0)), (1, .int (nI st)), (2, .int (nI last))]) hx hb dX4_turn_54 hl (k := 1) rfl (by decide) rfl (fun ls hl => ?_)
                  refine lv_goto (tgt := 24) hx hb dX4_turn_57 (by decide) ?_
                  exact ih (j + 1) (some j) H locs ls (by omega) (by omega) (Or.inr ⟨j, by omega, rfl, heq⟩) hP hS (lv_sub hl [0, 1, 2, 3, 4, 5, 6, 7] rfl)
          exact loop2 (rm + 1) 0 none _ _ ls (by omega) (by omega) (Or.inl ⟨rfl, fun x hx9 => absurd hx9 (Nat.not_lt_zero x)⟩) hP hS (lv_sub hl [0, 1, 2, 3, 4, 5, 6, 7] rfl)
        · exact absurd h9 hc1
  rw [hpa0] at loop hIV0
  exact loop (t + 3) 1 (some last) pa t _ _ ls (by omega) (Or.inl ⟨rfl, last, rfl, hIV0⟩) hP hS (lv_sub hl [1, 0, 2, 3, 4] rfl)

set_option maxHeartbeats 4000000 in
set_option maxRecDepth 100000 in
/-- the model: grows -/
theorem c_grows (l : Launch) (G : Gd) (b : Nat → Nat) (lf : Nat → Int32) (rt : Nat → Int32) (lo : Nat → Nat) (ro : Nat → Nat) (fo : Nat → Option Nat) (no : Nat → Option Nat) (lm : Nat) (rm : Nat) (pa : Nat → Option Nat) (mt : Nat → Int32) (q : Nat → Nat) (cf : Nat → Option Nat) (fa : Nat → Nat) (kp : Nat → Int32) (L : List Pr) (hMI : MI lf rt L) (st : Nat) (DL DR : Nat → Prop) (hlo : ∀ k, k < L.length → lo k < lm) (hro : ∀ k, k < L.length → ro k < rm) (hlm : lm ≤ 300) (hrm : rm ≤ 300) (hNC : NC L.length lm lo fo no) (hM : MT L.length rm lo ro pa) (hu : ∀ x, x < rm → ¬ pa x = some st) (hD : CD L.length rm lo ro pa DL DR) (hst : st < lm) (hnd : (aR b).Nodup) : Mt l yX4_grows wsX4_grows 1 27 [.ref (b 0), .int (nI st)] G (cR G b L.length lf rt lo ro fo no lm rm pa mt q cf fa kp) (fun q => q ∈ aR b) (fun r h => ∃ z : Nat, r = some (.int (nI z)) ∧ ∃ (pa' cf' : Nat → Option Nat) (q' : Nat → Nat) (DL' DR' : Nat → Prop), MT L.length rm lo ro pa' ∧ CD L.length rm lo ro pa' DL' DR' ∧ (∀ l9, DL l9 → DL' l9) ∧ ((z = 1 ∧ cz (fun r => om (pa' r)) rm = cz (fun r => om (pa r)) rm + 1 ∧ (∃ y, y < rm ∧ pa' y = some st) ∧ (∀ l9 x, x < rm → pa x = some l9 → ∃ y, y < rm ∧ pa' y = some l9) ∧ ∀ x l9, x < rm → pa' x = some l9 → l9 = st ∨ ∃ y, y < rm ∧ pa y = some l9) ∨ (z = 0 ∧ pa' = pa ∧ DL' st)) ∧ va_P G.1 vwCl (cR G b L.length lf rt lo ro fo no lm rm pa' mt q' cf' fa kp) h) := by
  refine Mt.mk cX4_grows 7 (some .boolean) (by decide) rfl (Nat.le_of_ble_eq_true rfl) ?_
  intro p9 e s m below meth c ls hx hb hr hml hts hown hlocks hP hK hl
  have hinX4 : ∀ w ∈ wsX40, w ∈ wsX4_grows := by decide +kernel
  have hS : va_S (fun q => q ∈ aR b) s.heap s.heap [] := va_S.rf
  have hl : lv_has ls 7 [(0, .ref (b 0)), (1, .int (nI st))] := hl
  have hown : s.vm.findClass RX4 = some m.cls := hown
  have hDD : ∀ ws : va_W, ws.map Prod.fst = aR b → va_D (fun q => q ∈ aR b) ws := D_of hnd (fun q h => h)
  have hn := hMI.1
  refine lv_iconst (v := nI 0) hx hb dX4_grows_0 rfl ?_
  refine lv_istore_n (lv' := [(2, .int (nI 0)), (0, .ref (b 0)), (1, .int (nI st))]) hx hb dX4_grows_1 rfl hl (by decide) rfl (fun ls hl => ?_)
  have loopa : ∀ (k9 : Nat) (k : Nat) (H : Heap) (locs : List Loc) (ls : Array Slot), (rm < k + k9) → (k ≤ rm) → va_P G.1 vwCl (cR G b L.length lf rt lo ro fo no lm rm pa mt q (zo k cf) fa kp) H → va_S (fun q => q ∈ aR b) s.heap H locs → lv_has ls 7 [(2, .int (nI k)), (0, .ref (b 0)), (1, .int (nI st))] → Wz p9 l e 1 27 s m [.ref (b 0), .int (nI st)] below meth c (fun q => q ∈ aR b) (fun r h => ∃ z : Nat, r = some (.int (nI z)) ∧ ∃ (pa' cf' : Nat → Option Nat) (q' : Nat → Nat) (DL' DR' : Nat → Prop), MT L.length rm lo ro pa' ∧ CD L.length rm lo ro pa' DL' DR' ∧ (∀ l9, DL l9 → DL' l9) ∧ ((z = 1 ∧ cz (fun r => om (pa' r)) rm = cz (fun r => om (pa r)) rm + 1 ∧ (∃ y, y < rm ∧ pa' y = some st) ∧ (∀ l9 x, x < rm → pa x = some l9 → ∃ y, y < rm ∧ pa' y = some l9) ∧ ∀ x l9, x < rm → pa' x = some l9 → l9 = st ∨ ∃ y, y < rm ∧ pa y = some l9) ∨ (z = 0 ∧ pa' = pa ∧ DL' st)) ∧ va_P G.1 vwCl (cR G b L.length lf rt lo ro fo no lm rm pa' mt q' cf' fa kp) h) H locs (F0 m 2 ls []) := by
    intro k9
    induction k9 with
    | zero =>
      intro k H locs ls hfuel hk hP hS hl
      exact absurd hfuel (by omega)
    | succ k9 ih =>
      intro k H locs ls hfuel hk hP hS hl
      refine lv_iload_n hx hb dX4_grows_2 rfl (lv_at hl 0 rfl) ?_
      refine lv_aload_n hx hb dX4_grows_3 rfl (lv_at hl 1 rfl) ?_
      refine va_get (D := G.1) (ci := 4) (v := .int (nI rm)) (C := RX4) (T := TX4) (N := 15) hx hb hts hinX4 hown hK.1 hP 0 rfl rfl 8 (by decide) (hts (.fieldLink RX4 76 "PairThreadsModel" "rightMany" "I") (by decide +kernel)) (fun _ h9 => h9) rfl dX4_grows_4 ?_
      refine z_icmp_ge (tgt := 23) hx hb (by omega) (by omega) dX4_grows_7 (by decide) (fun hc1 => ?_) (fun hc1 => ?_)
      · have he : k = rm := by omega
        subst he
        obtain ⟨cf1, hcf1⟩ : ∃ z, z = zo k cf := ⟨_, rfl⟩
        rw [← hcf1] at hP
        have hz1 : ∀ r, r < k → cf1 r = none := fun r hr9 => by rw [hcf1]; exact if_pos hr9
        refine lv_iconst (v := nI 1) hx hb dX4_grows_23 rfl ?_
        refine lv_istore_n (lv' := [(2, .int (nI 1)), (0, .ref (b 0)), (1, .int (nI st))]) hx hb dX4_grows_24 rfl hl (by decide) rfl (fun ls hl => ?_)
        refine lv_aload_n hx hb dX4_grows_25 rfl (lv_at hl 1 rfl) ?_
        refine va_get (D := G.1) (ci := 4) (v := .ref (b 9)) (C := RX4) (T := TX4) (N := 15) hx hb hts hinX4 hown hK.1 hP 0 rfl rfl 11 (by decide) (hts (.fieldLink RX4 35 "PairThreadsModel" "queue" "[I") (by decide +kernel)) (fun _ h9 => h9) rfl dX4_grows_26 ?_
        refine lv_iconst (v := nI 0) hx hb dX4_grows_29 rfl ?_
        refine lv_iload_n hx hb dX4_grows_30 rfl (lv_at hl 2 rfl) ?_
        refine z_iastN hx hb hK hP (hDD _ rfl) hS 9 rfl (j := 0) (by omega) (by decide) dX4_grows_31 (fun H locs hP hS => ?_)
        have hP : va_P G.1 vwCl (cR G b L.length lf rt lo ro fo no lm k pa mt (va_up q 0 st) cf1 fa kp) H := hP
        refine lv_iconst (v := nI 0) hx hb dX4_grows_32 rfl ?_
        refine lv_istore_n (lv' := [(3, .int (nI 0)), (2, .int (nI 1)), (0, .ref (b 0)), (1, .int (nI st))]) hx hb dX4_grows_33 rfl hl (by decide) rfl (fun ls hl => ?_)
        obtain ⟨q1, hq1⟩ : ∃ z, z = va_up q 0 st := ⟨_, rfl⟩
        rw [← hq1] at hP
        have hG1 : GB L.length lm k lo ro pa st 1 q1 cf1 := ⟨by omega, by rw [hq1, up_s], fun i hi => (by rw [show i = 0 by omega, hq1, up_s]; exact hst), fun i j hi hj _ => (by omega), fun r l9 hr9 h9 => (by rw [hz1 r hr9] at h9; cases h9), fun r hr9 h9 => absurd (hz1 r hr9) h9, fun i hi hi2 => by omega⟩
        have loop : ∀ (k9 : Nat) (t : Nat) (n1 : Nat) (q1 : Nat → Nat) (cf1 : Nat → Option Nat) (H : Heap) (locs : List Loc) (ls : Array Slot), (lm < t + k9 ∧ n1 ≤ lm) → (t ≤ n1) → (GB L.length lm k lo ro pa st n1 q1 cf1) → (∀ i, i < t → ∀ x, x < L.length → lo x = q1 i → cf1 (ro x) ≠ none) → va_P G.1 vwCl (cR G b L.length lf rt lo ro fo no lm k pa mt q1 cf1 fa kp) H → va_S (fun q => q ∈ aR b) s.heap H locs → lv_has ls 7 [(3, .int (nI t)), (2, .int (nI n1)), (0, .ref (b 0)), (1, .int (nI st))] → Wz p9 l e 1 27 s m [.ref (b 0), .int (nI st)] below meth c (fun q => q ∈ aR b) (fun r h => ∃ z : Nat, r = some (.int (nI z)) ∧ ∃ (pa' cf' : Nat → Option Nat) (q' : Nat → Nat) (DL' DR' : Nat → Prop), MT L.length k lo ro pa' ∧ CD L.length k lo ro pa' DL' DR' ∧ (∀ l9, DL l9 → DL' l9) ∧ ((z = 1 ∧ cz (fun r => om (pa' r)) k = cz (fun r => om (pa r)) k + 1 ∧ (∃ y, y < k ∧ pa' y = some st) ∧ (∀ l9 x, x < k → pa x = some l9 → ∃ y, y < k ∧ pa' y = some l9) ∧ ∀ x l9, x < k → pa' x = some l9 → l9 = st ∨ ∃ y, y < k ∧ pa y = some l9) ∨ (z = 0 ∧ pa' = pa ∧ DL' st)) ∧ va_P G.1 vwCl (cR G b L.length lf rt lo ro fo no lm k pa' mt q' cf' fa kp) h) H locs (F0 m 34 ls []) := by
          intro k9
          induction k9 with
          | zero =>
            intro t n1 q1 cf1 H locs ls hfuel ht hG hPr hP hS hl
            exact absurd hfuel (by omega)
          | succ k9 ih =>
            intro t n1 q1 cf1 H locs ls hfuel ht hG hPr hP hS hl
            have hle := GB_le hG
            refine lv_iload_n hx hb dX4_grows_34 rfl (lv_at hl 0 rfl) ?_
            refine lv_iload_n hx hb dX4_grows_35 rfl (lv_at hl 1 rfl) ?_
            refine z_icmp_ge (tgt := 148) hx hb (by omega) (by omega) dX4_grows_36 (by decide) (fun hc2 => ?_) (fun hc2 => ?_)
            · have he : t = n1 := by omega
              subst he
              refine lv_iconst (v := nI 0) hx hb dX4_grows_148 rfl ?_
              have hD2 : CD L.length k lo ro pa (fun l9 => DL l9 ∨ ∃ i, i < t ∧ q1 i = l9) (fun r => DR r ∨ cf1 r ≠ none) := by
                refine ⟨fun x hx9 h9 => ?_, fun r hr9 h9 => ?_⟩
                · rcases h9 with h9 | ⟨i, a1, a2⟩
                  · exact Or.inl (hD.1 x hx9 h9)
                  · exact Or.inr (hPr i a1 x hx9 a2.symm)
                · rcases h9 with h9 | h9
                  · obtain ⟨l9, a1, a2⟩ := hD.2 r hr9 h9; exact ⟨l9, a1, Or.inl a2⟩
                  · obtain ⟨i, a1, a2⟩ := hG.2.2.2.2.2.1 r hr9 h9; exact ⟨_, a2, Or.inr ⟨i, a1, rfl⟩⟩
              exact z_zret hx hb hr rfl hlocks ⟨0, rfl, pa, cf1, q1, _, _, hM, hD2, fun l9 h9 => Or.inl h9, Or.inr ⟨rfl, rfl, Or.inr ⟨0, hG.1, hG.2.1⟩⟩, hP⟩ hS dX4_grows_149
            · have hqt := hG.2.2.1 t (by omega)
              obtain ⟨x0, hx0⟩ : ∃ z, z = q1 t := ⟨_, rfl⟩
              rw [← hx0] at hqt
              obtain ⟨j0, hfo, hj0, hlj0, hmx⟩ := hNC.1 x0 hqt
              refine lv_aload_n hx hb dX4_grows_39 rfl (lv_at hl 2 rfl) ?_
              refine va_get (D := G.1) (ci := 4) (v := .ref (b 9)) (C := RX4) (T := TX4) (N := 15) hx hb hts hinX4 hown hK.1 hP 0 rfl rfl 11 (by decide) (hts (.fieldLink RX4 35 "PairThreadsModel" "queue" "[I") (by decide +kernel)) (fun _ h9 => h9) rfl dX4_grows_40 ?_
              refine lv_iload_n hx hb dX4_grows_43 rfl (lv_at hl 0 rfl) ?_
              refine z_ialdN hx hb hK hP 9 rfl (j := t) (by omega) (by decide) dX4_grows_44 ?_
              refine z_top (y := nI x0) (congrArg nI hx0.symm) ?_
              refine lv_istore (lv' := [(4, .int (nI x0)), (3, .int (nI t)), (2, .int (nI n1)), (0, .ref (b 0)), (1, .int (nI st))]) hx hb dX4_grows_45 hl (by decide) rfl (fun ls hl => ?_)
              refine lv_aload_n hx hb dX4_grows_47 rfl (lv_at hl 3 rfl) ?_
              refine va_get (D := G.1) (ci := 4) (v := .ref (b 5)) (C := RX4) (T := TX4) (N := 15) hx hb hts hinX4 hown hK.1 hP 0 rfl rfl 5 (by decide) (hts (.fieldLink RX4 22 "PairThreadsModel" "firstOf" "[I") (by decide +kernel)) (fun _ h9 => h9) rfl dX4_grows_48 ?_
              refine lv_iload hx hb dX4_grows_51 (lv_at hl 0 rfl) ?_
              refine z_ialdO hx hb hK hP 5 rfl (j := x0) (by omega) (by decide) dX4_grows_53 ?_
              refine lv_istore (lv' := [(5, .int (lk (fo x0))), (4, .int (nI x0)), (3, .int (nI t)), (2, .int (nI n1)), (0, .ref (b 0)), (1, .int (nI st))]) hx hb dX4_grows_54 hl (by decide) rfl (fun ls hl => ?_)
              have hl : lv_has ls 7 [(5, .int (lk (some j0))), (4, .int (nI x0)), (3, .int (nI t)), (2, .int (nI n1)), (0, .ref (b 0)), (1, .int (nI st))] := by rw [← hfo]; exact hl
              have ihout := ih
              have loop2 : ∀ (k9 : Nat) (o : Option Nat) (u : Nat) (n1 : Nat) (q1 : Nat → Nat) (cf1 : Nat → Option Nat) (H : Heap) (locs : List Loc) (ls : Array Slot), (u < k9) → (∀ j, o = some j → j < u) → (t < n1) → (x0 = q1 t) → (GB L.length lm k lo ro pa st n1 q1 cf1) → (∀ i, i < t → ∀ x, x < L.length → lo x = q1 i → cf1 (ro x) ≠ none) → (∀ j, o = some j → j < L.length ∧ lo j = x0) → (∀ x, x < L.length → lo x = x0 → (∀ j, o = some j → j < x) → cf1 (ro x) ≠ none) → va_P G.1 vwCl (cR G b L.length lf rt lo ro fo no lm k pa mt q1 cf1 fa kp) H → va_S (fun q => q ∈ aR b) s.heap H locs → lv_has ls 7 [(5, .int (lk o)), (4, .int (nI x0)), (3, .int (nI t)), (2, .int (nI n1)), (0, .ref (b 0)), (1, .int (nI st))] → Wz p9 l e 1 27 s m [.ref (b 0), .int (nI st)] below meth c (fun q => q ∈ aR b) (fun r h => ∃ z : Nat, r = some (.int (nI z)) ∧ ∃ (pa' cf' : Nat → Option Nat) (q' : Nat → Nat) (DL' DR' : Nat → Prop), MT L.length k lo ro pa' ∧ CD L.length k lo ro pa' DL' DR' ∧ (∀ l9, DL l9 → DL' l9) ∧ ((z = 1 ∧ cz (fun r => om (pa' r)) k = cz (fun r => om (pa r)) k + 1 ∧ (∃ y, y < k ∧ pa' y = some st) ∧ (∀ l9 x, x < k → pa x = some l9 → ∃ y, y < k ∧ pa' y = some l9) ∧ ∀ x l9, x < k → pa' x = some l9 → l9 = st ∨ ∃ y, y < k ∧ pa y = some l9) ∨ (z = 0 ∧ pa' = pa ∧ DL' st)) ∧ va_P G.1 vwCl (cR G b L.length lf rt lo ro fo no lm k pa' mt q' cf' fa kp) h) H locs (F0 m 56 ls []) := by
                intro k9
                induction k9 with
                | zero =>
                  intro o u n1 q1 cf1 H locs ls hfuel hu2 ht hx0 hG hPr ho hCh hP hS hl
                  exact absurd hfuel (by omega)
                | succ k9 ih =>
                  intro o u n1 q1 cf1 H locs ls hfuel hu2 ht hx0 hG hPr ho hCh hP hS hl
                  have hle := GB_le hG
                  refine lv_iload hx hb dX4_grows_56 (lv_at hl 0 rfl) ?_
                  refine lv_iconst (v := (-1)) hx hb dX4_grows_58 rfl ?_
                  refine z_none_eq (tgt := 142) hx hb (fun j hj => by have := (ho j hj).1; omega) dX4_grows_59 (by decide) (fun hc3 => ?_) (fun j hc3 => ?_)
                  · subst hc3
                    refine z_iinc (lv' := [(3, .int (nI (t + 1))), (5, .int (lk none)), (4, .int (nI x0)), (2, .int (nI n1)), (0, .ref (b 0)), (1, .int (nI st))]) hx hb dX4_grows_142 hl (k := 2) rfl (by decide) rfl (fun ls hl => ?_)
                    refine lv_goto (tgt := 34) hx hb dX4_grows_145 (by decide) ?_
                    exact ihout (t + 1) n1 q1 cf1 H locs ls ⟨by omega, by omega⟩ (by omega) hG (fun i hi x hx9 h9 => by rcases Nat.lt_succ_iff_lt_or_eq.mp hi with z | z; exact hPr i z x hx9 h9; rw [z, ← hx0] at h9; exact hCh x hx9 h9 (fun j hj => by cases hj)) hP hS (lv_sub hl [0, 3, 4, 5] rfl)
                  · subst hc3
                    have hl : lv_has ls 7 [(5, .int (nI j)), (4, .int (nI x0)), (3, .int (nI t)), (2, .int (nI n1)), (0, .ref (b 0)), (1, .int (nI st))] := hl
                    obtain ⟨hjn, hlj⟩ := ho j rfl
                    have hrj := hro j hjn
                    have hju := hu2 j rfl
                    have hnx := hNC.2 j hjn
                    obtain ⟨o2, ho2⟩ : ∃ z, z = no j := ⟨_, rfl⟩
                    rw [← ho2] at hnx
                    have hcfb : ∀ k3, cf1 (ro j) = some k3 → k3 < 2 ^ 31 := fun k3 hk3 => by obtain ⟨-, i, a1, a2⟩ := hG.2.2.2.2.1 (ro j) k3 hrj hk3; have := hG.2.2.1 i a1; omega
                    refine lv_aload_n hx hb dX4_grows_62 rfl (lv_at hl 4 rfl) ?_
                    refine va_get (D := G.1) (ci := 4) (v := .ref (b 4)) (C := RX4) (T := TX4) (N := 15) hx hb hts hinX4 hown hK.1 hP 0 rfl rfl 4 (by decide) (hts (.fieldLink RX4 19 "PairThreadsModel" "rightOf" "[I") (by decide +kernel)) (fun _ h9 => h9) rfl dX4_grows_63 ?_
                    refine lv_iload hx hb dX4_grows_66 (lv_at hl 0 rfl) ?_
                    refine z_ialdN hx hb hK hP 4 rfl (j := j) (by omega) (by decide) dX4_grows_68 ?_
                    refine lv_istore (lv' := [(6, .int (nI (ro j))), (5, .int (nI j)), (4, .int (nI x0)), (3, .int (nI t)), (2, .int (nI n1)), (0, .ref (b 0)), (1, .int (nI st))]) hx hb dX4_grows_69 hl (by decide) rfl (fun ls hl => ?_)
                    refine lv_aload_n hx hb dX4_grows_71 rfl (lv_at hl 5 rfl) ?_
                    refine va_get (D := G.1) (ci := 4) (v := .ref (b 10)) (C := RX4) (T := TX4) (N := 15) hx hb hts hinX4 hown hK.1 hP 0 rfl rfl 12 (by decide) (hts (.fieldLink RX4 38 "PairThreadsModel" "comesFrom" "[I") (by decide +kernel)) (fun _ h9 => h9) rfl dX4_grows_72 ?_
                    refine lv_iload hx hb dX4_grows_75 (lv_at hl 0 rfl) ?_
                    refine z_ialdO hx hb hK hP 10 rfl (j := ro j) (by omega) (by decide) dX4_grows_77 ?_
                    refine lv_iconst (v := (-1)) hx hb dX4_grows_78 rfl ?_
                    refine z_none_eq (tgt := 85) hx hb hcfb dX4_grows_79 (by decide) (fun hc4 => ?_) (fun k3 hc4 => ?_)
                    · have hEj : Ed L.length lo ro (q1 t) (ro j) := ⟨j, hjn, by rw [hlj, hx0], rfl⟩
                      have hpab : ∀ k4, pa (ro j) = some k4 → k4 < lm := fun k4 hk4 => by obtain ⟨y, y1, y2, -⟩ := hM.1 (ro j) k4 hrj hk4; rw [← y2]; exact hlo y y1
                      refine lv_aload_n hx hb dX4_grows_85 rfl (lv_at hl 5 rfl) ?_
                      refine va_get (D := G.1) (ci := 4) (v := .ref (b 10)) (C := RX4) (T := TX4) (N := 15) hx hb hts hinX4 hown hK.1 hP 0 rfl rfl 12 (by decide) (hts (.fieldLink RX4 38 "PairThreadsModel" "comesFrom" "[I") (by decide +kernel)) (fun _ h9 => h9) rfl dX4_grows_86 ?_
                      refine lv_iload hx hb dX4_grows_89 (lv_at hl 0 rfl) ?_
                      refine lv_iload hx hb dX4_grows_91 (lv_at hl 2 rfl) ?_
                      refine z_top (y := lk (some x0)) (rfl) ?_
                      refine z_iastO hx hb hK hP (hDD _ rfl) hS 10 rfl (j := ro j) (by omega) (by decide) dX4_grows_93 (fun H locs hP hS => ?_)
                      have hP : va_P G.1 vwCl (cR G b L.length lf rt lo ro fo no lm k pa mt q1 (va_up cf1 (ro j) (some x0)) fa kp) H := hP
                      refine lv_aload_n hx hb dX4_grows_94 rfl (lv_at hl 5 rfl) ?_
                      refine va_get (D := G.1) (ci := 4) (v := .ref (b 7)) (C := RX4) (T := TX4) (N := 15) hx hb hts hinX4 hown hK.1 hP 0 rfl rfl 9 (by decide) (hts (.fieldLink RX4 28 "PairThreadsModel" "partner" "[I") (by decide +kernel)) (fun _ h9 => h9) rfl dX4_grows_95 ?_
                      refine lv_iload hx hb dX4_grows_98 (lv_at hl 0 rfl) ?_
                      refine z_ialdO hx hb hK hP 7 rfl (j := ro j) (by omega) (by decide) dX4_grows_100 ?_
                      refine lv_iconst (v := (-1)) hx hb dX4_grows_101 rfl ?_
                      refine z_none_ne (tgt := 114) hx hb (fun k4 hk4 => by have := hpab k4 hk4; omega) dX4_grows_102 (by decide) (fun k4 hc5 => ?_) (fun hc5 => ?_)
                      · have hl4 := hpab k4 hc5
                        have hG2 := GB_add hG hM hu ht hrj hc4 hEj hc5 hl4
                        have hle2 := GB_le hG2
                        rw [← hx0] at hG2
                        have hvis : ∀ x, cf1 (ro x) ≠ none → va_up cf1 (ro j) (some x0) (ro x) ≠ none := fun x h8 => by by_cases e1 : ro x = ro j; rw [e1, up_s]; exact (fun z => by cases z); rw [up_n e1]; exact h8
                        refine lv_aload_n hx hb dX4_grows_114 rfl (lv_at hl 5 rfl) ?_
                        refine va_get (D := G.1) (ci := 4) (v := .ref (b 9)) (C := RX4) (T := TX4) (N := 15) hx hb hts hinX4 hown hK.1 hP 0 rfl rfl 11 (by decide) (hts (.fieldLink RX4 35 "PairThreadsModel" "queue" "[I") (by decide +kernel)) (fun _ h9 => h9) rfl dX4_grows_115 ?_
                        refine lv_iload_n hx hb dX4_grows_118 rfl (lv_at hl 4 rfl) ?_
                        refine lv_aload_n hx hb dX4_grows_119 rfl (lv_at hl 5 rfl) ?_
                        refine va_get (D := G.1) (ci := 4) (v := .ref (b 7)) (C := RX4) (T := TX4) (N := 15) hx hb hts hinX4 hown hK.1 hP 0 rfl rfl 9 (by decide) (hts (.fieldLink RX4 28 "PairThreadsModel" "partner" "[I") (by decide +kernel)) (fun _ h9 => h9) rfl dX4_grows_120 ?_
                        refine lv_iload hx hb dX4_grows_123 (lv_at hl 0 rfl) ?_
                        refine z_ialdO hx hb hK hP 7 rfl (j := ro j) (by omega) (by decide) dX4_grows_125 ?_
                        refine z_top (y := nI k4) ((congrArg lk hc5).trans rfl) ?_
                        refine z_iastN hx hb hK hP (hDD _ rfl) hS 9 rfl (j := n1) (by omega) (by decide) dX4_grows_126 (fun H locs hP hS => ?_)
                        have hP : va_P G.1 vwCl (cR G b L.length lf rt lo ro fo no lm k pa mt (va_up q1 n1 k4) (va_up cf1 (ro j) (some x0)) fa kp) H := hP
                        refine z_iinc (lv' := [(2, .int (nI (n1 + 1))), (6, .int (nI (ro j))), (5, .int (nI j)), (4, .int (nI x0)), (3, .int (nI t)), (0, .ref (b 0)), (1, .int (nI st))]) hx hb dX4_grows_127 hl (k := 4) rfl (by decide) rfl (fun ls hl => ?_)
                        refine lv_aload_n hx hb dX4_grows_130 rfl (lv_at hl 5 rfl) ?_
                        refine va_get (D := G.1) (ci := 4) (v := .ref (b 6)) (C := RX4) (T := TX4) (N := 15) hx hb hts hinX4 hown hK.1 hP 0 rfl rfl 6 (by decide) (hts (.fieldLink RX4 25 "PairThreadsModel" "nextOf" "[I") (by decide +kernel)) (fun _ h9 => h9) rfl dX4_grows_131 ?_
                        refine lv_iload hx hb dX4_grows_134 (lv_at hl 2 rfl) ?_
                        refine z_ialdO hx hb hK hP 6 rfl (j := j) (by omega) (by decide) dX4_grows_136 ?_
                        refine z_top (y := lk o2) (congrArg lk ho2.symm) ?_
                        refine lv_istore (lv' := [(5, .int (lk o2)), (2, .int (nI (n1 + 1))), (6, .int (nI (ro j))), (4, .int (nI x0)), (3, .int (nI t)), (0, .ref (b 0)), (1, .int (nI st))]) hx hb dX4_grows_137 hl (by decide) rfl (fun ls hl => ?_)
                        refine lv_goto (tgt := 56) hx hb dX4_grows_139 (by decide) ?_
                        exact ih o2 j (n1 + 1) (va_up q1 n1 k4) (va_up cf1 (ro j) (some x0)) H locs ls (by omega) (fun i hi => by rcases hnx with ⟨e1, -⟩ | ⟨i2, e1, e2, -⟩; rw [e1] at hi; cases hi; rw [e1] at hi; cases hi; exact e2) (by omega) (by rw [up_n (by omega)]; exact hx0) hG2 (fun i hi x hx9 h9 => by rw [up_n (by omega)] at h9; exact hvis x (hPr i hi x hx9 h9)) (fun i hi => by rcases hnx with ⟨e1, -⟩ | ⟨i2, e1, e2, e3, -⟩; rw [e1] at hi; cases hi; rw [e1] at hi; cases hi; exact ⟨by omega, e3.trans hlj⟩) (fun x hx9 h9 hbx => by rcases Nat.lt_trichotomy j x with z | z | z; exact hvis x (hCh x hx9 h9 (fun i hi => by cases hi; exact z)); rw [← z]; exact (by rw [up_s]; exact (fun z => by cases z)); rcases hnx with ⟨-, e1⟩ | ⟨i2, e1, e2, e3, e4⟩; exact absurd (h9.trans hlj.symm) (e1 x z); exact absurd (h9.trans hlj.symm) (e4 x (hbx i2 e1) z)) hP hS (lv_sub hl [0, 3, 4, 1, 5, 6] rfl)
                      · refine lv_aload_n hx hb dX4_grows_105 rfl (lv_at hl 5 rfl) ?_
                        refine lv_iload_n hx hb dX4_grows_106 rfl (lv_at hl 6 rfl) ?_
                        refine lv_iload hx hb dX4_grows_107 (lv_at hl 0 rfl) ?_
                        refine z_callV (rest := []) 2 ⟨hx, hb, hml, hown, hts⟩ hK (c_Rturn l G b lf rt lo ro fo no lm k pa mt q1 (va_up cf1 (ro j) (some x0)) fa kp L hMI st (ro j) n1 t cf1 DL DR hlo hro hlm hrm hG hM hu hD (by rw [hx0]) ht hrj hc5 hEj hnd) gX4_grows_X4_turn rfl (by decide +kernel) ⟨Nat.le_of_ble_eq_true rfl, Nat.le_of_ble_eq_true rfl⟩ hP 0 rfl rfl rfl rfl hl.1 rfl (Nat.le_of_ble_eq_true rfl) dX4_grows_109 ⟨Nat.le_refl _, Nat.le_refl _⟩ hS (fun _ h => h) (fun v9 H9 locs hR9 hk9 hS => ?_)
                        obtain ⟨rfl, pa2, hFN, hP⟩ := hR9
                        clear hk9
                        generalize H9 = H at hP hS ⊢
                        refine W.eq (g2 := F0 m 112 ls []) rfl ?_
                        refine lv_iconst (v := nI 1) hx hb dX4_grows_112 rfl ?_
                        obtain ⟨m1, m2, m3, m4, m5, m6, m7⟩ := hFN
                        have hcz2 : cz (fun r => om (pa2 r)) k = cz (fun r => om (pa r)) k + 1 := cz_one hrj (om_0.mpr hc5) (fun z => m5 (om_0.mp z)) (fun i hi hne => by rw [om_0, om_0]; exact (m4 i hi hne).symm)
                        have hD2 : CD L.length k lo ro pa2 DL DR := ⟨hD.1, fun r hr9 h9 => by rw [m6 r hr9 h9]; exact hD.2 r hr9 h9⟩
                        exact z_zret hx hb hr rfl hlocks ⟨1, rfl, pa2, _, q1, DL, DR, m1, hD2, fun l9 h9 => h9, Or.inl ⟨rfl, hcz2, m3, m2, m7⟩, hP⟩ hS dX4_grows_113
                    · refine lv_goto (tgt := 130) hx hb dX4_grows_82 (by decide) ?_
                      refine lv_aload_n hx hb dX4_grows_130 rfl (lv_at hl 5 rfl) ?_
                      refine va_get (D := G.1) (ci := 4) (v := .ref (b 6)) (C := RX4) (T := TX4) (N := 15) hx hb hts hinX4 hown hK.1 hP 0 rfl rfl 6 (by decide) (hts (.fieldLink RX4 25 "PairThreadsModel" "nextOf" "[I") (by decide +kernel)) (fun _ h9 => h9) rfl dX4_grows_131 ?_
                      refine lv_iload hx hb dX4_grows_134 (lv_at hl 1 rfl) ?_
                      refine z_ialdO hx hb hK hP 6 rfl (j := j) (by omega) (by decide) dX4_grows_136 ?_
                      refine z_top (y := lk o2) (congrArg lk ho2.symm) ?_
                      refine lv_istore (lv' := [(5, .int (lk o2)), (6, .int (nI (ro j))), (4, .int (nI x0)), (3, .int (nI t)), (2, .int (nI n1)), (0, .ref (b 0)), (1, .int (nI st))]) hx hb dX4_grows_137 hl (by decide) rfl (fun ls hl => ?_)
                      refine lv_goto (tgt := 56) hx hb dX4_grows_139 (by decide) ?_
                      exact ih o2 j n1 q1 cf1 H locs ls (by omega) (fun i hi => by rcases hnx with ⟨e1, -⟩ | ⟨i2, e1, e2, -⟩; rw [e1] at hi; cases hi; rw [e1] at hi; cases hi; exact e2) ht hx0 hG hPr (fun i hi => by rcases hnx with ⟨e1, -⟩ | ⟨i2, e1, e2, e3, -⟩; rw [e1] at hi; cases hi; rw [e1] at hi; cases hi; exact ⟨by omega, e3.trans hlj⟩) (fun x hx9 h9 hbx => by rcases Nat.lt_trichotomy j x with z | z | z; exact (fun (x : Nat) (h8 : cf1 (ro x) ≠ none) => h8) x (hCh x hx9 h9 (fun i hi => by cases hi; exact z)); rw [← z]; exact (fun z => by rw [hc4] at z; cases z); rcases hnx with ⟨-, e1⟩ | ⟨i2, e1, e2, e3, e4⟩; exact absurd (h9.trans hlj.symm) (e1 x z); exact absurd (h9.trans hlj.symm) (e4 x (hbx i2 e1) z)) hP hS (lv_sub hl [0, 2, 3, 4, 5, 6] rfl)
              exact loop2 (L.length + 2) (some j0) (j0 + 1) n1 q1 cf1 _ _ ls (by omega) (fun j hj => by cases hj; omega) (by omega) hx0 hG hPr (fun j hj => by cases hj; exact ⟨hj0, hlj0⟩) (fun x hx9 h9 hbx => absurd h9 (hmx x (hbx j0 rfl) hx9)) hP hS (lv_sub hl [0, 1, 2, 3, 4, 5] rfl)
        exact loop (lm + 1) 0 1 q1 cf1 _ _ ls ⟨by omega, by omega⟩ (by omega) hG1 (fun i hi => absurd hi (Nat.not_lt_zero i)) hP hS (lv_sub hl [0, 1, 2, 3] rfl)
      · refine lv_aload_n hx hb dX4_grows_10 rfl (lv_at hl 1 rfl) ?_
        refine va_get (D := G.1) (ci := 4) (v := .ref (b 10)) (C := RX4) (T := TX4) (N := 15) hx hb hts hinX4 hown hK.1 hP 0 rfl rfl 12 (by decide) (hts (.fieldLink RX4 38 "PairThreadsModel" "comesFrom" "[I") (by decide +kernel)) (fun _ h9 => h9) rfl dX4_grows_11 ?_
        refine lv_iload_n hx hb dX4_grows_14 rfl (lv_at hl 0 rfl) ?_
        refine lv_iconst (v := (-1)) hx hb dX4_grows_15 rfl ?_
        refine z_top (y := lk none) (rfl) ?_
        refine z_iastO hx hb hK hP (hDD _ rfl) hS 10 rfl (j := k) (by omega) (by decide) dX4_grows_16 (fun H locs hP hS => ?_)
        have hP : va_P G.1 vwCl (cR G b L.length lf rt lo ro fo no lm rm pa mt q (va_up (zo k cf) k none) fa kp) H := hP
        refine z_iinc (lv' := [(2, .int (nI (k + 1))), (0, .ref (b 0)), (1, .int (nI st))]) hx hb dX4_grows_17 hl (k := 0) rfl (by decide) rfl (fun ls hl => ?_)
        refine lv_goto (tgt := 2) hx hb dX4_grows_20 (by decide) ?_
        rw [zo_s] at hP
        exact ih (k + 1) H locs ls (by omega) (by omega) hP hS (lv_sub hl [0, 1, 2] rfl)
  rw [← zo_0 cf] at hP
  exact loopa (rm + 1) 0 _ _ ls (by omega) (by omega) hP hS (lv_sub hl [0, 1, 2] rfl)
