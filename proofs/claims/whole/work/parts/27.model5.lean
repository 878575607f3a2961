set_option maxHeartbeats 4000000 in
set_option maxRecDepth 100000 in
/-- the model: number -/
theorem c_number (l : Launch) (G : Gd) (b : Nat → Nat) (lf : Nat → Int32) (rt : Nat → Int32) (lo : Nat → Nat) (ro : Nat → Nat) (fo : Nat → Option Nat) (no : Nat → Option Nat) (lm : Nat) (rm : Nat) (pa : Nat → Option Nat) (mt : Nat → Int32) (q : Nat → Nat) (cf : Nat → Option Nat) (fa : Nat → Nat) (kp : Nat → Int32) (L : List Pr) (hMI : MI lf rt L) (hnd : (aR b).Nodup) : Mt l yX4_number wsX4_number 0 0 [.ref (b 0)] G (cR G b L.length lf rt lo ro fo no lm rm pa mt q cf fa kp) (fun q => q ∈ aR b) (fun r h => r = none ∧ ∃ (lo' ro' : Nat → Nat) (fo' no' : Nat → Option Nat) (lm' rm' : Nat), NL (key 0 L) L.length lm' lo' ∧ NL (key 1 L) L.length rm' ro' ∧ NC L.length lm' lo' fo' no' ∧ va_P G.1 vwCl (cR G b L.length lf rt lo' ro' fo' no' lm' rm' pa mt q cf fa kp) h) := by
  refine Mt.mk cX4_number 5 none (by decide) rfl (Nat.le_of_ble_eq_true rfl) ?_
  intro p9 e s m below meth c ls hx hb hr hml hts hown hlocks hP hK hl
  have hinX4 : ∀ w ∈ wsX40, w ∈ wsX4_number := by decide +kernel
  have hS : va_S (fun q => q ∈ aR b) s.heap s.heap [] := va_S.rf
  have hl : lv_has ls 5 [(0, .ref (b 0))] := hl
  have hown : s.vm.findClass RX4 = some m.cls := hown
  have hDD : ∀ ws : va_W, ws.map Prod.fst = aR b → va_D (fun q => q ∈ aR b) ws := D_of hnd (fun q h => h)
  have hn := hMI.1
  refine lv_aload_n hx hb dX4_number_0 rfl (lv_at hl 0 rfl) ?_
  refine lv_iconst (v := nI 0) hx hb dX4_number_1 rfl ?_
  refine va_put (D := G.1) (ci := 4) (v := .int (nI 0)) (ty := .int) (C := RX4) (T := TX4) (N := 15) hx hb hts hinX4 tyX4 tyX4_ok nmX4 hown hK.1 hP (hDD _ rfl) hS 0 rfl rfl 7 (by decide) (hts (.fieldLink RX4 73 "PairThreadsModel" "leftMany" "I") (by decide +kernel)) (fun _ h9 => h9) rfl (by decide +kernel) rfl rfl (Nat.le_of_ble_eq_true rfl) dX4_number_2 (fun H locs hP _ hS => ?_)
  have hP : va_P G.1 vwCl (cR G b L.length lf rt lo ro fo no 0 rm pa mt q cf fa kp) H := hP
  refine lv_aload_n hx hb dX4_number_5 rfl (lv_at hl 0 rfl) ?_
  refine lv_iconst (v := nI 0) hx hb dX4_number_6 rfl ?_
  refine va_put (D := G.1) (ci := 4) (v := .int (nI 0)) (ty := .int) (C := RX4) (T := TX4) (N := 15) hx hb hts hinX4 tyX4 tyX4_ok nmX4 hown hK.1 hP (hDD _ rfl) hS 0 rfl rfl 8 (by decide) (hts (.fieldLink RX4 76 "PairThreadsModel" "rightMany" "I") (by decide +kernel)) (fun _ h9 => h9) rfl (by decide +kernel) rfl rfl (Nat.le_of_ble_eq_true rfl) dX4_number_7 (fun H locs hP _ hS => ?_)
  have hP : va_P G.1 vwCl (cR G b L.length lf rt lo ro fo no 0 0 pa mt q cf fa kp) H := hP
  refine lv_iconst (v := nI 0) hx hb dX4_number_10 rfl ?_
  refine lv_istore_n (lv' := [(1, .int (nI 0)), (0, .ref (b 0))]) hx hb dX4_number_11 rfl hl (by decide) rfl (fun ls hl => ?_)
  have loop : ∀ (k9 : Nat) (k : Nat) (lo : Nat → Nat) (ro : Nat → Nat) (fo : Nat → Option Nat) (no : Nat → Option Nat) (lm : Nat) (rm : Nat) (H : Heap) (locs : List Loc) (ls : Array Slot), (L.length < k + k9) → (k ≤ L.length) → (NL (key 0 L) k lm lo) → (NL (key 1 L) k rm ro) → (NC k lm lo fo no) → va_P G.1 vwCl (cR G b L.length lf rt lo ro fo no lm rm pa mt q cf fa kp) H → va_S (fun q => q ∈ aR b) s.heap H locs → lv_has ls 5 [(1, .int (nI k)), (0, .ref (b 0))] → Wz p9 l e 0 0 s m [.ref (b 0)] below meth c (fun q => q ∈ aR b) (fun r h => r = none ∧ ∃ (lo' ro' : Nat → Nat) (fo' no' : Nat → Option Nat) (lm' rm' : Nat), NL (key 0 L) L.length lm' lo' ∧ NL (key 1 L) L.length rm' ro' ∧ NC L.length lm' lo' fo' no' ∧ va_P G.1 vwCl (cR G b L.length lf rt lo' ro' fo' no' lm' rm' pa mt q cf fa kp) h) H locs (F0 m 12 ls []) := by
    intro k9
    induction k9 with
    | zero =>
      intro k lo ro fo no lm rm H locs ls hfuel hk hNL hNR hNC hP hS hl
      exact absurd hfuel (by omega)
    | succ k9 ih =>
      intro k lo ro fo no lm rm H locs ls hfuel hk hNL hNR hNC hP hS hl
      have hd0 := dis_le (key 0 L) k
      have hd1 := dis_le (key 1 L) k
      have hlm := hNL.2.2.2
      have hrm := hNR.2.2.2
      rw [← hlm] at hd0
      rw [← hrm] at hd1
      refine lv_iload_n hx hb dX4_number_12 rfl (lv_at hl 0 rfl) ?_
      refine lv_aload_n hx hb dX4_number_13 rfl (lv_at hl 1 rfl) ?_
      refine va_get (D := G.1) (ci := 4) (v := .int (nI L.length)) (C := RX4) (T := TX4) (N := 15) hx hb hts hinX4 hown hK.1 hP 0 rfl rfl 0 (by decide) (hts (.fieldLink RX4 47 "PairThreadsModel" "many" "I") (by decide +kernel)) (fun _ h9 => h9) rfl dX4_number_14 ?_
      refine z_icmp_ge (tgt := 181) hx hb (by omega) (by omega) dX4_number_17 (by decide) (fun hc1 => ?_) (fun hc1 => ?_)
      · have he : k = L.length := by omega
        subst he
        exact z_vret hx hb hr hlocks ⟨rfl, lo, ro, fo, no, lm, rm, hNL, hNR, hNC, hP⟩ hS dX4_number_181
      · refine lv_iconst (v := (-1)) hx hb dX4_number_20 rfl ?_
        refine lv_istore_n (lv' := [(2, .int ((-1))), (1, .int (nI k)), (0, .ref (b 0))]) hx hb dX4_number_21 rfl hl (by decide) rfl (fun ls hl => ?_)
        refine lv_iconst (v := (-1)) hx hb dX4_number_22 rfl ?_
        refine lv_istore_n (lv' := [(3, .int ((-1))), (2, .int ((-1))), (1, .int (nI k)), (0, .ref (b 0))]) hx hb dX4_number_23 rfl hl (by decide) rfl (fun ls hl => ?_)
        refine lv_iconst (v := nI 0) hx hb dX4_number_24 rfl ?_
        refine lv_istore (lv' := [(4, .int (nI 0)), (3, .int ((-1))), (2, .int ((-1))), (1, .int (nI k)), (0, .ref (b 0))]) hx hb dX4_number_25 hl (by decide) rfl (fun ls hl => ?_)
        have hl : lv_has ls 5 [(4, .int (nI 0)), (3, .int ((-1))), (2, .int (lk none)), (1, .int (nI k)), (0, .ref (b 0))] := hl
        have hl : lv_has ls 5 [(4, .int (nI 0)), (3, .int (lk none)), (2, .int (lk none)), (1, .int (nI k)), (0, .ref (b 0))] := hl
        have ihout := ih
        have loop2 : ∀ (k9 : Nat) (j : Nat) (ol : Option Nat) (or : Option Nat) (H : Heap) (locs : List Loc) (ls : Array Slot), (k < j + k9) → (j ≤ k) → (((ol = none ∧ ∀ i, i < j → ¬ key 0 L i = key 0 L k) ∨ ∃ i, i < j ∧ key 0 L i = key 0 L k ∧ ol = some (lo i))) → (((or = none ∧ ∀ i, i < j → ¬ key 1 L i = key 1 L k) ∨ ∃ i, i < j ∧ key 1 L i = key 1 L k ∧ or = some (ro i))) → va_P G.1 vwCl (cR G b L.length lf rt lo ro fo no lm rm pa mt q cf fa kp) H → va_S (fun q => q ∈ aR b) s.heap H locs → lv_has ls 5 [(4, .int (nI j)), (2, .int (lk ol)), (3, .int (lk or)), (1, .int (nI k)), (0, .ref (b 0))] → Wz p9 l e 0 0 s m [.ref (b 0)] below meth c (fun q => q ∈ aR b) (fun r h => r = none ∧ ∃ (lo' ro' : Nat → Nat) (fo' no' : Nat → Option Nat) (lm' rm' : Nat), NL (key 0 L) L.length lm' lo' ∧ NL (key 1 L) L.length rm' ro' ∧ NC L.length lm' lo' fo' no' ∧ va_P G.1 vwCl (cR G b L.length lf rt lo' ro' fo' no' lm' rm' pa mt q cf fa kp) h) H locs (F0 m 27 ls []) := by
          intro k9
          induction k9 with
          | zero =>
            intro j ol or H locs ls hfuel hj hol hor hP hS hl
            exact absurd hfuel (by omega)
          | succ k9 ih =>
            intro j ol or H locs ls hfuel hj hol hor hP hS hl
            refine lv_iload hx hb dX4_number_27 (lv_at hl 0 rfl) ?_
            refine lv_iload_n hx hb dX4_number_29 rfl (lv_at hl 3 rfl) ?_
            refine z_icmp_ge (tgt := 95) hx hb (by omega) (by omega) dX4_number_30 (by decide) (fun hc2 => ?_) (fun hc2 => ?_)
            · have hjk : j = k := by omega
              subst hjk
              refine lv_iload_n hx hb dX4_number_95 rfl (lv_at hl 1 rfl) ?_
              refine lv_iconst (v := (-1)) hx hb dX4_number_96 rfl ?_
              refine z_none_ne (tgt := 122) hx hb (fun z hz => by rcases hol with ⟨e1, -⟩ | ⟨i, a1, -, e1⟩; rw [e1] at hz; cases hz; rw [e1] at hz; cases hz; have := hNL.1 i a1; omega) dX4_number_97 (by decide) (fun k2 hc3 => ?_) (fun hc3 => ?_)
              · rcases hol with ⟨e1, -⟩ | ⟨i2, a21, a22, e1⟩
                · rw [e1] at hc3; cases hc3
                · subst e1
                  have hl : lv_has ls 5 [(4, .int (nI j)), (2, .int (nI (lo i2))), (3, .int (lk or)), (1, .int (nI j)), (0, .ref (b 0))] := hl
                  have hli := hNL.1 i2 a21
                  refine lv_iload_n hx hb dX4_number_122 rfl (lv_at hl 2 rfl) ?_
                  refine lv_iconst (v := (-1)) hx hb dX4_number_123 rfl ?_
                  refine z_none_ne (tgt := 142) hx hb (fun z hz => by rcases hor with ⟨e1, -⟩ | ⟨i, a1, -, e1⟩; rw [e1] at hz; cases hz; rw [e1] at hz; cases hz; have := hNR.1 i a1; omega) dX4_number_124 (by decide) (fun k3 hc4 => ?_) (fun hc4 => ?_)
                  · rcases hor with ⟨e1, -⟩ | ⟨i3, a31, a32, e1⟩
                    · rw [e1] at hc4; cases hc4
                    · subst e1
                      have hl : lv_has ls 5 [(4, .int (nI j)), (2, .int (nI (lo i2))), (3, .int (nI (ro i3))), (1, .int (nI j)), (0, .ref (b 0))] := hl
                      have hri := hNR.1 i3 a31
                      refine lv_aload_n hx hb dX4_number_142 rfl (lv_at hl 4 rfl) ?_
                      refine va_get (D := G.1) (ci := 4) (v := .ref (b 3)) (C := RX4) (T := TX4) (N := 15) hx hb hts hinX4 hown hK.1 hP 0 rfl rfl 3 (by decide) (hts (.fieldLink RX4 16 "PairThreadsModel" "leftOf" "[I") (by decide +kernel)) (fun _ h9 => h9) rfl dX4_number_143 ?_
                      refine lv_iload_n hx hb dX4_number_146 rfl (lv_at hl 3 rfl) ?_
                      refine lv_iload_n hx hb dX4_number_147 rfl (lv_at hl 1 rfl) ?_
                      refine z_iastN hx hb hK hP (hDD _ rfl) hS 3 rfl (j := j) (by omega) (by decide) dX4_number_148 (fun H locs hP hS => ?_)
                      have hP : va_P G.1 vwCl (cR G b L.length lf rt (va_up lo j (lo i2)) ro fo no lm rm pa mt q cf fa kp) H := hP
                      refine lv_aload_n hx hb dX4_number_149 rfl (lv_at hl 4 rfl) ?_
                      refine va_get (D := G.1) (ci := 4) (v := .ref (b 4)) (C := RX4) (T := TX4) (N := 15) hx hb hts hinX4 hown hK.1 hP 0 rfl rfl 4 (by decide) (hts (.fieldLink RX4 19 "PairThreadsModel" "rightOf" "[I") (by decide +kernel)) (fun _ h9 => h9) rfl dX4_number_150 ?_
                      refine lv_iload_n hx hb dX4_number_153 rfl (lv_at hl 3 rfl) ?_
                      refine lv_iload_n hx hb dX4_number_154 rfl (lv_at hl 2 rfl) ?_
                      refine z_iastN hx hb hK hP (hDD _ rfl) hS 4 rfl (j := j) (by omega) (by decide) dX4_number_155 (fun H locs hP hS => ?_)
                      have hP : va_P G.1 vwCl (cR G b L.length lf rt (va_up lo j (lo i2)) (va_up ro j (ro i3)) fo no lm rm pa mt q cf fa kp) H := hP
                      refine lv_aload_n hx hb dX4_number_156 rfl (lv_at hl 4 rfl) ?_
                      refine va_get (D := G.1) (ci := 4) (v := .ref (b 6)) (C := RX4) (T := TX4) (N := 15) hx hb hts hinX4 hown hK.1 hP 0 rfl rfl 6 (by decide) (hts (.fieldLink RX4 25 "PairThreadsModel" "nextOf" "[I") (by decide +kernel)) (fun _ h9 => h9) rfl dX4_number_157 ?_
                      refine lv_iload_n hx hb dX4_number_160 rfl (lv_at hl 3 rfl) ?_
                      refine lv_aload_n hx hb dX4_number_161 rfl (lv_at hl 4 rfl) ?_
                      refine va_get (D := G.1) (ci := 4) (v := .ref (b 5)) (C := RX4) (T := TX4) (N := 15) hx hb hts hinX4 hown hK.1 hP 0 rfl rfl 5 (by decide) (hts (.fieldLink RX4 22 "PairThreadsModel" "firstOf" "[I") (by decide +kernel)) (fun _ h9 => h9) rfl dX4_number_162 ?_
                      refine lv_iload_n hx hb dX4_number_165 rfl (lv_at hl 1 rfl) ?_
                      refine z_ialdO hx hb hK hP 5 rfl (j := lo i2) (by omega) (by decide) dX4_number_166 ?_
                      refine z_iastO hx hb hK hP (hDD _ rfl) hS 6 rfl (j := j) (by omega) (by decide) dX4_number_167 (fun H locs hP hS => ?_)
                      have hP : va_P G.1 vwCl (cR G b L.length lf rt (va_up lo j (lo i2)) (va_up ro j (ro i3)) fo (va_up no j (fo (lo i2))) lm rm pa mt q cf fa kp) H := hP
                      refine lv_aload_n hx hb dX4_number_168 rfl (lv_at hl 4 rfl) ?_
                      refine va_get (D := G.1) (ci := 4) (v := .ref (b 5)) (C := RX4) (T := TX4) (N := 15) hx hb hts hinX4 hown hK.1 hP 0 rfl rfl 5 (by decide) (hts (.fieldLink RX4 22 "PairThreadsModel" "firstOf" "[I") (by decide +kernel)) (fun _ h9 => h9) rfl dX4_number_169 ?_
                      refine lv_iload_n hx hb dX4_number_172 rfl (lv_at hl 1 rfl) ?_
                      refine lv_iload_n hx hb dX4_number_173 rfl (lv_at hl 3 rfl) ?_
                      refine z_top (y := lk (some j)) (rfl) ?_
                      refine z_iastO hx hb hK hP (hDD _ rfl) hS 5 rfl (j := lo i2) (by omega) (by decide) dX4_number_174 (fun H locs hP hS => ?_)
                      have hP : va_P G.1 vwCl (cR G b L.length lf rt (va_up lo j (lo i2)) (va_up ro j (ro i3)) (va_up fo (lo i2) (some j)) (va_up no j (fo (lo i2))) lm rm pa mt q cf fa kp) H := hP
                      refine z_iinc (lv' := [(1, .int (nI (j + 1))), (4, .int (nI j)), (2, .int (nI (lo i2))), (3, .int (nI (ro i3))), (0, .ref (b 0))]) hx hb dX4_number_175 hl (k := 3) rfl (by decide) rfl (fun ls hl => ?_)
                      refine lv_goto (tgt := 12) hx hb dX4_number_178 (by decide) ?_
                      exact ihout (j + 1) (va_up lo j (lo i2)) (va_up ro j (ro i3)) (va_up fo (lo i2) (some j)) (va_up no j (fo (lo i2))) lm rm H locs ls (by omega) (by omega) (NL_old hNL a21 a22) (NL_old hNR a31 a32) (NC_old hNC hli) hP hS (lv_sub hl [0, 4] rfl)
                  · have hnew1 : ∀ i, i < j → ¬ key 1 L i = key 1 L j := by rcases hor with ⟨-, h1⟩ | ⟨i, -, -, e1⟩; exact h1; rw [e1] at hc4; cases hc4
                    refine lv_aload_n hx hb dX4_number_127 rfl (lv_at hl 4 rfl) ?_
                    refine va_get (D := G.1) (ci := 4) (v := .int (nI rm)) (C := RX4) (T := TX4) (N := 15) hx hb hts hinX4 hown hK.1 hP 0 rfl rfl 8 (by decide) (hts (.fieldLink RX4 76 "PairThreadsModel" "rightMany" "I") (by decide +kernel)) (fun _ h9 => h9) rfl dX4_number_128 ?_
                    refine lv_istore_n (lv' := [(3, .int (nI rm)), (4, .int (nI j)), (2, .int (nI (lo i2))), (1, .int (nI j)), (0, .ref (b 0))]) hx hb dX4_number_131 rfl hl (by decide) rfl (fun ls hl => ?_)
                    refine lv_aload_n hx hb dX4_number_132 rfl (lv_at hl 4 rfl) ?_
                    refine lv_dup hx hb dX4_number_133 rfl ?_
                    refine va_get (D := G.1) (ci := 4) (v := .int (nI rm)) (C := RX4) (T := TX4) (N := 15) hx hb hts hinX4 hown hK.1 hP 0 rfl rfl 8 (by decide) (hts (.fieldLink RX4 76 "PairThreadsModel" "rightMany" "I") (by decide +kernel)) (fun _ h9 => h9) rfl dX4_number_134 ?_
                    refine lv_iconst (v := nI 1) hx hb dX4_number_137 rfl ?_
                    refine lv_iadd hx hb dX4_number_138 ?_
                    refine z_top (y := nI (rm + 1)) (nI_add _ _) ?_
                    refine va_put (D := G.1) (ci := 4) (v := .int (nI (rm + 1))) (ty := .int) (C := RX4) (T := TX4) (N := 15) hx hb hts hinX4 tyX4 tyX4_ok nmX4 hown hK.1 hP (hDD _ rfl) hS 0 rfl rfl 8 (by decide) (hts (.fieldLink RX4 76 "PairThreadsModel" "rightMany" "I") (by decide +kernel)) (fun _ h9 => h9) rfl (by decide +kernel) rfl rfl (Nat.le_of_ble_eq_true rfl) dX4_number_139 (fun H locs hP _ hS => ?_)
                    have hP : va_P G.1 vwCl (cR G b L.length lf rt lo ro fo no lm (rm + 1) pa mt q cf fa kp) H := hP
                    refine lv_aload_n hx hb dX4_number_142 rfl (lv_at hl 4 rfl) ?_
                    refine va_get (D := G.1) (ci := 4) (v := .ref (b 3)) (C := RX4) (T := TX4) (N := 15) hx hb hts hinX4 hown hK.1 hP 0 rfl rfl 3 (by decide) (hts (.fieldLink RX4 16 "PairThreadsModel" "leftOf" "[I") (by decide +kernel)) (fun _ h9 => h9) rfl dX4_number_143 ?_
                    refine lv_iload_n hx hb dX4_number_146 rfl (lv_at hl 3 rfl) ?_
                    refine lv_iload_n hx hb dX4_number_147 rfl (lv_at hl 2 rfl) ?_
                    refine z_iastN hx hb hK hP (hDD _ rfl) hS 3 rfl (j := j) (by omega) (by decide) dX4_number_148 (fun H locs hP hS => ?_)
                    have hP : va_P G.1 vwCl (cR G b L.length lf rt (va_up lo j (lo i2)) ro fo no lm (rm + 1) pa mt q cf fa kp) H := hP
                    refine lv_aload_n hx hb dX4_number_149 rfl (lv_at hl 4 rfl) ?_
                    refine va_get (D := G.1) (ci := 4) (v := .ref (b 4)) (C := RX4) (T := TX4) (N := 15) hx hb hts hinX4 hown hK.1 hP 0 rfl rfl 4 (by decide) (hts (.fieldLink RX4 19 "PairThreadsModel" "rightOf" "[I") (by decide +kernel)) (fun _ h9 => h9) rfl dX4_number_150 ?_
                    refine lv_iload_n hx hb dX4_number_153 rfl (lv_at hl 3 rfl) ?_
                    refine lv_iload_n hx hb dX4_number_154 rfl (lv_at hl 0 rfl) ?_
                    refine z_iastN hx hb hK hP (hDD _ rfl) hS 4 rfl (j := j) (by omega) (by decide) dX4_number_155 (fun H locs hP hS => ?_)
                    have hP : va_P G.1 vwCl (cR G b L.length lf rt (va_up lo j (lo i2)) (va_up ro j rm) fo no lm (rm + 1) pa mt q cf fa kp) H := hP
                    refine lv_aload_n hx hb dX4_number_156 rfl (lv_at hl 4 rfl) ?_
                    refine va_get (D := G.1) (ci := 4) (v := .ref (b 6)) (C := RX4) (T := TX4) (N := 15) hx hb hts hinX4 hown hK.1 hP 0 rfl rfl 6 (by decide) (hts (.fieldLink RX4 25 "PairThreadsModel" "nextOf" "[I") (by decide +kernel)) (fun _ h9 => h9) rfl dX4_number_157 ?_
                    refine lv_iload_n hx hb dX4_number_160 rfl (lv_at hl 3 rfl) ?_
                    refine lv_aload_n hx hb dX4_number_161 rfl (lv_at hl 4 rfl) ?_
                    refine va_get (D := G.1) (ci := 4) (v := .ref (b 5)) (C := RX4) (T := TX4) (N := 15) hx hb hts hinX4 hown hK.1 hP 0 rfl rfl 5 (by decide) (hts (.fieldLink RX4 22 "PairThreadsModel" "firstOf" "[I") (by decide +kernel)) (fun _ h9 => h9) rfl dX4_number_162 ?_
                    refine lv_iload_n hx hb dX4_number_165 rfl (lv_at hl 2 rfl) ?_
                    refine z_ialdO hx hb hK hP 5 rfl (j := lo i2) (by omega) (by decide) dX4_number_166 ?_
                    refine z_iastO hx hb hK hP (hDD _ rfl) hS 6 rfl (j := j) (by omega) (by decide) dX4_number_167 (fun H locs hP hS => ?_)
                    have hP : va_P G.1 vwCl (cR G b L.length lf rt (va_up lo j (lo i2)) (va_up ro j rm) fo (va_up no j (fo (lo i2))) lm (rm + 1) pa mt q cf fa kp) H := hP
                    refine lv_aload_n hx hb dX4_number_168 rfl (lv_at hl 4 rfl) ?_
                    refine va_get (D := G.1) (ci := 4) (v := .ref (b 5)) (C := RX4) (T := TX4) (N := 15) hx hb hts hinX4 hown hK.1 hP 0 rfl rfl 5 (by decide) (hts (.fieldLink RX4 22 "PairThreadsModel" "firstOf" "[I") (by decide +kernel)) (fun _ h9 => h9) rfl dX4_number_169 ?_
                    refine lv_iload_n hx hb dX4_number_172 rfl (lv_at hl 2 rfl) ?_
                    refine lv_iload_n hx hb dX4_number_173 rfl (lv_at hl 3 rfl) ?_
                    refine z_top (y := lk (some j)) (rfl) ?_
                    refine z_iastO hx hb hK hP (hDD _ rfl) hS 5 rfl (j := lo i2) (by omega) (by decide) dX4_number_174 (fun H locs hP hS => ?_)
                    have hP : va_P G.1 vwCl (cR G b L.length lf rt (va_up lo j (lo i2)) (va_up ro j rm) (va_up fo (lo i2) (some j)) (va_up no j (fo (lo i2))) lm (rm + 1) pa mt q cf fa kp) H := hP
                    refine z_iinc (lv' := [(1, .int (nI (j + 1))), (3, .int (nI rm)), (4, .int (nI j)), (2, .int (nI (lo i2))), (0, .ref (b 0))]) hx hb dX4_number_175 hl (k := 3) rfl (by decide) rfl (fun ls hl => ?_)
                    refine lv_goto (tgt := 12) hx hb dX4_number_178 (by decide) ?_
                    exact ihout (j + 1) (va_up lo j (lo i2)) (va_up ro j rm) (va_up fo (lo i2) (some j)) (va_up no j (fo (lo i2))) lm (rm + 1) H locs ls (by omega) (by omega) (NL_old hNL a21 a22) (NL_new hNR hnew1) (NC_old hNC hli) hP hS (lv_sub hl [0, 4] rfl)
              · have hnew0 : ∀ i, i < j → ¬ key 0 L i = key 0 L j := by rcases hol with ⟨-, h1⟩ | ⟨i, -, -, e1⟩; exact h1; rw [e1] at hc3; cases hc3
                refine lv_aload_n hx hb dX4_number_100 rfl (lv_at hl 4 rfl) ?_
                refine va_get (D := G.1) (ci := 4) (v := .int (nI lm)) (C := RX4) (T := TX4) (N := 15) hx hb hts hinX4 hown hK.1 hP 0 rfl rfl 7 (by decide) (hts (.fieldLink RX4 73 "PairThreadsModel" "leftMany" "I") (by decide +kernel)) (fun _ h9 => h9) rfl dX4_number_101 ?_
                refine lv_istore_n (lv' := [(2, .int (nI lm)), (4, .int (nI j)), (3, .int (lk or)), (1, .int (nI j)), (0, .ref (b 0))]) hx hb dX4_number_104 rfl hl (by decide) rfl (fun ls hl => ?_)
                refine lv_aload_n hx hb dX4_number_105 rfl (lv_at hl 4 rfl) ?_
                refine lv_dup hx hb dX4_number_106 rfl ?_
                refine va_get (D := G.1) (ci := 4) (v := .int (nI lm)) (C := RX4) (T := TX4) (N := 15) hx hb hts hinX4 hown hK.1 hP 0 rfl rfl 7 (by decide) (hts (.fieldLink RX4 73 "PairThreadsModel" "leftMany" "I") (by decide +kernel)) (fun _ h9 => h9) rfl dX4_number_107 ?_
                refine lv_iconst (v := nI 1) hx hb dX4_number_110 rfl ?_
                refine lv_iadd hx hb dX4_number_111 ?_
                refine z_top (y := nI (lm + 1)) (nI_add _ _) ?_
                refine va_put (D := G.1) (ci := 4) (v := .int (nI (lm + 1))) (ty := .int) (C := RX4) (T := TX4) (N := 15) hx hb hts hinX4 tyX4 tyX4_ok nmX4 hown hK.1 hP (hDD _ rfl) hS 0 rfl rfl 7 (by decide) (hts (.fieldLink RX4 73 "PairThreadsModel" "leftMany" "I") (by decide +kernel)) (fun _ h9 => h9) rfl (by decide +kernel) rfl rfl (Nat.le_of_ble_eq_true rfl) dX4_number_112 (fun H locs hP _ hS => ?_)
                have hP : va_P G.1 vwCl (cR G b L.length lf rt lo ro fo no (lm + 1) rm pa mt q cf fa kp) H := hP
                refine lv_aload_n hx hb dX4_number_115 rfl (lv_at hl 4 rfl) ?_
                refine va_get (D := G.1) (ci := 4) (v := .ref (b 5)) (C := RX4) (T := TX4) (N := 15) hx hb hts hinX4 hown hK.1 hP 0 rfl rfl 5 (by decide) (hts (.fieldLink RX4 22 "PairThreadsModel" "firstOf" "[I") (by decide +kernel)) (fun _ h9 => h9) rfl dX4_number_116 ?_
                refine lv_iload_n hx hb dX4_number_119 rfl (lv_at hl 0 rfl) ?_
                refine lv_iconst (v := (-1)) hx hb dX4_number_120 rfl ?_
                refine z_top (y := lk none) (rfl) ?_
                refine z_iastO hx hb hK hP (hDD _ rfl) hS 5 rfl (j := lm) (by omega) (by decide) dX4_number_121 (fun H locs hP hS => ?_)
                have hP : va_P G.1 vwCl (cR G b L.length lf rt lo ro (va_up fo lm none) no (lm + 1) rm pa mt q cf fa kp) H := hP
                refine lv_iload_n hx hb dX4_number_122 rfl (lv_at hl 2 rfl) ?_
                refine lv_iconst (v := (-1)) hx hb dX4_number_123 rfl ?_
                refine z_none_ne (tgt := 142) hx hb (fun z hz => by rcases hor with ⟨e1, -⟩ | ⟨i, a1, -, e1⟩; rw [e1] at hz; cases hz; rw [e1] at hz; cases hz; have := hNR.1 i a1; omega) dX4_number_124 (by decide) (fun k3 hc5 => ?_) (fun hc5 => ?_)
                · rcases hor with ⟨e1, -⟩ | ⟨i3, a31, a32, e1⟩
                  · rw [e1] at hc5; cases hc5
                  · subst e1
                    have hl : lv_has ls 5 [(2, .int (nI lm)), (4, .int (nI j)), (3, .int (nI (ro i3))), (1, .int (nI j)), (0, .ref (b 0))] := hl
                    have hri := hNR.1 i3 a31
                    refine lv_aload_n hx hb dX4_number_142 rfl (lv_at hl 4 rfl) ?_
                    refine va_get (D := G.1) (ci := 4) (v := .ref (b 3)) (C := RX4) (T := TX4) (N := 15) hx hb hts hinX4 hown hK.1 hP 0 rfl rfl 3 (by decide) (hts (.fieldLink RX4 16 "PairThreadsModel" "leftOf" "[I") (by decide +kernel)) (fun _ h9 => h9) rfl dX4_number_143 ?_
                    refine lv_iload_n hx hb dX4_number_146 rfl (lv_at hl 3 rfl) ?_
                    refine lv_iload_n hx hb dX4_number_147 rfl (lv_at hl 0 rfl) ?_
                    refine z_iastN hx hb hK hP (hDD _ rfl) hS 3 rfl (j := j) (by omega) (by decide) dX4_number_148 (fun H locs hP hS => ?_)
                    have hP : va_P G.1 vwCl (cR G b L.length lf rt (va_up lo j lm) ro (va_up fo lm none) no (lm + 1) rm pa mt q cf fa kp) H := hP
                    refine lv_aload_n hx hb dX4_number_149 rfl (lv_at hl 4 rfl) ?_
                    refine va_get (D := G.1) (ci := 4) (v := .ref (b 4)) (C := RX4) (T := TX4) (N := 15) hx hb hts hinX4 hown hK.1 hP 0 rfl rfl 4 (by decide) (hts (.fieldLink RX4 19 "PairThreadsModel" "rightOf" "[I") (by decide +kernel)) (fun _ h9 => h9) rfl dX4_number_150 ?_
                    refine lv_iload_n hx hb dX4_number_153 rfl (lv_at hl 3 rfl) ?_
                    refine lv_iload_n hx hb dX4_number_154 rfl (lv_at hl 2 rfl) ?_
                    refine z_iastN hx hb hK hP (hDD _ rfl) hS 4 rfl (j := j) (by omega) (by decide) dX4_number_155 (fun H locs hP hS => ?_)
                    have hP : va_P G.1 vwCl (cR G b L.length lf rt (va_up lo j lm) (va_up ro j (ro i3)) (va_up fo lm none) no (lm + 1) rm pa mt q cf fa kp) H := hP
                    refine lv_aload_n hx hb dX4_number_156 rfl (lv_at hl 4 rfl) ?_
                    refine va_get (D := G.1) (ci := 4) (v := .ref (b 6)) (C := RX4) (T := TX4) (N := 15) hx hb hts hinX4 hown hK.1 hP 0 rfl rfl 6 (by decide) (hts (.fieldLink RX4 25 "PairThreadsModel" "nextOf" "[I") (by decide +kernel)) (fun _ h9 => h9) rfl dX4_number_157 ?_
                    refine lv_iload_n hx hb dX4_number_160 rfl (lv_at hl 3 rfl) ?_
                    refine lv_aload_n hx hb dX4_number_161 rfl (lv_at hl 4 rfl) ?_
                    refine va_get (D := G.1) (ci := 4) (v := .ref (b 5)) (C := RX4) (T := TX4) (N := 15) hx hb hts hinX4 hown hK.1 hP 0 rfl rfl 5 (by decide) (hts (.fieldLink RX4 22 "PairThreadsModel" "firstOf" "[I") (by decide +kernel)) (fun _ h9 => h9) rfl dX4_number_162 ?_
                    refine lv_iload_n hx hb dX4_number_165 rfl (lv_at hl 0 rfl) ?_
                    refine z_ialdO hx hb hK hP 5 rfl (j := lm) (by omega) (by decide) dX4_number_166 ?_
                    refine z_iastO hx hb hK hP (hDD _ rfl) hS 6 rfl (j := j) (by omega) (by decide) dX4_number_167 (fun H locs hP hS => ?_)
                    have hP : va_P G.1 vwCl (cR G b L.length lf rt (va_up lo j lm) (va_up ro j (ro i3)) (va_up fo lm none) (va_up no j ((va_up fo lm none) lm)) (lm + 1) rm pa mt q cf fa kp) H := hP
                    refine lv_aload_n hx hb dX4_number_168 rfl (lv_at hl 4 rfl) ?_
                    refine va_get (D := G.1) (ci := 4) (v := .ref (b 5)) (C := RX4) (T := TX4) (N := 15) hx hb hts hinX4 hown hK.1 hP 0 rfl rfl 5 (by decide) (hts (.fieldLink RX4 22 "PairThreadsModel" "firstOf" "[I") (by decide +kernel)) (fun _ h9 => h9) rfl dX4_number_169 ?_
                    refine lv_iload_n hx hb dX4_number_172 rfl (lv_at hl 0 rfl) ?_
                    refine lv_iload_n hx hb dX4_number_173 rfl (lv_at hl 3 rfl) ?_
                    refine z_top (y := lk (some j)) (rfl) ?_
                    refine z_iastO hx hb hK hP (hDD _ rfl) hS 5 rfl (j := lm) (by omega) (by decide) dX4_number_174 (fun H locs hP hS => ?_)
                    have hP : va_P G.1 vwCl (cR G b L.length lf rt (va_up lo j lm) (va_up ro j (ro i3)) (va_up (va_up fo lm none) lm (some j)) (va_up no j ((va_up fo lm none) lm)) (lm + 1) rm pa mt q cf fa kp) H := hP
                    refine z_iinc (lv' := [(1, .int (nI (j + 1))), (2, .int (nI lm)), (4, .int (nI j)), (3, .int (nI (ro i3))), (0, .ref (b 0))]) hx hb dX4_number_175 hl (k := 3) rfl (by decide) rfl (fun ls hl => ?_)
                    refine lv_goto (tgt := 12) hx hb dX4_number_178 (by decide) ?_
                    exact ihout (j + 1) (va_up lo j lm) (va_up ro j (ro i3)) (va_up (va_up fo lm none) lm (some j)) (va_up no j ((va_up fo lm none) lm)) (lm + 1) rm H locs ls (by omega) (by omega) (NL_new hNL hnew0) (NL_old hNR a31 a32) (NC_new hNC hNL.1) hP hS (lv_sub hl [0, 4] rfl)
                · have hnew1 : ∀ i, i < j → ¬ key 1 L i = key 1 L j := by rcases hor with ⟨-, h1⟩ | ⟨i, -, -, e1⟩; exact h1; rw [e1] at hc5; cases hc5
                  refine lv_aload_n hx hb dX4_number_127 rfl (lv_at hl 4 rfl) ?_
                  refine va_get (D := G.1) (ci := 4) (v := .int (nI rm)) (C := RX4) (T := TX4) (N := 15) hx hb hts hinX4 hown hK.1 hP 0 rfl rfl 8 (by decide) (hts (.fieldLink RX4 76 "PairThreadsModel" "rightMany" "I") (by decide +kernel)) (fun _ h9 => h9) rfl dX4_number_128 ?_
                  refine lv_istore_n (lv' := [(3, .int (nI rm)), (2, .int (nI lm)), (4, .int (nI j)), (1, .int (nI j)), (0, .ref (b 0))]) hx hb dX4_number_131 rfl hl (by decide) rfl (fun ls hl => ?_)
                  refine lv_aload_n hx hb dX4_number_132 rfl (lv_at hl 4 rfl) ?_
                  refine lv_dup hx hb dX4_number_133 rfl ?_
                  refine va_get (D := G.1) (ci := 4) (v := .int (nI rm)) (C := RX4) (T := TX4) (N := 15) hx hb hts hinX4 hown hK.1 hP 0 rfl rfl 8 (by decide) (hts (.fieldLink RX4 76 "PairThreadsModel" "rightMany" "I") (by decide +kernel)) (fun _ h9 => h9) rfl dX4_number_134 ?_
                  refine lv_iconst (v := nI 1) hx hb dX4_number_137 rfl ?_
                  refine lv_iadd hx hb dX4_number_138 ?_
                  refine z_top (y := nI (rm + 1)) (nI_add _ _) ?_
                  refine va_put (D := G.1) (ci := 4) (v := .int (nI (rm + 1))) (ty := .int) (C := RX4) (T := TX4) (N := 15) hx hb hts hinX4 tyX4 tyX4_ok nmX4 hown hK.1 hP (hDD _ rfl) hS 0 rfl rfl 8 (by decide) (hts (.fieldLink RX4 76 "PairThreadsModel" "rightMany" "I") (by decide +kernel)) (fun _ h9 => h9) rfl (by decide +kernel) rfl rfl (Nat.le_of_ble_eq_true rfl) dX4_number_139 (fun H locs hP _ hS => ?_)
                  have hP : va_P G.1 vwCl (cR G b L.length lf rt lo ro (va_up fo lm none) no (lm + 1) (rm + 1) pa mt q cf fa kp) H := hP
                  refine lv_aload_n hx hb dX4_number_142 rfl (lv_at hl 4 rfl) ?_
                  refine va_get (D := G.1) (ci := 4) (v := .ref (b 3)) (C := RX4) (T := TX4) (N := 15) hx hb hts hinX4 hown hK.1 hP 0 rfl rfl 3 (by decide) (hts (.fieldLink RX4 16 "PairThreadsModel" "leftOf" "[I") (by decide +kernel)) (fun _ h9 => h9) rfl dX4_number_143 ?_
                  refine lv_iload_n hx hb dX4_number_146 rfl (lv_at hl 3 rfl) ?_
                  refine lv_iload_n hx hb dX4_number_147 rfl (lv_at hl 1 rfl) ?_
                  refine z_iastN hx hb hK hP (hDD _ rfl) hS 3 rfl (j := j) (by omega) (by decide) dX4_number_148 (fun H locs hP hS => ?_)
                  have hP : va_P G.1 vwCl (cR G b L.length lf rt (va_up lo j lm) ro (va_up fo lm none) no (lm + 1) (rm + 1) pa mt q cf fa kp) H := hP
                  refine lv_aload_n hx hb dX4_number_149 rfl (lv_at hl 4 rfl) ?_
                  refine va_get (D := G.1) (ci := 4) (v := .ref (b 4)) (C := RX4) (T := TX4) (N := 15) hx hb hts hinX4 hown hK.1 hP 0 rfl rfl 4 (by decide) (hts (.fieldLink RX4 19 "PairThreadsModel" "rightOf" "[I") (by decide +kernel)) (fun _ h9 => h9) rfl dX4_number_150 ?_
                  refine lv_iload_n hx hb dX4_number_153 rfl (lv_at hl 3 rfl) ?_
                  refine lv_iload_n hx hb dX4_number_154 rfl (lv_at hl 0 rfl) ?_
                  refine z_iastN hx hb hK hP (hDD _ rfl) hS 4 rfl (j := j) (by omega) (by decide) dX4_number_155 (fun H locs hP hS => ?_)
                  have hP : va_P G.1 vwCl (cR G b L.length lf rt (va_up lo j lm) (va_up ro j rm) (va_up fo lm none) no (lm + 1) (rm + 1) pa mt q cf fa kp) H := hP
                  refine lv_aload_n hx hb dX4_number_156 rfl (lv_at hl 4 rfl) ?_
                  refine va_get (D := G.1) (ci := 4) (v := .ref (b 6)) (C := RX4) (T := TX4) (N := 15) hx hb hts hinX4 hown hK.1 hP 0 rfl rfl 6 (by decide) (hts (.fieldLink RX4 25 "PairThreadsModel" "nextOf" "[I") (by decide +kernel)) (fun _ h9 => h9) rfl dX4_number_157 ?_
                  refine lv_iload_n hx hb dX4_number_160 rfl (lv_at hl 3 rfl) ?_
                  refine lv_aload_n hx hb dX4_number_161 rfl (lv_at hl 4 rfl) ?_
                  refine va_get (D := G.1) (ci := 4) (v := .ref (b 5)) (C := RX4) (T := TX4) (N := 15) hx hb hts hinX4 hown hK.1 hP 0 rfl rfl 5 (by decide) (hts (.fieldLink RX4 22 "PairThreadsModel" "firstOf" "[I") (by decide +kernel)) (fun _ h9 => h9) rfl dX4_number_162 ?_
                  refine lv_iload_n hx hb dX4_number_165 rfl (lv_at hl 1 rfl) ?_
                  refine z_ialdO hx hb hK hP 5 rfl (j := lm) (by omega) (by decide) dX4_number_166 ?_
                  refine z_iastO hx hb hK hP (hDD _ rfl) hS 6 rfl (j := j) (by omega) (by decide) dX4_number_167 (fun H locs hP hS => ?_)
                  have hP : va_P G.1 vwCl (cR G b L.length lf rt (va_up lo j lm) (va_up ro j rm) (va_up fo lm none) (va_up no j ((va_up fo lm none) lm)) (lm + 1) (rm + 1) pa mt q cf fa kp) H := hP
                  refine lv_aload_n hx hb dX4_number_168 rfl (lv_at hl 4 rfl) ?_
                  refine va_get (D := G.1) (ci := 4) (v := .ref (b 5)) (C := RX4) (T := TX4) (N := 15) hx hb hts hinX4 hown hK.1 hP 0 rfl rfl 5 (by decide) (hts (.fieldLink RX4 22 "PairThreadsModel" "firstOf" "[I") (by decide +kernel)) (fun _ h9 => h9) rfl dX4_number_169 ?_
                  refine lv_iload_n hx hb dX4_number_172 rfl (lv_at hl 1 rfl) ?_
                  refine lv_iload_n hx hb dX4_number_173 rfl (lv_at hl 3 rfl) ?_
                  refine z_top (y := lk (some j)) (rfl) ?_
                  refine z_iastO hx hb hK hP (hDD _ rfl) hS 5 rfl (j := lm) (by omega) (by decide) dX4_number_174 (fun H locs hP hS => ?_)
                  have hP : va_P G.1 vwCl (cR G b L.length lf rt (va_up lo j lm) (va_up ro j rm) (va_up (va_up fo lm none) lm (some j)) (va_up no j ((va_up fo lm none) lm)) (lm + 1) (rm + 1) pa mt q cf fa kp) H := hP
                  refine z_iinc (lv' := [(1, .int (nI (j + 1))), (3, .int (nI rm)), (2, .int (nI lm)), (4, .int (nI j)), (0, .ref (b 0))]) hx hb dX4_number_175 hl (k := 3) rfl (by decide) rfl (fun ls hl => ?_)
                  refine lv_goto (tgt := 12) hx hb dX4_number_178 (by decide) ?_
                  exact ihout (j + 1) (va_up lo j lm) (va_up ro j rm) (va_up (va_up fo lm none) lm (some j)) (va_up no j ((va_up fo lm none) lm)) (lm + 1) (rm + 1) H locs ls (by omega) (by omega) (NL_new hNL hnew0) (NL_new hNR hnew1) (NC_new hNC hNL.1) hP hS (lv_sub hl [0, 4] rfl)
            · have hmj := hMI.2 j (by omega)
              have hmk := hMI.2 k (by omega)
              refine lv_aload_n hx hb dX4_number_33 rfl (lv_at hl 4 rfl) ?_
              refine va_get (D := G.1) (ci := 4) (v := .ref (b 1)) (C := RX4) (T := TX4) (N := 15) hx hb hts hinX4 hown hK.1 hP 0 rfl rfl 1 (by decide) (hts (.fieldLink RX4 7 "PairThreadsModel" "lefts" "[I") (by decide +kernel)) (fun _ h9 => h9) rfl dX4_number_34 ?_
              refine lv_iload hx hb dX4_number_37 (lv_at hl 0 rfl) ?_
              refine z_iald hx hb hK hP 1 rfl (j := j) (by omega) (by decide) dX4_number_39 ?_
              refine lv_aload_n hx hb dX4_number_40 rfl (lv_at hl 4 rfl) ?_
              refine va_get (D := G.1) (ci := 4) (v := .ref (b 1)) (C := RX4) (T := TX4) (N := 15) hx hb hts hinX4 hown hK.1 hP 0 rfl rfl 1 (by decide) (hts (.fieldLink RX4 7 "PairThreadsModel" "lefts" "[I") (by decide +kernel)) (fun _ h9 => h9) rfl dX4_number_41 ?_
              refine lv_iload_n hx hb dX4_number_44 rfl (lv_at hl 3 rfl) ?_
              refine z_iald hx hb hK hP 1 rfl (j := k) (by omega) (by decide) dX4_number_45 ?_
              refine lv_icmp_ne (tgt := 59) hx hb dX4_number_46 (by decide) (fun hc6 => ?_) (fun hc6 => ?_)
              · rw [hmj.1, hmk.1] at hc6
                refine lv_iload_n hx hb dX4_number_59 rfl (lv_at hl 1 rfl) ?_
                refine lv_istore_n (lv' := [(2, .int (lk ol)), (4, .int (nI j)), (3, .int (lk or)), (1, .int (nI k)), (0, .ref (b 0))]) hx hb dX4_number_60 rfl hl (by decide) rfl (fun ls hl => ?_)
                refine lv_aload_n hx hb dX4_number_61 rfl (lv_at hl 4 rfl) ?_
                refine va_get (D := G.1) (ci := 4) (v := .ref (b 2)) (C := RX4) (T := TX4) (N := 15) hx hb hts hinX4 hown hK.1 hP 0 rfl rfl 2 (by decide) (hts (.fieldLink RX4 13 "PairThreadsModel" "rights" "[I") (by decide +kernel)) (fun _ h9 => h9) rfl dX4_number_62 ?_
                refine lv_iload hx hb dX4_number_65 (lv_at hl 1 rfl) ?_
                refine z_iald hx hb hK hP 2 rfl (j := j) (by omega) (by decide) dX4_number_67 ?_
                refine lv_aload_n hx hb dX4_number_68 rfl (lv_at hl 4 rfl) ?_
                refine va_get (D := G.1) (ci := 4) (v := .ref (b 2)) (C := RX4) (T := TX4) (N := 15) hx hb hts hinX4 hown hK.1 hP 0 rfl rfl 2 (by decide) (hts (.fieldLink RX4 13 "PairThreadsModel" "rights" "[I") (by decide +kernel)) (fun _ h9 => h9) rfl dX4_number_69 ?_
                refine lv_iload_n hx hb dX4_number_72 rfl (lv_at hl 3 rfl) ?_
                refine z_iald hx hb hK hP 2 rfl (j := k) (by omega) (by decide) dX4_number_73 ?_
                refine lv_icmp_ne (tgt := 87) hx hb dX4_number_74 (by decide) (fun hc7 => ?_) (fun hc7 => ?_)
                · rw [hmj.2, hmk.2] at hc7
                  refine lv_iload_n hx hb dX4_number_87 rfl (lv_at hl 2 rfl) ?_
                  refine lv_istore_n (lv' := [(3, .int (lk or)), (2, .int (lk ol)), (4, .int (nI j)), (1, .int (nI k)), (0, .ref (b 0))]) hx hb dX4_number_88 rfl hl (by decide) rfl (fun ls hl => ?_)
                  refine z_iinc (lv' := [(4, .int (nI (j + 1))), (3, .int (lk or)), (2, .int (lk ol)), (1, .int (nI k)), (0, .ref (b 0))]) hx hb dX4_number_89 hl (k := 2) rfl (by decide) rfl (fun ls hl => ?_)
                  refine lv_goto (tgt := 27) hx hb dX4_number_92 (by decide) ?_
                  exact ih (j + 1) ol or H locs ls (by omega) (by omega) (by rcases hol with ⟨e1, h1⟩ | ⟨i, a1, a2, e1⟩; exact Or.inl ⟨e1, fun i hi => by rcases Nat.lt_succ_iff_lt_or_eq.mp hi with z | z; exact h1 i z; subst z; exact hc6⟩; exact Or.inr ⟨i, by omega, a2, e1⟩) (by rcases hor with ⟨e1, h1⟩ | ⟨i, a1, a2, e1⟩; exact Or.inl ⟨e1, fun i hi => by rcases Nat.lt_succ_iff_lt_or_eq.mp hi with z | z; exact h1 i z; subst z; exact hc7⟩; exact Or.inr ⟨i, by omega, a2, e1⟩) hP hS (lv_sub hl [0, 2, 1, 3, 4] rfl)
                · rw [hmj.2, hmk.2] at hc7
                  refine lv_aload_n hx hb dX4_number_77 rfl (lv_at hl 4 rfl) ?_
                  refine va_get (D := G.1) (ci := 4) (v := .ref (b 4)) (C := RX4) (T := TX4) (N := 15) hx hb hts hinX4 hown hK.1 hP 0 rfl rfl 4 (by decide) (hts (.fieldLink RX4 19 "PairThreadsModel" "rightOf" "[I") (by decide +kernel)) (fun _ h9 => h9) rfl dX4_number_78 ?_
                  refine lv_iload hx hb dX4_number_81 (lv_at hl 1 rfl) ?_
                  refine z_ialdN hx hb hK hP 4 rfl (j := j) (by omega) (by decide) dX4_number_83 ?_
                  refine lv_goto (tgt := 88) hx hb dX4_number_84 (by decide) ?_
                  refine z_top (y := lk (some (ro j))) (rfl) ?_
                  refine lv_istore_n (lv' := [(3, .int (lk (some (ro j)))), (2, .int (lk ol)), (4, .int (nI j)), (1, .int (nI k)), (0, .ref (b 0))]) hx hb dX4_number_88 rfl hl (by decide) rfl (fun ls hl => ?_)
                  refine z_iinc (lv' := [(4, .int (nI (j + 1))), (3, .int (lk (some (ro j)))), (2, .int (lk ol)), (1, .int (nI k)), (0, .ref (b 0))]) hx hb dX4_number_89 hl (k := 2) rfl (by decide) rfl (fun ls hl => ?_)
                  refine lv_goto (tgt := 27) hx hb dX4_number_92 (by decide) ?_
                  exact ih (j + 1) ol (some (ro j)) H locs ls (by omega) (by omega) (by rcases hol with ⟨e1, h1⟩ | ⟨i, a1, a2, e1⟩; exact Or.inl ⟨e1, fun i hi => by rcases Nat.lt_succ_iff_lt_or_eq.mp hi with z | z; exact h1 i z; subst z; exact hc6⟩; exact Or.inr ⟨i, by omega, a2, e1⟩) (Or.inr ⟨j, by omega, hc7, rfl⟩) hP hS (lv_sub hl [0, 2, 1, 3, 4] rfl)
              · rw [hmj.1, hmk.1] at hc6
                refine lv_aload_n hx hb dX4_number_49 rfl (lv_at hl 4 rfl) ?_
                refine va_get (D := G.1) (ci := 4) (v := .ref (b 3)) (C := RX4) (T := TX4) (N := 15) hx hb hts hinX4 hown hK.1 hP 0 rfl rfl 3 (by decide) (hts (.fieldLink RX4 16 "PairThreadsModel" "leftOf" "[I") (by decide +kernel)) (fun _ h9 => h9) rfl dX4_number_50 ?_
                refine lv_iload hx hb dX4_number_53 (lv_at hl 0 rfl) ?_
                refine z_ialdN hx hb hK hP 3 rfl (j := j) (by omega) (by decide) dX4_number_55 ?_
                refine lv_goto (tgt := 60) hx hb dX4_number_56 (by decide) ?_
                refine z_top (y := lk (some (lo j))) (rfl) ?_
                refine lv_istore_n (lv' := [(2, .int (lk (some (lo j)))), (4, .int (nI j)), (3, .int (lk or)), (1, .int (nI k)), (0, .ref (b 0))]) hx hb dX4_number_60 rfl hl (by decide) rfl (fun ls hl => ?_)
                refine lv_aload_n hx hb dX4_number_61 rfl (lv_at hl 4 rfl) ?_
                refine va_get (D := G.1) (ci := 4) (v := .ref (b 2)) (C := RX4) (T := TX4) (N := 15) hx hb hts hinX4 hown hK.1 hP 0 rfl rfl 2 (by decide) (hts (.fieldLink RX4 13 "PairThreadsModel" "rights" "[I") (by decide +kernel)) (fun _ h9 => h9) rfl dX4_number_62 ?_
                refine lv_iload hx hb dX4_number_65 (lv_at hl 1 rfl) ?_
                refine z_iald hx hb hK hP 2 rfl (j := j) (by omega) (by decide) dX4_number_67 ?_
                refine lv_aload_n hx hb dX4_number_68 rfl (lv_at hl 4 rfl) ?_
                refine va_get (D := G.1) (ci := 4) (v := .ref (b 2)) (C := RX4) (T := TX4) (N := 15) hx hb hts hinX4 hown hK.1 hP 0 rfl rfl 2 (by decide) (hts (.fieldLink RX4 13 "PairThreadsModel" "rights" "[I") (by decide +kernel)) (fun _ h9 => h9) rfl dX4_number_69 ?_
                refine lv_iload_n hx hb dX4_number_72 rfl (lv_at hl 3 rfl) ?_
                refine z_iald hx hb hK hP 2 rfl (j := k) (by omega) (by decide) dX4_number_73 ?_
                refine lv_icmp_ne (tgt := 87) hx hb dX4_number_74 (by decide) (fun hc8 => ?_) (fun hc8 => ?_)
                · rw [hmj.2, hmk.2] at hc8
                  refine lv_iload_n hx hb dX4_number_87 rfl (lv_at hl 2 rfl) ?_
                  refine lv_istore_n (lv' := [(3, .int (lk or)), (2, .int (lk (some (lo j)))), (4, .int (nI j)), (1, .int (nI k)), (0, .ref (b 0))]) hx hb dX4_number_88 rfl hl (by decide) rfl (fun ls hl => ?_)
                  refine z_iinc (lv' := [(4, .int (nI (j + 1))), (3, .int (lk or)), (2, .int (lk (some (lo j)))), (1, .int (nI k)), (0, .ref (b 0))]) hx hb dX4_number_89 hl (k := 2) rfl (by decide) rfl (fun ls hl => ?_)
                  refine lv_goto (tgt := 27) hx hb dX4_number_92 (by decide) ?_
                  exact ih (j + 1) (some (lo j)) or H locs ls (by omega) (by omega) (Or.inr ⟨j, by omega, hc6, rfl⟩) (by rcases hor with ⟨e1, h1⟩ | ⟨i, a1, a2, e1⟩; exact Or.inl ⟨e1, fun i hi => by rcases Nat.lt_succ_iff_lt_or_eq.mp hi with z | z; exact h1 i z; subst z; exact hc8⟩; exact Or.inr ⟨i, by omega, a2, e1⟩) hP hS (lv_sub hl [0, 2, 1, 3, 4] rfl)
                · rw [hmj.2, hmk.2] at hc8
                  refine lv_aload_n hx hb dX4_number_77 rfl (lv_at hl 4 rfl) ?_
                  refine va_get (D := G.1) (ci := 4) (v := .ref (b 4)) (C := RX4) (T := TX4) (N := 15) hx hb hts hinX4 hown hK.1 hP 0 rfl rfl 4 (by decide) (hts (.fieldLink RX4 19 "PairThreadsModel" "rightOf" "[I") (by decide +kernel)) (fun _ h9 => h9) rfl dX4_number_78 ?_
                  refine lv_iload hx hb dX4_number_81 (lv_at hl 1 rfl) ?_
                  refine z_ialdN hx hb hK hP 4 rfl (j := j) (by omega) (by decide) dX4_number_83 ?_
                  refine lv_goto (tgt := 88) hx hb dX4_number_84 (by decide) ?_
                  refine z_top (y := lk (some (ro j))) (rfl) ?_
                  refine lv_istore_n (lv' := [(3, .int (lk (some (ro j)))), (2, .int (lk (some (lo j)))), (4, .int (nI j)), (1, .int (nI k)), (0, .ref (b 0))]) hx hb dX4_number_88 rfl hl (by decide) rfl (fun ls hl => ?_)
                  refine z_iinc (lv' := [(4, .int (nI (j + 1))), (3, .int (lk (some (ro j)))), (2, .int (lk (some (lo j)))), (1, .int (nI k)), (0, .ref (b 0))]) hx hb dX4_number_89 hl (k := 2) rfl (by decide) rfl (fun ls hl => ?_)
                  refine lv_goto (tgt := 27) hx hb dX4_number_92 (by decide) ?_
                  exact ih (j + 1) (some (lo j)) (some (ro j)) H locs ls (by omega) (by omega) (Or.inr ⟨j, by omega, hc6, rfl⟩) (Or.inr ⟨j, by omega, hc8, rfl⟩) hP hS (lv_sub hl [0, 2, 1, 3, 4] rfl)
        exact loop2 (k + 1) 0 none none _ _ ls (by omega) (by omega) (Or.inl ⟨rfl, fun i hi => absurd hi (Nat.not_lt_zero i)⟩) (Or.inl ⟨rfl, fun i hi => absurd hi (Nat.not_lt_zero i)⟩) hP hS (lv_sub hl [0, 2, 1, 3, 4] rfl)
  exact loop (L.length + 1) 0 lo ro fo no 0 0 _ _ ls (by omega) (by omega) ⟨fun j hj => absurd hj (Nat.not_lt_zero j), fun i j hi => absurd hi (Nat.not_lt_zero i), fun l hl => absurd hl (Nat.not_lt_zero l), rfl⟩ ⟨fun j hj => absurd hj (Nat.not_lt_zero j), fun i j hi => absurd hi (Nat.not_lt_zero i), fun l hl => absurd hl (Nat.not_lt_zero l), rfl⟩ ⟨fun l hl => absurd hl (Nat.not_lt_zero l), fun j hj => absurd hj (Nat.not_lt_zero j)⟩ hP hS (lv_sub hl [0, 1] rfl)
