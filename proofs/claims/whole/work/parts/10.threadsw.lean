set_option maxHeartbeats 4000000 in
set_option maxRecDepth 100000 in
/-- Threads.isSoundFrom: the thread goes as the order does -/
theorem c_isSoundFrom (l : Launch) (G : Gd) (a p : Nat → Nat) (N : Nat → Nat → Int32) (B F : Nat → Nat → Option Nat) (n : Nat) (d t : Nat) (hd : d < 2) (ht : t < n) (hn : n ≤ 300) (hp : ∀ i, i < 300 → p i < 300) (hB : lnkB p (fun i => N d (p i)) (B d) n) (hF : lnkF p (fun i => N d (p i)) (F d) n) (hf : ∀ j, j < t → ¬ N d (p j) = N d (p t)) : Mt l yX2_isSoundFrom wsX2_isSoundFrom 0 0 [.ref (a 0), .int (nI d), .int (nI t)] G (cT G a p N B F n ++ []) (fun _ => False) (fun r _ => r = some (.int (nI 1))) := by
  refine Mt.mk cX2_isSoundFrom 8 (some .boolean) (by decide) rfl (Nat.le_of_ble_eq_true rfl) ?_
  intro p9 e s m below meth c ls hx hb hr hml hts hown hlocks hP hK hl
  have hinX2 : ∀ w ∈ wsX20, w ∈ wsX2_isSoundFrom := by decide +kernel
  have hS : va_S (fun _ => False) s.heap s.heap [] := va_S.rf
  have hl : lv_has ls 8 [(0, .ref (a 0)), (1, .int (nI d)), (2, .int (nI t))] := hl
  have hown : s.vm.findClass RX2 = some m.cls := hown
  have hpt := hp t (by omega)
  refine lv_aload_n hx hb dX2_isSoundFrom_0 rfl (lv_at hl 0 rfl) ?_
  refine va_get (D := G.1) (ci := 2) (v := .ref (a 1)) (C := RX2) (T := TX2) (N := 5) hx hb hts hinX2 hown hK.1 hP 0 rfl rfl 0 (by decide) (hts (.fieldLink RX2 9 "PairThreads$Threads" "order" "[I") (by decide +kernel)) (fun _ h9 => h9) rfl dX2_isSoundFrom_1 ?_
  refine lv_iload_n hx hb dX2_isSoundFrom_4 rfl (lv_at hl 2 rfl) ?_
  refine z_ialdN hx hb hK hP 1 rfl (j := t) (by omega) (by decide) dX2_isSoundFrom_5 ?_
  refine lv_istore_n (lv' := [(3, .int (nI (p t))), (0, .ref (a 0)), (1, .int (nI d)), (2, .int (nI t))]) hx hb dX2_isSoundFrom_6 rfl hl (by decide) rfl (fun ls hl => ?_)
  refine lv_iconst (v := (-1)) hx hb dX2_isSoundFrom_7 rfl ?_
  refine lv_istore (lv' := [(4, .int ((-1))), (3, .int (nI (p t))), (0, .ref (a 0)), (1, .int (nI d)), (2, .int (nI t))]) hx hb dX2_isSoundFrom_8 hl (by decide) rfl (fun ls hl => ?_)
  refine lv_aload_n hx hb dX2_isSoundFrom_10 rfl (lv_at hl 2 rfl) ?_
  refine va_get (D := G.1) (ci := 2) (v := .ref (a 2)) (C := RX2) (T := TX2) (N := 5) hx hb hts hinX2 hown hK.1 hP 0 rfl rfl 1 (by decide) (hts (.fieldLink RX2 17 "PairThreads$Threads" "number" "[[I") (by decide +kernel)) (fun _ h9 => h9) rfl dX2_isSoundFrom_11 ?_
  refine lv_iload_n hx hb dX2_isSoundFrom_14 rfl (lv_at hl 3 rfl) ?_
  refine z_ald hx hb hK hP 2 rfl (j := d) (by omega) (by decide) dX2_isSoundFrom_15 ?_
  refine lv_iload_n hx hb dX2_isSoundFrom_16 rfl (lv_at hl 1 rfl) ?_
  refine z_iald hx hb hK hP (5 + d) (cT_N hd) (j := p t) (by omega) (by decide) dX2_isSoundFrom_17 ?_
  refine lv_istore (lv' := [(5, .int (N d (p t))), (4, .int ((-1))), (3, .int (nI (p t))), (0, .ref (a 0)), (1, .int (nI d)), (2, .int (nI t))]) hx hb dX2_isSoundFrom_18 hl (by decide) rfl (fun ls hl => ?_)
  refine lv_iload_n hx hb dX2_isSoundFrom_20 rfl (lv_at hl 5 rfl) ?_
  refine lv_istore (lv' := [(6, .int (nI t)), (5, .int (N d (p t))), (4, .int ((-1))), (3, .int (nI (p t))), (0, .ref (a 0)), (1, .int (nI d)), (2, .int (nI t))]) hx hb dX2_isSoundFrom_21 hl (by decide) rfl (fun ls hl => ?_)
  have hdue0 : (fun i (o : Option Nat) => (o = none ∧ ∀ j, i ≤ j → j < n → ¬ N d (p j) = N d (p t)) ∨ ∃ j, o = some j ∧ i ≤ j ∧ j < n ∧ N d (p j) = N d (p t) ∧ ∀ k, i ≤ k → k < j → ¬ N d (p k) = N d (p t)) t (some t) := Or.inr ⟨t, rfl, Nat.le_refl _, ht, rfl, fun k h1 h2 => absurd h2 (by omega)⟩
  have loop : ∀ (k9 : Nat) (i : Nat) (o : Option Nat) (u : Option Nat) (H : Heap) (locs : List Loc) (ls : Array Slot), n < i + k9 → t ≤ i ∧ i ≤ n → ((o = none ∧ ∀ j, i ≤ j → j < n → ¬ N d (p j) = N d (p t)) ∨ ∃ j, o = some j ∧ i ≤ j ∧ j < n ∧ N d (p j) = N d (p t) ∧ ∀ k, i ≤ k → k < j → ¬ N d (p k) = N d (p t)) → ((u = none ∧ ∀ j, j < i → ¬ N d (p j) = N d (p t)) ∨ ∃ j, u = some j ∧ j < i ∧ N d (p j) = N d (p t) ∧ ∀ k, j < k → k < i → ¬ N d (p k) = N d (p t)) → va_P G.1 vwCl (cT G a p N B F n ++ []) H → va_S (fun _ => False) s.heap H locs → lv_has ls 8 [(6, .int (nI i)), (5, .int (N d (p t))), (4, .int (lk (Option.map p u))), (3, .int (lk (Option.map p o))), (0, .ref (a 0)), (1, .int (nI d)), (2, .int (nI t))] → Wz p9 l e 0 0 s m [.ref (a 0), .int (nI d), .int (nI t)] below meth c (fun _ => False) (fun r _ => r = some (.int (nI 1))) H locs (F0 m 23 ls []) := by
    intro k9
    induction k9 with
    | zero =>
      intro i o u H locs ls hfuel hi hdue hprev hP hS hl
      exact absurd hfuel (by omega)
    | succ k9 ih =>
      intro i o u H locs ls hfuel hi hdue hprev hP hS hl
      refine lv_iload hx hb dX2_isSoundFrom_23 (lv_at hl 0 rfl) ?_
      refine lv_aload_n hx hb dX2_isSoundFrom_25 rfl (lv_at hl 4 rfl) ?_
      refine va_get (D := G.1) (ci := 2) (v := .int (nI n)) (C := RX2) (T := TX2) (N := 5) hx hb hts hinX2 hown hK.1 hP 0 rfl rfl 4 (by decide) (hts (.fieldLink RX2 26 "PairThreads$Threads" "size" "I") (by decide +kernel)) (fun _ h9 => h9) rfl dX2_isSoundFrom_26 ?_
      refine z_icmp_ge (tgt := 100) hx hb (by omega) (by omega) dX2_isSoundFrom_29 (by decide) (fun hc1 => ?_) (fun hc1 => ?_)
      · have ho : o = none := by rcases hdue with ⟨h1, -⟩ | ⟨j, -, h2, h3, -⟩; exact h1; omega
        subst ho
        have hl : lv_has ls 8 [(6, .int (nI i)), (5, .int (N d (p t))), (4, .int (lk (Option.map p u))), (3, .int (lk none)), (0, .ref (a 0)), (1, .int (nI d)), (2, .int (nI t))] := hl
        refine lv_iload_n hx hb dX2_isSoundFrom_100 rfl (lv_at hl 3 rfl) ?_
        refine lv_iconst (v := (-1)) hx hb dX2_isSoundFrom_101 rfl ?_
        refine z_none_ne (tgt := 109) hx hb (fun k hk => by cases hk) dX2_isSoundFrom_102 (by decide) (fun k hc2 => ?_) (fun hc2 => ?_)
        · cases hc2
        · refine lv_iconst (v := nI 1) hx hb dX2_isSoundFrom_105 rfl ?_
          refine lv_goto (tgt := 110) hx hb dX2_isSoundFrom_106 (by decide) ?_
          exact z_zret hx hb hr rfl hlocks rfl hS dX2_isSoundFrom_110
      · have hpi := hp i (by omega)
        refine lv_aload_n hx hb dX2_isSoundFrom_32 rfl (lv_at hl 4 rfl) ?_
        refine va_get (D := G.1) (ci := 2) (v := .ref (a 1)) (C := RX2) (T := TX2) (N := 5) hx hb hts hinX2 hown hK.1 hP 0 rfl rfl 0 (by decide) (hts (.fieldLink RX2 9 "PairThreads$Threads" "order" "[I") (by decide +kernel)) (fun _ h9 => h9) rfl dX2_isSoundFrom_33 ?_
        refine lv_iload hx hb dX2_isSoundFrom_36 (lv_at hl 0 rfl) ?_
        refine z_ialdN hx hb hK hP 1 rfl (j := i) (by omega) (by decide) dX2_isSoundFrom_38 ?_
        refine lv_istore (lv' := [(7, .int (nI (p i))), (6, .int (nI i)), (5, .int (N d (p t))), (4, .int (lk (Option.map p u))), (3, .int (lk (Option.map p o))), (0, .ref (a 0)), (1, .int (nI d)), (2, .int (nI t))]) hx hb dX2_isSoundFrom_39 hl (by decide) rfl (fun ls hl => ?_)
        refine lv_aload_n hx hb dX2_isSoundFrom_41 rfl (lv_at hl 5 rfl) ?_
        refine va_get (D := G.1) (ci := 2) (v := .ref (a 2)) (C := RX2) (T := TX2) (N := 5) hx hb hts hinX2 hown hK.1 hP 0 rfl rfl 1 (by decide) (hts (.fieldLink RX2 17 "PairThreads$Threads" "number" "[[I") (by decide +kernel)) (fun _ h9 => h9) rfl dX2_isSoundFrom_42 ?_
        refine lv_iload_n hx hb dX2_isSoundFrom_45 rfl (lv_at hl 6 rfl) ?_
        refine z_ald hx hb hK hP 2 rfl (j := d) (by omega) (by decide) dX2_isSoundFrom_46 ?_
        refine lv_iload hx hb dX2_isSoundFrom_47 (lv_at hl 0 rfl) ?_
        refine z_iald hx hb hK hP (5 + d) (cT_N hd) (j := p i) (by omega) (by decide) dX2_isSoundFrom_49 ?_
        refine lv_iload hx hb dX2_isSoundFrom_50 (lv_at hl 2 rfl) ?_
        refine lv_icmp_eq (tgt := 58) hx hb dX2_isSoundFrom_52 (by decide) (fun hc3 => ?_) (fun hc3 => ?_)
        · have ho : o = some i := by rcases hdue with ⟨-, h1⟩ | ⟨j, h1, h2, h3, h4, h5⟩; exact absurd hc3 (h1 i (Nat.le_refl _) (by omega)); rcases Nat.eq_or_lt_of_le h2 with q | q; rw [h1, q]; exact absurd hc3 (h5 i (Nat.le_refl _) q)
          subst ho
          have hl : lv_has ls 8 [(7, .int (nI (p i))), (6, .int (nI i)), (5, .int (N d (p t))), (4, .int (lk (Option.map p u))), (3, .int (nI (p i))), (0, .ref (a 0)), (1, .int (nI d)), (2, .int (nI t))] := hl
          refine lv_iload hx hb dX2_isSoundFrom_58 (lv_at hl 0 rfl) ?_
          refine lv_iload_n hx hb dX2_isSoundFrom_60 rfl (lv_at hl 4 rfl) ?_
          refine z_icmp_ne (tgt := 78) hx hb (by omega) (by omega) dX2_isSoundFrom_61 (by decide) (fun hc4 => ?_) (fun hc4 => ?_)
          · exact absurd rfl hc4
          · obtain ⟨ob, hob, hpr⟩ := hB i (by omega)
            have hub : ob = u := by
              have hpr : prevR (fun i => N d (p i)) i ob := hpr
              rcases hpr with ⟨e1, h1⟩ | ⟨j, e1, h1, h2, h3⟩ <;> rcases hprev with ⟨e2, g1⟩ | ⟨k, e2, g1, g2, g3⟩
              · rw [e1, e2]
              · exact absurd (g2.trans hc3.symm) (h1 k g1)
              · exact absurd (h2.trans hc3) (g1 j h1)
              · rcases Nat.lt_trichotomy j k with z | z | z
                · exact absurd (g2.trans hc3.symm) (h3 k z g1)
                · rw [e1, e2, z]
                · exact absurd (h2.trans hc3) (g3 j z h1)
            subst hub
            refine lv_aload_n hx hb dX2_isSoundFrom_64 rfl (lv_at hl 5 rfl) ?_
            refine va_get (D := G.1) (ci := 2) (v := .ref (a 3)) (C := RX2) (T := TX2) (N := 5) hx hb hts hinX2 hown hK.1 hP 0 rfl rfl 2 (by decide) (hts (.fieldLink RX2 20 "PairThreads$Threads" "before" "[[I") (by decide +kernel)) (fun _ h9 => h9) rfl dX2_isSoundFrom_65 ?_
            refine lv_iload_n hx hb dX2_isSoundFrom_68 rfl (lv_at hl 6 rfl) ?_
            refine z_ald hx hb hK hP 3 rfl (j := d) (by omega) (by decide) dX2_isSoundFrom_69 ?_
            refine lv_iload hx hb dX2_isSoundFrom_70 (lv_at hl 0 rfl) ?_
            refine z_ialdO hx hb hK hP (7 + d) (cT_B hd) (j := p i) (by omega) (by decide) dX2_isSoundFrom_72 ?_
            refine lv_iload hx hb dX2_isSoundFrom_73 (lv_at hl 3 rfl) ?_
            refine lv_icmp_eq (tgt := 80) hx hb dX2_isSoundFrom_75 (by decide) (fun hc5 => ?_) (fun hc5 => ?_)
            · obtain ⟨o2, ho2, hnx⟩ := hF i (by omega)
              refine lv_iload hx hb dX2_isSoundFrom_80 (lv_at hl 0 rfl) ?_
              refine lv_istore (lv' := [(4, .int (nI (p i))), (7, .int (nI (p i))), (6, .int (nI i)), (5, .int (N d (p t))), (3, .int (nI (p i))), (0, .ref (a 0)), (1, .int (nI d)), (2, .int (nI t))]) hx hb dX2_isSoundFrom_82 hl (by decide) rfl (fun ls hl => ?_)
              refine lv_aload_n hx hb dX2_isSoundFrom_84 rfl (lv_at hl 5 rfl) ?_
              refine va_get (D := G.1) (ci := 2) (v := .ref (a 4)) (C := RX2) (T := TX2) (N := 5) hx hb hts hinX2 hown hK.1 hP 0 rfl rfl 3 (by decide) (hts (.fieldLink RX2 23 "PairThreads$Threads" "after" "[[I") (by decide +kernel)) (fun _ h9 => h9) rfl dX2_isSoundFrom_85 ?_
              refine lv_iload_n hx hb dX2_isSoundFrom_88 rfl (lv_at hl 6 rfl) ?_
              refine z_ald hx hb hK hP 4 rfl (j := d) (by omega) (by decide) dX2_isSoundFrom_89 ?_
              refine lv_iload hx hb dX2_isSoundFrom_90 (lv_at hl 1 rfl) ?_
              refine z_ialdO hx hb hK hP (9 + d) (cT_F hd) (j := p i) (by omega) (by decide) dX2_isSoundFrom_92 ?_
              refine z_top (y := lk (Option.map p o2)) (congrArg lk ho2) ?_
              refine lv_istore_n (lv' := [(3, .int (lk (Option.map p o2))), (4, .int (nI (p i))), (7, .int (nI (p i))), (6, .int (nI i)), (5, .int (N d (p t))), (0, .ref (a 0)), (1, .int (nI d)), (2, .int (nI t))]) hx hb dX2_isSoundFrom_93 rfl hl (by decide) rfl (fun ls hl => ?_)
              refine z_iinc (lv' := [(6, .int (nI (i + 1))), (3, .int (lk (Option.map p o2))), (4, .int (nI (p i))), (7, .int (nI (p i))), (5, .int (N d (p t))), (0, .ref (a 0)), (1, .int (nI d)), (2, .int (nI t))]) hx hb dX2_isSoundFrom_94 hl (k := 3) rfl (by decide) rfl (fun ls hl => ?_)
              refine lv_goto (tgt := 23) hx hb dX2_isSoundFrom_97 (by decide) ?_
              have hl : lv_has ls 8 [(6, .int (nI (i + 1))), (3, .int (lk (Option.map p o2))), (4, .int (lk (Option.map p (some i)))), (7, .int (nI (p i))), (5, .int (N d (p t))), (0, .ref (a 0)), (1, .int (nI d)), (2, .int (nI t))] := hl
              have hnx : nextR (fun i => N d (p i)) n i o2 := hnx
              exact ih (i + 1) o2 (some i) H locs ls (by omega) ⟨by omega, by omega⟩ (by rcases hnx with ⟨e1, h1⟩ | ⟨j, e1, h1, h2, h3, h4⟩; exact Or.inl ⟨e1, fun j q1 q2 q3 => h1 j q1 q2 (q3.trans hc3.symm)⟩; exact Or.inr ⟨j, e1, h1, h2, h3.trans hc3, fun k q1 q2 q3 => h4 k q1 q2 (q3.trans hc3.symm)⟩) (Or.inr ⟨i, rfl, by omega, hc3, fun k q1 q2 => absurd q2 (by omega)⟩) hP hS (lv_sub hl [0, 4, 2, 1, 5, 6, 7] rfl)
            · exact absurd (congrArg lk hob) hc5
        · refine lv_goto (tgt := 94) hx hb dX2_isSoundFrom_55 (by decide) ?_
          refine z_iinc (lv' := [(6, .int (nI (i + 1))), (7, .int (nI (p i))), (5, .int (N d (p t))), (4, .int (lk (Option.map p u))), (3, .int (lk (Option.map p o))), (0, .ref (a 0)), (1, .int (nI d)), (2, .int (nI t))]) hx hb dX2_isSoundFrom_94 hl (k := 1) rfl (by decide) rfl (fun ls hl => ?_)
          refine lv_goto (tgt := 23) hx hb dX2_isSoundFrom_97 (by decide) ?_
          exact ih (i + 1) o u H locs ls (by omega) ⟨by omega, by omega⟩ (by rcases hdue with ⟨e1, h1⟩ | ⟨j, e1, h1, h2, h3, h4⟩; exact Or.inl ⟨e1, fun j q1 q2 => h1 j (by omega) q2⟩; exact Or.inr ⟨j, e1, by rcases Nat.eq_or_lt_of_le h1 with q | q; rw [← q] at h3; exact absurd h3 hc3; exact q, h2, h3, fun k q1 q2 => h4 k (by omega) q2⟩) (by rcases hprev with ⟨e1, h1⟩ | ⟨j, e1, h1, h2, h3⟩; exact Or.inl ⟨e1, (fun j hj => by rcases Nat.lt_succ_iff_lt_or_eq.mp hj with q | q; exact h1 j q; exact q ▸ hc3)⟩; exact Or.inr ⟨j, e1, by omega, h2, fun k q1 q2 => by rcases Nat.lt_succ_iff_lt_or_eq.mp q2 with q | q; exact h3 k q1 q; exact q ▸ hc3⟩) hP hS (lv_sub hl [0, 2, 3, 4, 5, 6, 7] rfl)
  have hl : lv_has ls 8 [(6, .int (nI t)), (5, .int (N d (p t))), (4, .int (lk (Option.map p none))), (3, .int (nI (p t))), (0, .ref (a 0)), (1, .int (nI d)), (2, .int (nI t))] := hl
  have hl : lv_has ls 8 [(6, .int (nI t)), (5, .int (N d (p t))), (4, .int (lk (Option.map p none))), (3, .int (lk (Option.map p (some t)))), (0, .ref (a 0)), (1, .int (nI d)), (2, .int (nI t))] := hl
  exact loop (n + 1) t (some t) none _ _ ls (by omega) ⟨by omega, by omega⟩ hdue0 (Or.inl ⟨rfl, hf⟩) hP hS (lv_sub hl [0, 1, 2, 3, 4, 5, 6] rfl)

set_option maxHeartbeats 4000000 in
set_option maxRecDepth 100000 in
/-- Threads.areSound: it always is so -/
theorem c_areSound (l : Launch) (G : Gd) (a p : Nat → Nat) (N : Nat → Nat → Int32) (B F : Nat → Nat → Option Nat) (n : Nat) (d : Nat) (hd : d < 2) (hn : n ≤ 300) (hp : ∀ i, i < 300 → p i < 300) (hij : ∀ i j, i < 300 → j < 300 → p i = p j → i = j) (hB : lnkB p (fun i => N d (p i)) (B d) n) (hF : lnkF p (fun i => N d (p i)) (F d) n) : Mt l yX2_areSound wsX2_areSound 1 27 [.ref (a 0), .int (nI d)] G (cT G a p N B F n ++ []) (fun _ => False) (fun r _ => r = some (.int (nI 1))) := by
  refine Mt.mk cX2_areSound 4 (some .boolean) (by decide) rfl (Nat.le_of_ble_eq_true rfl) ?_
  intro p9 e s m below meth c ls hx hb hr hml hts hown hlocks hP hK hl
  have hinX2 : ∀ w ∈ wsX20, w ∈ wsX2_areSound := by decide +kernel
  have hS : va_S (fun _ => False) s.heap s.heap [] := va_S.rf
  have hl : lv_has ls 4 [(0, .ref (a 0)), (1, .int (nI d))] := hl
  have hown : s.vm.findClass RX2 = some m.cls := hown
  refine lv_iconst (v := nI 0) hx hb dX2_areSound_0 rfl ?_
  refine lv_istore_n (lv' := [(2, .int (nI 0)), (0, .ref (a 0)), (1, .int (nI d))]) hx hb dX2_areSound_1 rfl hl (by decide) rfl (fun ls hl => ?_)
  have loop : ∀ (k9 : Nat) (i : Nat) (H : Heap) (locs : List Loc) (ls : Array Slot), n < i + k9 → i ≤ n → va_P G.1 vwCl (cT G a p N B F n ++ []) H → va_S (fun _ => False) s.heap H locs → lv_has ls 4 [(2, .int (nI i)), (0, .ref (a 0)), (1, .int (nI d))] → Wz p9 l e 1 27 s m [.ref (a 0), .int (nI d)] below meth c (fun _ => False) (fun r _ => r = some (.int (nI 1))) H locs (F0 m 2 ls []) := by
    intro k9
    induction k9 with
    | zero =>
      intro i H locs ls hfuel hi hP hS hl
      exact absurd hfuel (by omega)
    | succ k9 ih =>
      intro i H locs ls hfuel hi hP hS hl
      refine lv_iload_n hx hb dX2_areSound_2 rfl (lv_at hl 0 rfl) ?_
      refine lv_aload_n hx hb dX2_areSound_3 rfl (lv_at hl 1 rfl) ?_
      refine va_get (D := G.1) (ci := 2) (v := .int (nI n)) (C := RX2) (T := TX2) (N := 5) hx hb hts hinX2 hown hK.1 hP 0 rfl rfl 4 (by decide) (hts (.fieldLink RX2 26 "PairThreads$Threads" "size" "I") (by decide +kernel)) (fun _ h9 => h9) rfl dX2_areSound_4 ?_
      refine z_icmp_ge (tgt := 51) hx hb (by omega) (by omega) dX2_areSound_7 (by decide) (fun hc1 => ?_) (fun hc1 => ?_)
      · refine lv_iconst (v := nI 1) hx hb dX2_areSound_51 rfl ?_
        exact z_zret hx hb hr rfl hlocks rfl hS dX2_areSound_52
      · have hpi := hp i (by omega)
        refine lv_aload_n hx hb dX2_areSound_10 rfl (lv_at hl 1 rfl) ?_
        refine va_get (D := G.1) (ci := 2) (v := .ref (a 1)) (C := RX2) (T := TX2) (N := 5) hx hb hts hinX2 hown hK.1 hP 0 rfl rfl 0 (by decide) (hts (.fieldLink RX2 9 "PairThreads$Threads" "order" "[I") (by decide +kernel)) (fun _ h9 => h9) rfl dX2_areSound_11 ?_
        refine lv_iload_n hx hb dX2_areSound_14 rfl (lv_at hl 0 rfl) ?_
        refine z_ialdN hx hb hK hP 1 rfl (j := i) (by omega) (by decide) dX2_areSound_15 ?_
        refine lv_istore_n (lv' := [(3, .int (nI (p i))), (2, .int (nI i)), (0, .ref (a 0)), (1, .int (nI d))]) hx hb dX2_areSound_16 rfl hl (by decide) rfl (fun ls hl => ?_)
        refine lv_aload_n hx hb dX2_areSound_17 rfl (lv_at hl 2 rfl) ?_
        refine lv_iload_n hx hb dX2_areSound_18 rfl (lv_at hl 3 rfl) ?_
        refine lv_aload_n hx hb dX2_areSound_19 rfl (lv_at hl 2 rfl) ?_
        refine va_get (D := G.1) (ci := 2) (v := .ref (a 2)) (C := RX2) (T := TX2) (N := 5) hx hb hts hinX2 hown hK.1 hP 0 rfl rfl 1 (by decide) (hts (.fieldLink RX2 17 "PairThreads$Threads" "number" "[[I") (by decide +kernel)) (fun _ h9 => h9) rfl dX2_areSound_20 ?_
        refine lv_iload_n hx hb dX2_areSound_23 rfl (lv_at hl 3 rfl) ?_
        refine z_ald hx hb hK hP 2 rfl (j := d) (by omega) (by decide) dX2_areSound_24 ?_
        refine lv_iload_n hx hb dX2_areSound_25 rfl (lv_at hl 0 rfl) ?_
        refine z_iald hx hb hK hP (5 + d) (cT_N hd) (j := p i) (by omega) (by decide) dX2_areSound_26 ?_
        refine z_callV (rest := []) 2 ⟨hx, hb, hml, hown, hts⟩ hK (c_firstOf l G a p N B F n d (N d (p i)) hd hn hp) gX2_areSound_X2_firstOf rfl (by decide +kernel) ⟨Nat.le_of_ble_eq_true rfl, Nat.le_of_ble_eq_true rfl⟩ hP 0 rfl rfl rfl rfl hl.1 rfl (Nat.le_of_ble_eq_true rfl) dX2_areSound_27 ⟨Nat.le_refl _, Nat.le_refl _⟩ hS (fun _ h => h.elim) (fun v9 H9 locs hR9 hk9 hS => ?_)
        obtain ⟨o, rfl, ho⟩ := hR9
        have hP := P_keep0 hP hk9
        clear hk9
        generalize H9 = H at hP hS ⊢
        refine W.eq (g2 := F0 m 30 ls [.int (lk (Option.map p o))]) rfl ?_
        rcases ho with ⟨ho, hno⟩ | ⟨f, ho, hf1, hf2, hf3⟩
        · exact absurd rfl (hno i (by omega))
        · subst ho
          have hpf := hp f (by omega)
          refine z_top (y := nI (p f)) (rfl) ?_
          refine lv_iload_n hx hb dX2_areSound_30 rfl (lv_at hl 0 rfl) ?_
          refine z_icmp_ne (tgt := 45) hx hb (by omega) (by omega) dX2_areSound_31 (by decide) (fun hc2 => ?_) (fun hc2 => ?_)
          · refine z_iinc (lv' := [(2, .int (nI (i + 1))), (3, .int (nI (p i))), (0, .ref (a 0)), (1, .int (nI d))]) hx hb dX2_areSound_45 hl (k := 1) rfl (by decide) rfl (fun ls hl => ?_)
            refine lv_goto (tgt := 2) hx hb dX2_areSound_48 (by decide) ?_
            exact ih (i + 1) H locs ls (by omega) (by omega) hP hS (lv_sub hl [0, 2, 3] rfl)
          · have hfi := hij f i (by omega) (by omega) hc2
            subst hfi
            have hl : lv_has ls 4 [(3, .int (nI (p f))), (2, .int (nI f)), (0, .ref (a 0)), (1, .int (nI d))] := hl
            refine lv_aload_n hx hb dX2_areSound_34 rfl (lv_at hl 2 rfl) ?_
            refine lv_iload_n hx hb dX2_areSound_35 rfl (lv_at hl 3 rfl) ?_
            refine lv_iload_n hx hb dX2_areSound_36 rfl (lv_at hl 1 rfl) ?_
            refine z_callV (rest := []) 2 ⟨hx, hb, hml, hown, hts⟩ hK (c_isSoundFrom l G a p N B F n d f hd hf1 hn hp hB hF hf3) gX2_areSound_X2_isSoundFrom rfl (by decide +kernel) ⟨Nat.le_of_ble_eq_true rfl, Nat.le_of_ble_eq_true rfl⟩ hP 0 rfl rfl rfl rfl hl.1 rfl (Nat.le_of_ble_eq_true rfl) dX2_areSound_37 ⟨Nat.le_refl _, Nat.le_refl _⟩ hS (fun _ h => h.elim) (fun v9 H9 locs hR9 hk9 hS => ?_)
            obtain rfl := hR9
            have hP := P_keep0 hP hk9
            clear hk9
            generalize H9 = H at hP hS ⊢
            refine W.eq (g2 := F0 m 40 ls [.int (nI 1)]) rfl ?_
            refine z_if_ne (tgt := 45) hx hb (by omega) dX2_areSound_40 (by decide) (fun hc3 => ?_) (fun hc3 => ?_)
            · refine z_iinc (lv' := [(2, .int (nI (f + 1))), (3, .int (nI (p f))), (0, .ref (a 0)), (1, .int (nI d))]) hx hb dX2_areSound_45 hl (k := 1) rfl (by decide) rfl (fun ls hl => ?_)
              refine lv_goto (tgt := 2) hx hb dX2_areSound_48 (by decide) ?_
              exact ih (f + 1) H locs ls (by omega) (by omega) hP hS (lv_sub hl [0, 2, 3] rfl)
            · exact absurd hc3 (by decide)
  exact loop (n + 1) 0 _ _ ls (by omega) (by omega) hP hS (lv_sub hl [0, 1, 2] rfl)

set_option maxHeartbeats 4000000 in
set_option maxRecDepth 100000 in
/-- Threads.tieOn -/
theorem c_tieOn (l : Launch) (G : Gd) (a p : Nat → Nat) (N : Nat → Nat → Int32) (B F : Nat → Nat → Option Nat) (n : Nat) (d sl : Nat) (v : Int32) (hd : d < 2) (hsl : sl < 300) (hn : n ≤ 300) (hp : ∀ i, i < 300 → p i < 300) (hnd : (aT a).Nodup) : Mt l yX2_tieOn wsX2_tieOn 1 23 [.ref (a 0), .int (nI d), .int (nI sl), .int (v)] G (cT G a p N B F n ++ []) (fun q => q ∈ aT a) (fun r h => r = none ∧ ∃ o : Option Nat, lastR (fun i => N d (p i)) n v o ∧ va_P G.1 vwCl (cT G a p (va_up N d (upd (N d) sl v)) (va_up B d (va_up (B d) sl (Option.map p o))) (va_up F d (tieFd p (F d) sl o)) n ++ []) h) := by
  refine Mt.mk cX2_tieOn 5 none (by decide) rfl (Nat.le_of_ble_eq_true rfl) ?_
  intro p9 e s m below meth c ls hx hb hr hml hts hown hlocks hP hK hl
  have hinX2 : ∀ w ∈ wsX20, w ∈ wsX2_tieOn := by decide +kernel
  have hS : va_S (fun q => q ∈ aT a) s.heap s.heap [] := va_S.rf
  have hl : lv_has ls 5 [(0, .ref (a 0)), (1, .int (nI d)), (2, .int (nI sl)), (3, .int (v))] := hl
  have hown : s.vm.findClass RX2 = some m.cls := hown
  have hDD : ∀ ws : va_W, ws.map Prod.fst = aT a → va_D (fun q => q ∈ aT a) ws := D_of hnd (fun q h => h)
  refine lv_aload_n hx hb dX2_tieOn_0 rfl (lv_at hl 0 rfl) ?_
  refine lv_iload_n hx hb dX2_tieOn_1 rfl (lv_at hl 1 rfl) ?_
  refine lv_iload_n hx hb dX2_tieOn_2 rfl (lv_at hl 3 rfl) ?_
  refine z_callV (rest := []) 2 ⟨hx, hb, hml, hown, hts⟩ hK (c_lastOf l G a p N B F n d v hd hn hp) gX2_tieOn_X2_lastOf rfl (by decide +kernel) ⟨Nat.le_of_ble_eq_true rfl, Nat.le_of_ble_eq_true rfl⟩ hP 0 rfl rfl rfl rfl hl.1 rfl (Nat.le_of_ble_eq_true rfl) dX2_tieOn_3 ⟨Nat.le_refl _, Nat.le_refl _⟩ hS (fun _ h => h.elim) (fun v9 H9 locs hR9 hk9 hS => ?_)
  obtain ⟨o, rfl, ho⟩ := hR9
  have hP := P_keep0 hP hk9
  clear hk9
  generalize H9 = H at hP hS ⊢
  refine W.eq (g2 := F0 m 6 ls [.int (lk (Option.map p o))]) rfl ?_
  have hol : ∀ j, o = some j → j < n := fun j hj => by rcases ho with ⟨e1, -⟩ | ⟨k, e1, h1, -⟩; rw [e1] at hj; cases hj; rw [e1] at hj; cases hj; exact h1
  refine lv_istore (lv' := [(4, .int (lk (Option.map p o))), (0, .ref (a 0)), (1, .int (nI d)), (2, .int (nI sl)), (3, .int (v))]) hx hb dX2_tieOn_6 hl (by decide) rfl (fun ls hl => ?_)
  refine lv_aload_n hx hb dX2_tieOn_8 rfl (lv_at hl 1 rfl) ?_
  refine va_get (D := G.1) (ci := 2) (v := .ref (a 2)) (C := RX2) (T := TX2) (N := 5) hx hb hts hinX2 hown hK.1 hP 0 rfl rfl 1 (by decide) (hts (.fieldLink RX2 17 "PairThreads$Threads" "number" "[[I") (by decide +kernel)) (fun _ h9 => h9) rfl dX2_tieOn_9 ?_
  refine lv_iload_n hx hb dX2_tieOn_12 rfl (lv_at hl 2 rfl) ?_
  refine z_ald hx hb hK hP 2 rfl (j := d) (by omega) (by decide) dX2_tieOn_13 ?_
  refine lv_iload_n hx hb dX2_tieOn_14 rfl (lv_at hl 3 rfl) ?_
  refine lv_iload_n hx hb dX2_tieOn_15 rfl (lv_at hl 4 rfl) ?_
  refine z_iast hx hb hK hP (hDD _ rfl) hS (5 + d) (cT_N hd) (j := sl) (by omega) (by decide) dX2_tieOn_16 (fun H locs hP hS => ?_)
  rw [cT_sN hd] at hP
  refine lv_aload_n hx hb dX2_tieOn_17 rfl (lv_at hl 1 rfl) ?_
  refine va_get (D := G.1) (ci := 2) (v := .ref (a 3)) (C := RX2) (T := TX2) (N := 5) hx hb hts hinX2 hown hK.1 hP 0 rfl rfl 2 (by decide) (hts (.fieldLink RX2 20 "PairThreads$Threads" "before" "[[I") (by decide +kernel)) (fun _ h9 => h9) rfl dX2_tieOn_18 ?_
  refine lv_iload_n hx hb dX2_tieOn_21 rfl (lv_at hl 2 rfl) ?_
  refine z_ald hx hb hK hP 3 rfl (j := d) (by omega) (by decide) dX2_tieOn_22 ?_
  refine lv_iload_n hx hb dX2_tieOn_23 rfl (lv_at hl 3 rfl) ?_
  refine lv_iload hx hb dX2_tieOn_24 (lv_at hl 0 rfl) ?_
  refine z_iastO hx hb hK hP (hDD _ rfl) hS (7 + d) (cT_B hd) (j := sl) (by omega) (by decide) dX2_tieOn_26 (fun H locs hP hS => ?_)
  rw [cT_sB hd] at hP
  refine lv_aload_n hx hb dX2_tieOn_27 rfl (lv_at hl 1 rfl) ?_
  refine va_get (D := G.1) (ci := 2) (v := .ref (a 4)) (C := RX2) (T := TX2) (N := 5) hx hb hts hinX2 hown hK.1 hP 0 rfl rfl 3 (by decide) (hts (.fieldLink RX2 23 "PairThreads$Threads" "after" "[[I") (by decide +kernel)) (fun _ h9 => h9) rfl dX2_tieOn_28 ?_
  refine lv_iload_n hx hb dX2_tieOn_31 rfl (lv_at hl 2 rfl) ?_
  refine z_ald hx hb hK hP 4 rfl (j := d) (by omega) (by decide) dX2_tieOn_32 ?_
  refine lv_iload_n hx hb dX2_tieOn_33 rfl (lv_at hl 3 rfl) ?_
  refine lv_iconst (v := (-1)) hx hb dX2_tieOn_34 rfl ?_
  refine z_top (y := lk none) (rfl) ?_
  refine z_iastO hx hb hK hP (hDD _ rfl) hS (9 + d) (cT_F hd) (j := sl) (by omega) (by decide) dX2_tieOn_35 (fun H locs hP hS => ?_)
  rw [cT_sF hd] at hP
  refine lv_iload hx hb dX2_tieOn_36 (lv_at hl 0 rfl) ?_
  refine lv_iconst (v := (-1)) hx hb dX2_tieOn_38 rfl ?_
  refine z_none_eq (tgt := 52) hx hb (fun k hk => by have := mp_lt hp hn hol hk; omega) dX2_tieOn_39 (by decide) (fun hc1 => ?_) (fun k hc1 => ?_)
  · have hon : o = none := by cases o with | none => rfl | some j => cases hc1
    subst hon
    exact z_vret hx hb hr hlocks ⟨rfl, none, ho, hP⟩ hS dX2_tieOn_52
  · obtain ⟨j, hoj, hjk⟩ := Option.map_eq_some_iff.mp hc1
    subst hoj
    clear hjk
    have hl : lv_has ls 5 [(4, .int (nI (p j))), (0, .ref (a 0)), (1, .int (nI d)), (2, .int (nI sl)), (3, .int (v))] := hl
    have hpj := hp j (by have := hol j rfl; omega)
    refine lv_aload_n hx hb dX2_tieOn_42 rfl (lv_at hl 1 rfl) ?_
    refine va_get (D := G.1) (ci := 2) (v := .ref (a 4)) (C := RX2) (T := TX2) (N := 5) hx hb hts hinX2 hown hK.1 hP 0 rfl rfl 3 (by decide) (hts (.fieldLink RX2 23 "PairThreads$Threads" "after" "[[I") (by decide +kernel)) (fun _ h9 => h9) rfl dX2_tieOn_43 ?_
    refine lv_iload_n hx hb dX2_tieOn_46 rfl (lv_at hl 2 rfl) ?_
    refine z_ald hx hb hK hP 4 rfl (j := d) (by omega) (by decide) dX2_tieOn_47 ?_
    refine lv_iload hx hb dX2_tieOn_48 (lv_at hl 0 rfl) ?_
    refine lv_iload_n hx hb dX2_tieOn_50 rfl (lv_at hl 3 rfl) ?_
    refine z_top (y := lk (some sl)) (rfl) ?_
    refine z_iastO hx hb hK hP (hDD _ rfl) hS (9 + d) (cT_F hd) (j := p j) (by omega) (by decide) dX2_tieOn_51 (fun H locs hP hS => ?_)
    rw [cT_sF hd] at hP
    exact z_vret hx hb hr hlocks ⟨rfl, some j, ho, by rw [bx_uu, up_s] at hP; exact hP⟩ hS dX2_tieOn_52

set_option maxHeartbeats 4000000 in
set_option maxRecDepth 100000 in
/-- Threads.untie -/
theorem c_untie (l : Launch) (G : Gd) (a p : Nat → Nat) (N : Nat → Nat → Int32) (B F : Nat → Nat → Option Nat) (n : Nat) (d sl : Nat) (ob of' : Option Nat) (hd : d < 2) (hsl : sl < 300) (hob : B d sl = Option.map p ob) (hof : F d sl = Option.map p of') (hlb : ∀ j, ob = some j → j < n) (hlf : ∀ j, of' = some j → j < n) (hn : n ≤ 300) (hp : ∀ i, i < 300 → p i < 300) (hnd : (aT a).Nodup) : Mt l yX2_untie wsX2_untie 0 0 [.ref (a 0), .int (nI d), .int (nI sl)] G (cT G a p N B F n ++ []) (fun q => q ∈ aT a) (fun r h => r = none ∧ va_P G.1 vwCl (cT G a p N (va_up B d (unt p (B d) of' ob)) (va_up F d (unt p (F d) ob of')) n ++ []) h) := by
  refine Mt.mk cX2_untie 5 none (by decide) rfl (Nat.le_of_ble_eq_true rfl) ?_
  intro p9 e s m below meth c ls hx hb hr hml hts hown hlocks hP hK hl
  have hinX2 : ∀ w ∈ wsX20, w ∈ wsX2_untie := by decide +kernel
  have hS : va_S (fun q => q ∈ aT a) s.heap s.heap [] := va_S.rf
  have hl : lv_has ls 5 [(0, .ref (a 0)), (1, .int (nI d)), (2, .int (nI sl))] := hl
  have hown : s.vm.findClass RX2 = some m.cls := hown
  have hDD : ∀ ws : va_W, ws.map Prod.fst = aT a → va_D (fun q => q ∈ aT a) ws := D_of hnd (fun q h => h)
  refine lv_aload_n hx hb dX2_untie_0 rfl (lv_at hl 0 rfl) ?_
  refine va_get (D := G.1) (ci := 2) (v := .ref (a 3)) (C := RX2) (T := TX2) (N := 5) hx hb hts hinX2 hown hK.1 hP 0 rfl rfl 2 (by decide) (hts (.fieldLink RX2 20 "PairThreads$Threads" "before" "[[I") (by decide +kernel)) (fun _ h9 => h9) rfl dX2_untie_1 ?_
  refine lv_iload_n hx hb dX2_untie_4 rfl (lv_at hl 1 rfl) ?_
  refine z_ald hx hb hK hP 3 rfl (j := d) (by omega) (by decide) dX2_untie_5 ?_
  refine lv_iload_n hx hb dX2_untie_6 rfl (lv_at hl 2 rfl) ?_
  refine z_ialdO hx hb hK hP (7 + d) (cT_B hd) (j := sl) (by omega) (by decide) dX2_untie_7 ?_
  refine z_top (y := lk (Option.map p ob)) (congrArg lk hob) ?_
  refine lv_istore_n (lv' := [(3, .int (lk (Option.map p ob))), (0, .ref (a 0)), (1, .int (nI d)), (2, .int (nI sl))]) hx hb dX2_untie_8 rfl hl (by decide) rfl (fun ls hl => ?_)
  refine lv_aload_n hx hb dX2_untie_9 rfl (lv_at hl 1 rfl) ?_
  refine va_get (D := G.1) (ci := 2) (v := .ref (a 4)) (C := RX2) (T := TX2) (N := 5) hx hb hts hinX2 hown hK.1 hP 0 rfl rfl 3 (by decide) (hts (.fieldLink RX2 23 "PairThreads$Threads" "after" "[[I") (by decide +kernel)) (fun _ h9 => h9) rfl dX2_untie_10 ?_
  refine lv_iload_n hx hb dX2_untie_13 rfl (lv_at hl 2 rfl) ?_
  refine z_ald hx hb hK hP 4 rfl (j := d) (by omega) (by decide) dX2_untie_14 ?_
  refine lv_iload_n hx hb dX2_untie_15 rfl (lv_at hl 3 rfl) ?_
  refine z_ialdO hx hb hK hP (9 + d) (cT_F hd) (j := sl) (by omega) (by decide) dX2_untie_16 ?_
  refine z_top (y := lk (Option.map p of')) (congrArg lk hof) ?_
  refine lv_istore (lv' := [(4, .int (lk (Option.map p of'))), (3, .int (lk (Option.map p ob))), (0, .ref (a 0)), (1, .int (nI d)), (2, .int (nI sl))]) hx hb dX2_untie_17 hl (by decide) rfl (fun ls hl => ?_)
  refine lv_iload_n hx hb dX2_untie_19 rfl (lv_at hl 1 rfl) ?_
  refine lv_iconst (v := (-1)) hx hb dX2_untie_20 rfl ?_
  refine z_none_eq (tgt := 34) hx hb (fun k hk => by have := mp_lt hp hn hlb hk; omega) dX2_untie_21 (by decide) (fun hc1 => ?_) (fun k hc1 => ?_)
  · have hon : ob = none := by cases ob with | none => rfl | some j => cases hc1
    subst hon
    have hl : lv_has ls 5 [(4, .int (lk (Option.map p of'))), (3, .int (lk (Option.map p none))), (0, .ref (a 0)), (1, .int (nI d)), (2, .int (nI sl))] := hl
    refine lv_iload hx hb dX2_untie_34 (lv_at hl 0 rfl) ?_
    refine lv_iconst (v := (-1)) hx hb dX2_untie_36 rfl ?_
    refine z_none_eq (tgt := 50) hx hb (fun k hk => by have := mp_lt hp hn hlf hk; omega) dX2_untie_37 (by decide) (fun hc2 => ?_) (fun k hc2 => ?_)
    · have hon : of' = none := by cases of' with | none => rfl | some j => cases hc2
      subst hon
      exact z_vret hx hb hr hlocks ⟨rfl, by rw [show unt p (B d) none _ = B d from rfl, up_id]; exact by rw [show unt p (F d) none _ = F d from rfl, up_id]; exact hP⟩ hS dX2_untie_50
    · obtain ⟨j2, hoj, hjk⟩ := Option.map_eq_some_iff.mp hc2
      subst hoj
      clear hjk
      have hl : lv_has ls 5 [(4, .int (nI (p j2))), (3, .int (lk (Option.map p none))), (0, .ref (a 0)), (1, .int (nI d)), (2, .int (nI sl))] := hl
      have hpj2 := hp j2 (by have := hlf j2 rfl; omega)
      refine lv_aload_n hx hb dX2_untie_40 rfl (lv_at hl 2 rfl) ?_
      refine va_get (D := G.1) (ci := 2) (v := .ref (a 3)) (C := RX2) (T := TX2) (N := 5) hx hb hts hinX2 hown hK.1 hP 0 rfl rfl 2 (by decide) (hts (.fieldLink RX2 20 "PairThreads$Threads" "before" "[[I") (by decide +kernel)) (fun _ h9 => h9) rfl dX2_untie_41 ?_
      refine lv_iload_n hx hb dX2_untie_44 rfl (lv_at hl 3 rfl) ?_
      refine z_ald hx hb hK hP 3 rfl (j := d) (by omega) (by decide) dX2_untie_45 ?_
      refine lv_iload hx hb dX2_untie_46 (lv_at hl 0 rfl) ?_
      refine lv_iload_n hx hb dX2_untie_48 rfl (lv_at hl 1 rfl) ?_
      refine z_iastO hx hb hK hP (hDD _ rfl) hS (7 + d) (cT_B hd) (j := p j2) (by omega) (by decide) dX2_untie_49 (fun H locs hP hS => ?_)
      rw [cT_sB hd] at hP
      exact z_vret hx hb hr hlocks ⟨rfl, by rw [show unt p (F d) none _ = F d from rfl, up_id]; exact hP⟩ hS dX2_untie_50
  · obtain ⟨j1, hoj, hjk⟩ := Option.map_eq_some_iff.mp hc1
    subst hoj
    clear hjk
    have hl : lv_has ls 5 [(4, .int (lk (Option.map p of'))), (3, .int (nI (p j1))), (0, .ref (a 0)), (1, .int (nI d)), (2, .int (nI sl))] := hl
    have hpj := hp j1 (by have := hlb j1 rfl; omega)
    refine lv_aload_n hx hb dX2_untie_24 rfl (lv_at hl 2 rfl) ?_
    refine va_get (D := G.1) (ci := 2) (v := .ref (a 4)) (C := RX2) (T := TX2) (N := 5) hx hb hts hinX2 hown hK.1 hP 0 rfl rfl 3 (by decide) (hts (.fieldLink RX2 23 "PairThreads$Threads" "after" "[[I") (by decide +kernel)) (fun _ h9 => h9) rfl dX2_untie_25 ?_
    refine lv_iload_n hx hb dX2_untie_28 rfl (lv_at hl 3 rfl) ?_
    refine z_ald hx hb hK hP 4 rfl (j := d) (by omega) (by decide) dX2_untie_29 ?_
    refine lv_iload_n hx hb dX2_untie_30 rfl (lv_at hl 1 rfl) ?_
    refine lv_iload hx hb dX2_untie_31 (lv_at hl 0 rfl) ?_
    refine z_iastO hx hb hK hP (hDD _ rfl) hS (9 + d) (cT_F hd) (j := p j1) (by omega) (by decide) dX2_untie_33 (fun H locs hP hS => ?_)
    rw [cT_sF hd] at hP
    refine lv_iload hx hb dX2_untie_34 (lv_at hl 0 rfl) ?_
    refine lv_iconst (v := (-1)) hx hb dX2_untie_36 rfl ?_
    refine z_none_eq (tgt := 50) hx hb (fun k hk => by have := mp_lt hp hn hlf hk; omega) dX2_untie_37 (by decide) (fun hc3 => ?_) (fun k hc3 => ?_)
    · have hon : of' = none := by cases of' with | none => rfl | some j => cases hc3
      subst hon
      exact z_vret hx hb hr hlocks ⟨rfl, by rw [show unt p (B d) none _ = B d from rfl, up_id]; exact hP⟩ hS dX2_untie_50
    · obtain ⟨j2, hoj, hjk⟩ := Option.map_eq_some_iff.mp hc3
      subst hoj
      clear hjk
      have hl : lv_has ls 5 [(4, .int (nI (p j2))), (3, .int (nI (p j1))), (0, .ref (a 0)), (1, .int (nI d)), (2, .int (nI sl))] := hl
      have hpj2 := hp j2 (by have := hlf j2 rfl; omega)
      have hl : lv_has ls 5 [(4, .int (nI (p j2))), (3, .int (lk (Option.map p (some j1)))), (0, .ref (a 0)), (1, .int (nI d)), (2, .int (nI sl))] := hl
      refine lv_aload_n hx hb dX2_untie_40 rfl (lv_at hl 2 rfl) ?_
      refine va_get (D := G.1) (ci := 2) (v := .ref (a 3)) (C := RX2) (T := TX2) (N := 5) hx hb hts hinX2 hown hK.1 hP 0 rfl rfl 2 (by decide) (hts (.fieldLink RX2 20 "PairThreads$Threads" "before" "[[I") (by decide +kernel)) (fun _ h9 => h9) rfl dX2_untie_41 ?_
      refine lv_iload_n hx hb dX2_untie_44 rfl (lv_at hl 3 rfl) ?_
      refine z_ald hx hb hK hP 3 rfl (j := d) (by omega) (by decide) dX2_untie_45 ?_
      refine lv_iload hx hb dX2_untie_46 (lv_at hl 0 rfl) ?_
      refine lv_iload_n hx hb dX2_untie_48 rfl (lv_at hl 1 rfl) ?_
      refine z_iastO hx hb hK hP (hDD _ rfl) hS (7 + d) (cT_B hd) (j := p j2) (by omega) (by decide) dX2_untie_49 (fun H locs hP hS => ?_)
      rw [cT_sB hd] at hP
      exact z_vret hx hb hr hlocks ⟨rfl, hP⟩ hS dX2_untie_50
