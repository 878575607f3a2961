set_option maxHeartbeats 4000000 in
set_option maxRecDepth 100000 in
/-- Matching.awaitInstead -/
theorem c_awaitInstead (l : Launch) (G : Gd) (a p : Nat → Nat) (N : Nat → Nat → Int32) (B F : Nat → Nat → Option Nat) (L : List Pr) (hTI : TI p N B F L) (Hd : Nat → Nat → Nat) (C : Nat → Nat → Option Nat) (w : Nat → Nat) (n0 : Nat) (cs : Nat → Option Nat) (sn : Nat → Nat) (g0 s0 : Nat) (w9 : Nat → Nat) (hH : ∀ d i, d < 2 → i < L.length → Hd d (p i) = p (fh (key d L) i)) (hg : g0 < L.length) (hs : s0 < L.length) (hw : ∀ i, i < n0 → w i = p (w9 i) ∧ w9 i < L.length) (hij : ∀ i j, i < n0 → j < n0 → w9 i = w9 j → i = j) (hno : ∀ i, i < n0 → ¬ (key 0 L (w9 i) = key 0 L g0 ∧ w9 i ≠ g0)) (hnd : (aTM a).Nodup) : Mt l yX0_awaitInstead wsX0_awaitInstead 1 22 [.ref (a 17), .ref (a 0), .int (nI (p g0)), .int (nI (p s0))] G (cT G a p N B F L.length ++ cM G a Hd C w n0 cs sn) (fun q => q ∈ aTM a) (fun x h => x = none ∧ ∃ (w' : Nat → Nat) (n' : Nat) (cs' : Nat → Option Nat) (w9' : Nat → Nat), n0 ≤ n' ∧ (∀ i, i < n0 → w9' i = w9 i) ∧ (∀ i, i < n' → w' i = p (w9' i) ∧ w9' i < L.length) ∧ (∀ i j, i < n' → j < n' → w9' i = w9' j → i = j) ∧ (∀ i, n0 ≤ i → i < n' → key 0 L (w9' i) = key 0 L g0 ∧ w9' i ≠ g0 ∧ cs' (p (w9' i)) = some (p s0)) ∧ (∀ x, x < L.length → key 0 L x = key 0 L g0 → x ≠ g0 → ∃ i, i < n' ∧ w9' i = x) ∧ (∀ i, i < n0 → cs' (p (w9' i)) = cs (p (w9' i))) ∧ va_P G.1 vwCl (cT G a p N B F L.length ++ cM G a Hd C w' n' cs' sn) h) := by
  refine Mt.mk cX0_awaitInstead 6 none (by decide) rfl (Nat.le_of_ble_eq_true rfl) ?_
  intro p9 e s m below meth c ls hx hb hr hml hts hown hlocks hP hK hl
  have hinX0 : ∀ w ∈ wsX00, w ∈ wsX0_awaitInstead := by decide +kernel
  have hinX2 : ∀ w ∈ wsX20, w ∈ wsX0_awaitInstead := by decide +kernel
  have hS : va_S (fun q => q ∈ aTM a) s.heap s.heap [] := va_S.rf
  have hl : lv_has ls 6 [(0, .ref (a 17)), (1, .ref (a 0)), (2, .int (nI (p g0))), (3, .int (nI (p s0)))] := hl
  have hown : s.vm.findClass RX0 = some m.cls := hown
  have hDD : ∀ ws : va_W, ws.map Prod.fst = aTM a → va_D (fun q => q ∈ aTM a) ws := D_of hnd (fun q h => h)
  obtain ⟨hp, hinj, hn, hk, hlk⟩ := id hTI
  have hpg := hp g0 (by omega)
  have hps := hp s0 (by omega)
  have hF9 := lnkF_key hTI (show 0 < 2 by omega)
  have hh0 := hH 0 g0 (by omega) hg
  obtain ⟨hfk, hff⟩ := fh_sp (key 0 L) g0
  have hfle := fh_le (key 0 L) g0
  have hst0 : stR (key 0 L) L.length (key 0 L g0) 0 (some (fh (key 0 L) g0)) := Or.inr ⟨_, rfl, by omega, hfk, (cnt_skip (Nat.zero_le _) (fun j _ hj => hff j hj)).symm⟩
  refine lv_aload_n hx hb dX0_awaitInstead_0 rfl (lv_at hl 0 rfl) ?_
  refine va_get (D := G.1) (ci := 0) (v := .ref (a 18)) (C := RX0) (T := TX0) (N := 6) hx hb hts hinX0 hown hK.1 hP 11 rfl rfl 0 (by decide) (hts (.fieldLink RX0 11 "PairThreads$Matching" "head" "[[I") (by decide +kernel)) (fun _ h9 => h9) rfl dX0_awaitInstead_1 ?_
  refine lv_iconst (v := nI 0) hx hb dX0_awaitInstead_4 rfl ?_
  refine z_ald hx hb hK hP 12 rfl (j := 0) (by omega) (by decide) dX0_awaitInstead_5 ?_
  refine lv_iload_n hx hb dX0_awaitInstead_6 rfl (lv_at hl 2 rfl) ?_
  refine z_ialdN hx hb hK hP 13 rfl (j := p g0) (by omega) (by decide) dX0_awaitInstead_7 ?_
  refine z_top (y := lk (Option.map p (some (fh (key 0 L) g0)))) (congrArg nI hh0) ?_
  refine lv_istore (lv' := [(4, .int (lk (Option.map p (some (fh (key 0 L) g0))))), (0, .ref (a 17)), (1, .ref (a 0)), (2, .int (nI (p g0))), (3, .int (nI (p s0)))]) hx hb dX0_awaitInstead_8 hl (by decide) rfl (fun ls hl => ?_)
  refine lv_iconst (v := nI 0) hx hb dX0_awaitInstead_10 rfl ?_
  refine lv_istore (lv' := [(5, .int (nI 0)), (4, .int (lk (Option.map p (some (fh (key 0 L) g0))))), (0, .ref (a 17)), (1, .ref (a 0)), (2, .int (nI (p g0))), (3, .int (nI (p s0)))]) hx hb dX0_awaitInstead_11 hl (by decide) rfl (fun ls hl => ?_)
  obtain ⟨m0, hm0⟩ : ∃ z, z = n0 := ⟨_, rfl⟩
  obtain ⟨W0, hW0⟩ : ∃ z, z = w9 := ⟨_, rfl⟩
  obtain ⟨cs0, hcs0⟩ : ∃ z, z = cs := ⟨_, rfl⟩
  have loop : ∀ (k9 : Nat) (c1 : Nat) (o : Option Nat) (w : Nat → Nat) (n0 : Nat) (cs : Nat → Option Nat) (w9 : Nat → Nat) (H : Heap) (locs : List Loc) (ls : Array Slot), (L.length < c1 + k9) → (c1 ≤ L.length) → (stR (key 0 L) L.length (key 0 L g0) c1 o) → (m0 ≤ n0) → (∀ i, i < m0 → w9 i = W0 i) → (∀ i, i < n0 → w i = p (w9 i) ∧ w9 i < L.length) → (∀ i j, i < n0 → j < n0 → w9 i = w9 j → i = j) → (∀ i, m0 ≤ i → i < n0 → key 0 L (w9 i) = key 0 L g0 ∧ w9 i ≠ g0 ∧ cs (p (w9 i)) = some (p s0)) → (∀ i, i < n0 → key 0 L (w9 i) = key 0 L g0 → w9 i ≠ g0 → ∀ j, o = some j → w9 i < j) → (∀ x, x < L.length → key 0 L x = key 0 L g0 → x ≠ g0 → (∀ j, o = some j → x < j) → ∃ i, i < n0 ∧ w9 i = x) → (∀ i, i < m0 → cs (p (w9 i)) = cs0 (p (w9 i))) → va_P G.1 vwCl (cT G a p N B F L.length ++ cM G a Hd C w n0 cs sn) H → va_S (fun q => q ∈ aTM a) s.heap H locs → lv_has ls 6 [(5, .int (nI c1)), (4, .int (lk (Option.map p o))), (0, .ref (a 17)), (1, .ref (a 0)), (2, .int (nI (p g0))), (3, .int (nI (p s0)))] → Wz p9 l e 1 22 s m [.ref (a 17), .ref (a 0), .int (nI (p g0)), .int (nI (p s0))] below meth c (fun q => q ∈ aTM a) (fun x h => x = none ∧ ∃ (w' : Nat → Nat) (n' : Nat) (cs' : Nat → Option Nat) (w9' : Nat → Nat), m0 ≤ n' ∧ (∀ i, i < m0 → w9' i = W0 i) ∧ (∀ i, i < n' → w' i = p (w9' i) ∧ w9' i < L.length) ∧ (∀ i j, i < n' → j < n' → w9' i = w9' j → i = j) ∧ (∀ i, m0 ≤ i → i < n' → key 0 L (w9' i) = key 0 L g0 ∧ w9' i ≠ g0 ∧ cs' (p (w9' i)) = some (p s0)) ∧ (∀ x, x < L.length → key 0 L x = key 0 L g0 → x ≠ g0 → ∃ i, i < n' ∧ w9' i = x) ∧ (∀ i, i < m0 → cs' (p (w9' i)) = cs0 (p (w9' i))) ∧ va_P G.1 vwCl (cT G a p N B F L.length ++ cM G a Hd C w' n' cs' sn) h) H locs (F0 m 13 ls []) := by
    intro k9
    induction k9 with
    | zero =>
      intro c1 o w n0 cs w9 H locs ls hfuel hcn hst hmn hex hw hij hnew hno2 hbf hcs9 hP hS hl
      exact absurd hfuel (by omega)
    | succ k9 ih =>
      intro c1 o w n0 cs w9 H locs ls hfuel hcn hst hmn hex hw hij hnew hno2 hbf hcs9 hP hS hl
      refine lv_iload hx hb dX0_awaitInstead_13 (lv_at hl 0 rfl) ?_
      refine lv_aload_n hx hb dX0_awaitInstead_15 rfl (lv_at hl 3 rfl) ?_
      refine va_getN (D := G.1) (host := "PairThreads") (ci := 2) (v := .int (nI L.length)) (C := RX2) (T := TX2) (N := 5) hx hb hts hinX2 hown hK.1 hP 0 rfl rfl 4 (by decide) hK.2.nlX0_size (fun _ h9 => h9) rfl dX0_awaitInstead_16 ?_
      refine z_icmp_ge (tgt := 58) hx hb (by omega) (by omega) dX0_awaitInstead_19 (by decide) (fun hc1 => ?_) (fun hc1 => ?_)
      · have hon : o = none := by rcases hst with ⟨h, -⟩ | ⟨j, -, h2, -, h⟩; exact h; have := cnt_le (key 0 L) (key 0 L g0) j; omega
        exact z_vret hx hb hr hlocks ⟨rfl, w, n0, cs, w9, hmn, hex, hw, hij, hnew, fun x hx9 h8 h9 => hbf x hx9 h8 h9 (fun j hj => by rw [hon] at hj; cases hj), hcs9, hP⟩ hS dX0_awaitInstead_58
      · refine lv_iload hx hb dX0_awaitInstead_22 (lv_at hl 1 rfl) ?_
        refine lv_iconst (v := (-1)) hx hb dX0_awaitInstead_24 rfl ?_
        refine z_none_eq (tgt := 58) hx hb (fun k hk9 => by have := mp_lt hp hn (stR_lt hst) hk9; omega) dX0_awaitInstead_25 (by decide) (fun hc2 => ?_) (fun k3 hc2 => ?_)
        · have hon : o = none := by rcases hst with ⟨h, -⟩ | ⟨j, h1, -⟩; exact h; rw [h1] at hc2; cases hc2
          exact z_vret hx hb hr hlocks ⟨rfl, w, n0, cs, w9, hmn, hex, hw, hij, hnew, fun x hx9 h8 h9 => hbf x hx9 h8 h9 (fun j hj => by rw [hon] at hj; cases hj), hcs9, hP⟩ hS dX0_awaitInstead_58
        · rcases hst with ⟨h1, -⟩ | ⟨j, h1, h2, h3, h4⟩
          · rw [h1] at hc2; cases hc2
          · subst h1
            have hl : lv_has ls 6 [(5, .int (nI c1)), (4, .int (nI (p j))), (0, .ref (a 17)), (1, .ref (a 0)), (2, .int (nI (p g0))), (3, .int (nI (p s0)))] := hl
            have hpj := hp j (by omega)
            obtain ⟨o2, ho2, hnx⟩ := hF9 j h2
            have hcase : ∀ x, x < L.length → key 0 L x = key 0 L g0 → (∀ j9, o2 = some j9 → x < j9) → x < j ∨ x = j := (fun x hx8 hx7 hbx => by rcases Nat.lt_trichotomy x j with z | z | z; exact Or.inl z; exact Or.inr z; rcases hnx with ⟨-, e3⟩ | ⟨j2, e4, e5, e6, e7, e8⟩; exact absurd (hx7.trans h3.symm) (e3 x z hx8); exact absurd (hx7.trans h3.symm) (e8 x z (hbx j2 e4)))
            have hj2 : ∀ x, x ≤ j → ∀ j9, o2 = some j9 → x < j9 := fun x hx8 j9 hj9 => by rcases hnx with ⟨e3, -⟩ | ⟨j2, e4, e5, -⟩; rw [e3] at hj9; cases hj9; rw [e4] at hj9; cases hj9; omega
            refine lv_iload hx hb dX0_awaitInstead_28 (lv_at hl 1 rfl) ?_
            refine lv_iload_n hx hb dX0_awaitInstead_30 rfl (lv_at hl 4 rfl) ?_
            refine z_icmp_eq (tgt := 41) hx hb (by omega) (by omega) dX0_awaitInstead_31 (by decide) (fun hc3 => ?_) (fun hc3 => ?_)
            · have hjg := hinj j g0 (by omega) (by omega) hc3
              refine lv_aload_n hx hb dX0_awaitInstead_41 rfl (lv_at hl 3 rfl) ?_
              refine va_getN (D := G.1) (host := "PairThreads") (ci := 2) (v := .ref (a 4)) (C := RX2) (T := TX2) (N := 5) hx hb hts hinX2 hown hK.1 hP 0 rfl rfl 3 (by decide) hK.2.nlX0_after (fun _ h9 => h9) rfl dX0_awaitInstead_42 ?_
              refine lv_iconst (v := nI 0) hx hb dX0_awaitInstead_45 rfl ?_
              refine z_ald hx hb hK hP 4 rfl (j := 0) (by omega) (by decide) dX0_awaitInstead_46 ?_
              refine lv_iload hx hb dX0_awaitInstead_47 (lv_at hl 1 rfl) ?_
              refine z_ialdO hx hb hK hP 9 rfl (j := p j) (by omega) (by decide) dX0_awaitInstead_49 ?_
              refine z_top (y := lk (Option.map p o2)) (congrArg lk ho2) ?_
              refine lv_istore (lv' := [(4, .int (lk (Option.map p o2))), (5, .int (nI c1)), (0, .ref (a 17)), (1, .ref (a 0)), (2, .int (nI (p g0))), (3, .int (nI (p s0)))]) hx hb dX0_awaitInstead_50 hl (by decide) rfl (fun ls hl => ?_)
              refine z_iinc (lv' := [(5, .int (nI (c1 + 1))), (4, .int (lk (Option.map p o2))), (0, .ref (a 17)), (1, .ref (a 0)), (2, .int (nI (p g0))), (3, .int (nI (p s0)))]) hx hb dX0_awaitInstead_52 hl (k := 1) rfl (by decide) rfl (fun ls hl => ?_)
              refine lv_goto (tgt := 13) hx hb dX0_awaitInstead_55 (by decide) ?_
              exact ih (c1 + 1) o2 w n0 cs w9 H locs ls (by omega) (by have := cnt_le (key 0 L) (key 0 L g0) j; omega) (by rw [h4]; exact stR_next h2 h3 hnx) hmn hex hw hij hnew (fun i hi h8 h9 j9 hj9 => hj2 _ (by have := hno2 i hi h8 h9 j rfl; omega) j9 hj9) (fun x hx9 h8 h9 hbx => by rcases hcase x hx9 h8 hbx with z | z; exact hbf x hx9 h8 h9 (fun j9 hj9 => by cases hj9; exact z); exact absurd (z.trans hjg) h9) hcs9 hP hS (lv_sub hl [0, 1, 2, 3, 4, 5] rfl)
            · have hjg : j ≠ g0 := fun z => hc3 (by rw [z])
              have hjn : ∀ i, i < n0 → ¬ w9 i = j := fun i hi z => by have := hno2 i hi (by rw [z]; exact h3) (by rw [z]; exact hjg) j rfl; omega
              have hij2 : ∀ i i2, i < n0 + 1 → i2 < n0 + 1 → va_up w9 n0 j i = va_up w9 n0 j i2 → i = i2 := fun i i2 hi hi2 he => by
                rcases Nat.lt_succ_iff_lt_or_eq.mp hi with z | z <;> rcases Nat.lt_succ_iff_lt_or_eq.mp hi2 with y | y
                · rw [up_n (by omega), up_n (by omega)] at he; exact hij i i2 z y he
                · rw [up_n (by omega), y, up_s] at he; exact absurd he (hjn i z)
                · rw [up_n (show i2 ≠ n0 by omega), z, up_s] at he; exact absurd he.symm (hjn i2 y)
                · omega
              have hw2 : ∀ i, i < n0 + 1 → va_up w n0 (p j) i = p (va_up w9 n0 j i) ∧ va_up w9 n0 j i < L.length := fun i hi => by
                rcases Nat.lt_succ_iff_lt_or_eq.mp hi with z | z
                · rw [up_n (by omega), up_n (by omega)]; exact hw i z
                · rw [z, up_s, up_s]; exact ⟨rfl, h2⟩
              have hn1 := pig L.length (n0 + 1) (va_up w9 n0 j) (fun i hi => (hw2 i hi).2) hij2
              have hcsn : ∀ i, i < n0 → va_up cs (p j) (some (p s0)) (p (w9 i)) = cs (p (w9 i)) := fun i hi => up_n (fun z => hjn i hi (hinj _ _ (by have := (hw i hi).2; omega) (by omega) z))
              refine lv_aload_n hx hb dX0_awaitInstead_34 rfl (lv_at hl 2 rfl) ?_
              refine lv_iload hx hb dX0_awaitInstead_35 (lv_at hl 1 rfl) ?_
              refine lv_iload_n hx hb dX0_awaitInstead_37 rfl (lv_at hl 5 rfl) ?_
              refine z_top (y := lk (some (p s0))) (rfl) ?_
              refine z_callV (rest := []) 2 ⟨hx, hb, hml, hown, hts⟩ hK (c_await l G a p N B F L hTI Hd C w n0 cs sn (p j) (some (p s0)) hpj (by omega) hnd) gX0_awaitInstead_X0_await rfl (by decide +kernel) ⟨Nat.le_of_ble_eq_true rfl, Nat.le_of_ble_eq_true rfl⟩ hP 11 rfl rfl rfl rfl hl.1 rfl (Nat.le_of_ble_eq_true rfl) dX0_awaitInstead_38 ⟨Nat.le_refl _, Nat.le_refl _⟩ hS (fun _ h => h) (fun v9 H9 locs hR9 hk9 hS => ?_)
              obtain ⟨rfl, hP⟩ := hR9
              clear hk9
              generalize H9 = H at hP hS ⊢
              refine W.eq (g2 := F0 m 41 ls []) rfl ?_
              refine lv_aload_n hx hb dX0_awaitInstead_41 rfl (lv_at hl 3 rfl) ?_
              refine va_getN (D := G.1) (host := "PairThreads") (ci := 2) (v := .ref (a 4)) (C := RX2) (T := TX2) (N := 5) hx hb hts hinX2 hown hK.1 hP 0 rfl rfl 3 (by decide) hK.2.nlX0_after (fun _ h9 => h9) rfl dX0_awaitInstead_42 ?_
              refine lv_iconst (v := nI 0) hx hb dX0_awaitInstead_45 rfl ?_
              refine z_ald hx hb hK hP 4 rfl (j := 0) (by omega) (by decide) dX0_awaitInstead_46 ?_
              refine lv_iload hx hb dX0_awaitInstead_47 (lv_at hl 1 rfl) ?_
              refine z_ialdO hx hb hK hP 9 rfl (j := p j) (by omega) (by decide) dX0_awaitInstead_49 ?_
              refine z_top (y := lk (Option.map p o2)) (congrArg lk ho2) ?_
              refine lv_istore (lv' := [(4, .int (lk (Option.map p o2))), (5, .int (nI c1)), (0, .ref (a 17)), (1, .ref (a 0)), (2, .int (nI (p g0))), (3, .int (nI (p s0)))]) hx hb dX0_awaitInstead_50 hl (by decide) rfl (fun ls hl => ?_)
              refine z_iinc (lv' := [(5, .int (nI (c1 + 1))), (4, .int (lk (Option.map p o2))), (0, .ref (a 17)), (1, .ref (a 0)), (2, .int (nI (p g0))), (3, .int (nI (p s0)))]) hx hb dX0_awaitInstead_52 hl (k := 1) rfl (by decide) rfl (fun ls hl => ?_)
              refine lv_goto (tgt := 13) hx hb dX0_awaitInstead_55 (by decide) ?_
              exact ih (c1 + 1) o2 (va_up w n0 (p j)) (n0 + 1) (va_up cs (p j) (some (p s0))) (va_up w9 n0 j) H locs ls (by omega) (by have := cnt_le (key 0 L) (key 0 L g0) j; omega) (by rw [h4]; exact stR_next h2 h3 hnx) (by omega) (fun i hi => by rw [up_n (by omega)]; exact hex i hi) hw2 hij2 (fun i h5 hi => by rcases Nat.lt_succ_iff_lt_or_eq.mp hi with z | z; rw [up_n (show i ≠ n0 by omega), hcsn i z]; exact hnew i h5 z; rw [z, up_s, up_s]; exact ⟨h3, hjg, rfl⟩) (fun i hi h8 h9 j9 hj9 => hj2 _ (by rcases Nat.lt_succ_iff_lt_or_eq.mp hi with z | z; rw [up_n (show i ≠ n0 by omega)] at h8 h9 ⊢; have := hno2 i z h8 h9 j rfl; omega; rw [z, up_s]; exact Nat.le_refl _) j9 hj9) (fun x hx9 h8 h9 hbx => by rcases hcase x hx9 h8 hbx with z | z; obtain ⟨i, a1, a2⟩ := hbf x hx9 h8 h9 (fun j9 hj9 => by cases hj9; exact z); exact ⟨i, by omega, by rw [up_n (by omega)]; exact a2⟩; exact ⟨n0, by omega, by rw [up_s, z]⟩) (fun i hi => by rw [up_n (show i ≠ n0 by omega), hcsn i (by omega)]; exact hcs9 i hi) hP hS (lv_sub hl [0, 1, 2, 3, 4, 5] rfl)
  rw [hm0, hW0, hcs0] at loop
  exact loop (L.length + 1) 0 (some (fh (key 0 L) g0)) w n0 cs w9 _ _ ls (by omega) (by omega) hst0 (Nat.le_refl _) (fun _ _ => rfl) hw hij (fun i h5 h6 => absurd h6 (by omega)) (fun i hi h8 h9 => absurd ⟨h8, h9⟩ (hno i hi)) (fun x hx9 h8 h9 hbx => absurd h8 (hff x (hbx _ rfl))) (fun _ _ => rfl) hP hS (lv_sub hl [0, 1, 2, 3, 4, 5] rfl)

set_option maxHeartbeats 4000000 in
set_option maxRecDepth 100000 in
/-- Matching.turn -/
theorem c_turn (l : Launch) (G : Gd) (a p : Nat → Nat) (N : Nat → Nat → Int32) (B F : Nat → Nat → Option Nat) (L : List Pr) (hTI : TI p N B F L) (Hd : Nat → Nat → Nat) (C : Nat → Nat → Option Nat) (w : Nat → Nat) (n0 : Nat) (cs : Nat → Option Nat) (sn : Nat → Nat) (k0 k1 : Nat → Option Nat) (w9 : Nat → Nat) (cs9 : Nat → Option Nat) (sg9 : Nat → Nat) (t : Nat) (hH : ∀ d i, d < 2 → i < L.length → Hd d (p i) = p (fh (key d L) i)) (hCO : CO p L.length C k0 k1) (hMJ : MJ L k0 k1) (hWI : WI L k0 n0 w9 cs9 sg9) (hcs : ∀ i, i < n0 → cs (p (w9 i)) = Option.map p (cs9 (w9 i))) (ht : t < n0) (hfree : k1 (fh (key 1 L) (w9 t)) = none) (hnd : (aTM a).Nodup) : Mt l yX0_turn wsX0_turn 1 21 [.ref (a 17), .int (nI (p (w9 t))), .int (nI L.length)] G (cT G a p N B F L.length ++ cM G a Hd C w n0 cs sn) (fun q => q ∈ aTM a) (fun x h => x = none ∧ ∃ (C' : Nat → Nat → Option Nat) (c0' c1' : Nat → Option Nat), CO p L.length C' c0' c1' ∧ MJ L c0' c1' ∧ cz (fun r => om (c1' r)) L.length = cz (fun r => om (k1 r)) L.length + 1 ∧ va_P G.1 vwCl (cT G a p N B F L.length ++ cM G a Hd C' w n0 cs sn) h) := by
  refine Mt.mk cX0_turn 5 none (by decide) rfl (Nat.le_of_ble_eq_true rfl) ?_
  intro p9 e s m below meth c ls hx hb hr hml hts hown hlocks hP hK hl
  have hinX0 : ∀ w ∈ wsX00, w ∈ wsX0_turn := by decide +kernel
  have hS : va_S (fun q => q ∈ aTM a) s.heap s.heap [] := va_S.rf
  have hl : lv_has ls 5 [(0, .ref (a 17)), (1, .int (nI (p (w9 t)))), (2, .int (nI L.length))] := hl
  have hown : s.vm.findClass RX0 = some m.cls := hown
  have hDD : ∀ ws : va_W, ws.map Prod.fst = aTM a → va_D (fun q => q ∈ aTM a) ws := D_of hnd (fun q h => h)
  obtain ⟨hp, hinj, hn, hk, hlk⟩ := id hTI
  have hle := pig L.length n0 w9 hWI.1 hWI.2.1
  have hJV0 := JV_0 (cs := cs9) hMJ ht hfree
  refine lv_iload_n hx hb dX0_turn_0 rfl (lv_at hl 1 rfl) ?_
  refine lv_istore_n (lv' := [(3, .int (nI (p (w9 t)))), (0, .ref (a 17)), (1, .int (nI (p (w9 t)))), (2, .int (nI L.length))]) hx hb dX0_turn_1 rfl hl (by decide) rfl (fun ls hl => ?_)
  refine lv_iconst (v := nI 0) hx hb dX0_turn_2 rfl ?_
  refine lv_istore (lv' := [(4, .int (nI 0)), (3, .int (nI (p (w9 t)))), (0, .ref (a 17)), (1, .int (nI (p (w9 t)))), (2, .int (nI L.length))]) hx hb dX0_turn_3 hl (by decide) rfl (fun ls hl => ?_)
  have hl : lv_has ls 5 [(4, .int (nI 0)), (3, .int (lk (some (p (w9 t))))), (0, .ref (a 17)), (1, .int (nI (p (w9 t)))), (2, .int (nI L.length))] := hl
  have loop : ∀ (k9 : Nat) (u : Nat) (o3 : Option Nat) (C : Nat → Nat → Option Nat) (c0 : Nat → Option Nat) (c1 : Nat → Option Nat) (H : Heap) (locs : List Loc) (ls : Array Slot), (L.length < u + k9) → (u ≤ L.length) → (CO p L.length C c0 c1) → ((∃ ix, o3 = some (p (w9 ix)) ∧ u + ix < L.length ∧ JV L k0 k1 (w9 t) n0 w9 cs9 c0 c1 ix) ∨ (o3 = none ∧ MJ L c0 c1 ∧ cz (fun r => om (c1 r)) L.length = cz (fun r => om (k1 r)) L.length + 1)) → va_P G.1 vwCl (cT G a p N B F L.length ++ cM G a Hd C w n0 cs sn) H → va_S (fun q => q ∈ aTM a) s.heap H locs → lv_has ls 5 [(4, .int (nI u)), (3, .int (lk o3)), (0, .ref (a 17)), (1, .int (nI (p (w9 t)))), (2, .int (nI L.length))] → Wz p9 l e 1 21 s m [.ref (a 17), .int (nI (p (w9 t))), .int (nI L.length)] below meth c (fun q => q ∈ aTM a) (fun x h => x = none ∧ ∃ (C' : Nat → Nat → Option Nat) (c0' c1' : Nat → Option Nat), CO p L.length C' c0' c1' ∧ MJ L c0' c1' ∧ cz (fun r => om (c1' r)) L.length = cz (fun r => om (k1 r)) L.length + 1 ∧ va_P G.1 vwCl (cT G a p N B F L.length ++ cM G a Hd C' w n0 cs sn) h) H locs (F0 m 5 ls []) := by
    intro k9
    induction k9 with
    | zero =>
      intro u o3 C c0 c1 H locs ls hfuel hu hCO hst hP hS hl
      exact absurd hfuel (by omega)
    | succ k9 ih =>
      intro u o3 C c0 c1 H locs ls hfuel hu hCO hst hP hS hl
      refine lv_iload hx hb dX0_turn_5 (lv_at hl 0 rfl) ?_
      refine lv_iload_n hx hb dX0_turn_7 rfl (lv_at hl 4 rfl) ?_
      refine z_icmp_ge (tgt := 34) hx hb (by omega) (by omega) dX0_turn_8 (by decide) (fun hc1 => ?_) (fun hc1 => ?_)
      · rcases hst with ⟨ix, -, h9, -⟩ | ⟨-, h8, h9⟩
        · omega
        · exact z_vret hx hb hr hlocks ⟨rfl, C, c0, c1, hCO, h8, h9, hP⟩ hS dX0_turn_34
      · refine lv_iload_n hx hb dX0_turn_11 rfl (lv_at hl 1 rfl) ?_
        refine lv_iconst (v := (-1)) hx hb dX0_turn_12 rfl ?_
        refine z_none_eq (tgt := 34) hx hb (fun k9 hk9 => by rcases hst with ⟨ix, e1, -, e2⟩ | ⟨e1, -⟩; rw [e1] at hk9; cases hk9; have := hp (w9 ix) (by have := hWI.1 ix e2.1; omega); omega; rw [e1] at hk9; cases hk9) dX0_turn_13 (by decide) (fun hc2 => ?_) (fun k3 hc2 => ?_)
        · rcases hst with ⟨ix, e1, -⟩ | ⟨-, h8, h9⟩
          · rw [e1] at hc2; cases hc2
          · exact z_vret hx hb hr hlocks ⟨rfl, C, c0, c1, hCO, h8, h9, hP⟩ hS dX0_turn_34
        · rcases hst with ⟨ix, e1, hui, hJV⟩ | ⟨e1, -⟩
          · subst e1
            have hl : lv_has ls 5 [(4, .int (nI u)), (3, .int (nI (p (w9 ix)))), (0, .ref (a 17)), (1, .int (nI (p (w9 t)))), (2, .int (nI L.length))] := hl
            have hix := hJV.1
            have hwn := hWI.1 ix hix
            have hpi := hp (w9 ix) (by omega)
            have hf0 : fh (key 0 L) (w9 ix) < L.length := (Nat.lt_of_le_of_lt (fh_le (key 0 L) (w9 ix)) (by omega))
            have hf1 : fh (key 1 L) (w9 ix) < L.length := (Nat.lt_of_le_of_lt (fh_le (key 1 L) (w9 ix)) (by omega))
            have hpf0 := hp (fh (key 0 L) (w9 ix)) (by omega)
            have hpf1 := hp (fh (key 1 L) (w9 ix)) (by omega)
            have hh0 := hH 0 (w9 ix) (by omega) (by omega)
            have hh1 := hH 1 (w9 ix) (by omega) (by omega)
            refine lv_aload_n hx hb dX0_turn_16 rfl (lv_at hl 2 rfl) ?_
            refine lv_iload_n hx hb dX0_turn_17 rfl (lv_at hl 1 rfl) ?_
            refine z_callV (rest := []) 1 ⟨hx, hb, hml, hown, hts⟩ hK (c_choose l G a p N B F L hTI Hd C w n0 cs sn (p (w9 ix)) hpi (by rw [hh0]; exact hpf0) (by rw [hh1]; exact hpf1) hnd) gX0_turn_X0_choose rfl (by decide +kernel) ⟨Nat.le_of_ble_eq_true rfl, Nat.le_of_ble_eq_true rfl⟩ hP 11 rfl rfl rfl rfl hl.1 rfl (Nat.le_of_ble_eq_true rfl) dX0_turn_18 ⟨Nat.le_refl _, Nat.le_refl _⟩ hS (fun _ h => h) (fun v9 H9 locs hR9 hk9 hS => ?_)
            obtain ⟨rfl, hP⟩ := hR9
            clear hk9
            generalize H9 = H at hP hS ⊢
            refine W.eq (g2 := F0 m 21 ls []) rfl ?_
            have hCO2 := CO_ch hinj hn hH hwn hCO
            have hcx := hcs ix hix
            rcases hWI.2.2.1 ix hix with ⟨e9, -⟩ | ⟨i2, g9, e8, e9, -⟩
            · rw [e9] at hcx
              refine lv_aload_n hx hb dX0_turn_21 rfl (lv_at hl 2 rfl) ?_
              refine va_get (D := G.1) (ci := 0) (v := .ref (a 25)) (C := RX0) (T := TX0) (N := 6) hx hb hts hinX0 hown hK.1 hP 11 rfl rfl 4 (by decide) (hts (.fieldLink RX0 23 "PairThreads$Matching" "cause" "[I") (by decide +kernel)) (fun _ h9 => h9) rfl dX0_turn_22 ?_
              refine lv_iload_n hx hb dX0_turn_25 rfl (lv_at hl 1 rfl) ?_
              refine z_ialdO hx hb hK hP 19 rfl (j := p (w9 ix)) (by omega) (by decide) dX0_turn_26 ?_
              refine z_top (y := lk none) (congrArg lk hcx) ?_
              refine lv_istore_n (lv' := [(3, .int (lk none)), (4, .int (nI u)), (0, .ref (a 17)), (1, .int (nI (p (w9 t)))), (2, .int (nI L.length))]) hx hb dX0_turn_27 rfl hl (by decide) rfl (fun ls hl => ?_)
              refine z_iinc (lv' := [(4, .int (nI (u + 1))), (3, .int (lk none)), (0, .ref (a 17)), (1, .int (nI (p (w9 t)))), (2, .int (nI L.length))]) hx hb dX0_turn_28 hl (k := 1) rfl (by decide) rfl (fun ls hl => ?_)
              refine lv_goto (tgt := 5) hx hb dX0_turn_31 (by decide) ?_
              obtain ⟨m1, m2⟩ := JV_f hWI hJV e9 (hWI.1 t ht) hfree
              exact ih (u + 1) none (chC Hd C (p (w9 ix))) (va_up c0 (fh (key 0 L) (w9 ix)) (some (w9 ix))) (va_up c1 (fh (key 1 L) (w9 ix)) (some (w9 ix))) H locs ls (by omega) (by omega) hCO2 (Or.inr ⟨rfl, m1, m2⟩) hP hS (lv_sub hl [0, 1, 2, 3, 4] rfl)
            · rw [e9] at hcx
              refine lv_aload_n hx hb dX0_turn_21 rfl (lv_at hl 2 rfl) ?_
              refine va_get (D := G.1) (ci := 0) (v := .ref (a 25)) (C := RX0) (T := TX0) (N := 6) hx hb hts hinX0 hown hK.1 hP 11 rfl rfl 4 (by decide) (hts (.fieldLink RX0 23 "PairThreads$Matching" "cause" "[I") (by decide +kernel)) (fun _ h9 => h9) rfl dX0_turn_22 ?_
              refine lv_iload_n hx hb dX0_turn_25 rfl (lv_at hl 1 rfl) ?_
              refine z_ialdO hx hb hK hP 19 rfl (j := p (w9 ix)) (by omega) (by decide) dX0_turn_26 ?_
              refine z_top (y := lk (some (p (w9 i2)))) (congrArg lk hcx) ?_
              refine lv_istore_n (lv' := [(3, .int (lk (some (p (w9 i2))))), (4, .int (nI u)), (0, .ref (a 17)), (1, .int (nI (p (w9 t)))), (2, .int (nI L.length))]) hx hb dX0_turn_27 rfl hl (by decide) rfl (fun ls hl => ?_)
              refine z_iinc (lv' := [(4, .int (nI (u + 1))), (3, .int (lk (some (p (w9 i2))))), (0, .ref (a 17)), (1, .int (nI (p (w9 t)))), (2, .int (nI L.length))]) hx hb dX0_turn_28 hl (k := 1) rfl (by decide) rfl (fun ls hl => ?_)
              refine lv_goto (tgt := 5) hx hb dX0_turn_31 (by decide) ?_
              exact ih (u + 1) (some (p (w9 i2))) (chC Hd C (p (w9 ix))) (va_up c0 (fh (key 0 L) (w9 ix)) (some (w9 ix))) (va_up c1 (fh (key 1 L) (w9 ix)) (some (w9 ix))) H locs ls (by omega) (by omega) hCO2 (Or.inl ⟨i2, rfl, by omega, JV_s hMJ hWI hJV e8 e9⟩) hP hS (lv_sub hl [0, 1, 2, 3, 4] rfl)
          · rw [e1] at hc2; cases hc2
  exact loop (L.length + 1) 0 (some (p (w9 t))) C k0 k1 _ _ ls (by omega) (by omega) hCO (Or.inl ⟨t, rfl, by omega, hJV0⟩) hP hS (lv_sub hl [0, 1, 2, 3, 4] rfl)
