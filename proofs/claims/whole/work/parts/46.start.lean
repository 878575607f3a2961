set_option maxHeartbeats 8000000 in
set_option maxRecDepth 100000 in
/-- from the entry, for every script of at most 2560 ints, the law comes to its end with true -/
theorem whole_start {p : Program} {e : Env} {s : State} {m : MethodId} {below : List Frame} {meth : Method} {c : Code} (l : Launch) {b L : Nat} {xs : Nat → Int32} (hL : L ≤ 2560) (C0 : lw_At p s m meth c b L xs) : W p l e room_1 s m #[Value.ref b] below meth c s.heap [] 0 0 (lw_Z below #[Value.ref b] s) (entryFrame m ([Value.ref b] : List Value).toArray 4) := by
  obtain ⟨hx, hb, hr, hml, hown, hts0, hX, hbl, hlocks, hgv⟩ := id C0
  have hts := fun w h => hts0 w (wsL_law_in w h)
  have hown : s.vm.findClass RL = some m.cls := hown
  obtain ⟨c0, iS0, hKn0⟩ := u_known (C := RX0) (T := TX0) (N := 6) (n := 6) hts0 inX0 (hts0 (.instantiable RX0 6) (by decide +kernel))
  obtain ⟨c1, iS1, hKn1⟩ := u_known (C := RX1) (T := TX1) (N := 4) (n := 4) hts0 inX1 (hts0 (.instantiable RX1 4) (by decide +kernel))
  obtain ⟨c2, iS2, hKn2⟩ := u_known (C := RX2) (T := TX2) (N := 5) (n := 5) hts0 inX2 (hts0 (.instantiable RX2 5) (by decide +kernel))
  obtain ⟨c3, iS3, hKn3⟩ := u_known (C := RX3) (T := TX3) (N := 3) (n := 3) hts0 inX3 (hts0 (.instantiable RX3 3) (by decide +kernel))
  obtain ⟨c4, iS4, hKn4⟩ := u_known (C := RX4) (T := TX4) (N := 15) (n := 15) hts0 inX4 (hts0 (.instantiable RX4 15) (by decide +kernel))
  obtain ⟨dC, dI, hKc⟩ : ∃ (dC : Nat → ClassId) (dI : Nat → Nat → Nat), ∀ (k : Nat) (q : vw_C), vwCl[k]? = some q → u_Kn s q.1 q.2.1 q.2.2 (dC k) (dI k) := by
    refine ⟨fun k => [c0, c1, c2, c3, c4].getD k 0, fun k => [iS0, iS1, iS2, iS3, iS4].getD k iS0, ?_⟩
    intro k q hq
    match k, hq with
    | 0, hq => cases hq; exact hKn0
    | 1, hq => cases hq; exact hKn1
    | 2, hq => cases hq; exact hKn2
    | 3, hq => cases hq; exact hKn3
    | 4, hq => cases hq; exact hKn4
    | k + 5, hq => simp [vwCl] at hq
  obtain ⟨cI, kI, ccI, hI1, hI2, hI3⟩ := Cond.arrayClass_spec (hts0 (.arrayClass .int) (by decide +kernel))
  obtain ⟨cZ, kZ, ccZ, hZ1, hZ2, hZ3⟩ := Cond.arrayClass_spec (hts0 (.arrayClass .boolean) (by decide +kernel))
  obtain ⟨cJ, cII, kII, hJ1, -, hJ2, hJ3, hJ4⟩ := arrayOverA_spec (hts0 (.arrayOver (.array .int)) (by decide +kernel))
  have hJI : cJ = cI := Option.some.inj (hJ1.symm.trans hI1)
  subst hJI
  obtain ⟨G, hG⟩ : ∃ G : Gd, G = ((dC, dI), cJ, cII, cZ) := ⟨_, rfl⟩
  have hK : KK G s := by
    rw [hG]
    refine ⟨⟨hKc, fun k q hq => ?_⟩, nst.of hts0⟩
    match k, hq with
    | 0, hq => cases hq; exact ⟨fun n z => ⟨fun k h => (by cases h), kI, hI2, ccI, hI3⟩, hI1⟩
    | 1, hq => cases hq; exact ⟨fun n z => ⟨fun k h => (by cases h), kII, hJ2, cJ, hJ3⟩, hJ4⟩
    | 2, hq => cases hq; exact ⟨fun n z => ⟨fun k h => (by cases h), kZ, hZ2, ccZ, hZ3⟩, hZ1⟩
    | k + 3, hq => simp [tys] at hq
  have hAO : AO G s := by rw [hG]; exact ⟨kII, kI, ccI, hJ2, hJ3, hI2, hI3, hJ4⟩
  obtain ⟨A, hAe⟩ : ∃ A : Nat → Prop, A = fun q : Nat => s.heap.size ≤ q := ⟨_, rfl⟩
  have hA : ∀ q : Nat, s.heap.size ≤ q → A q := fun q h => by rw [hAe]; exact h
  have hS : va_S A s.heap s.heap [] := va_S.rf
  have hP : va_P G.1 vwCl [] s.heap := P_nil
  have hD : va_D A [] := D_of (AL := []) (by simp) (fun _ h => absurd h List.not_mem_nil) _ rfl
  have hl := lv_entry ([.ref b]) (n := 4) (Nat.le_of_ble_eq_true rfl)
  rw [lg_entry_eq]
  generalize (lg_sl ([.ref b]) ++ List.replicate (4 - (lg_sl ([.ref b])).length) Slot.unset).toArray = ls at hl ⊢
  have hl : lv_has ls 4 [(0, .ref b)] := hl
  refine va_new (ci := 3) (fs := [.null, .null, .null]) (C := RX3) (T := TX3) (N := 3) hx hb hts0 inX3 tyX3 tyX3_ok hown (hts0 (.classLink RL 7 RX3) (by decide +kernel)) (hts0 (.instantiable RX3 3) (by decide +kernel)) (hts0 (.initialized RX3) (by decide +kernel)) hK.1 hP hD hS hA rfl (fun j hj => by rcases (show j = 0 ∨ j = 1 ∨ j = 2 by omega) with rfl | rfl | rfl <;> rfl) (Nat.le_of_ble_eq_true rfl) (Nat.le_of_ble_eq_true rfl) dL_law_0 (fun q27 H hP hD hS => ?_)
  refine lv_dup hx hb dL_law_3 rfl ?_
  have hPq : va_P G.1 vwCl [(q27, .inr (3, [.null, .null, .null]))] H := hP
  have hAq : A q27 := hD.2 0 _ rfl
  have hsH : s.heap.size ≤ H.size := hS.1
  refine z_callI (As := []) (rest := [.ref q27]) 0 ⟨hx, hb, hml, hown, hts⟩ hK hAO (c_X3_init l G q27 H.size) gL_law_X3_init rfl (hts0 (.initialized RX3) (by decide +kernel)) (hts0 (.methodLink RL 9 yX3_init) (by decide +kernel)) (hts0 (.instanceMethod yX3_init) (by decide +kernel)) rfl (by decide +kernel) ⟨Nat.le_of_ble_eq_true rfl, Nat.le_of_ble_eq_true rfl⟩ hPq rfl hl.1 (Nat.le_of_ble_eq_true rfl) dL_law_4 ⟨Nat.le_of_ble_eq_true rfl, Nat.le_of_ble_eq_true rfl⟩ hS (fun x hx9 => by rcases A_one hx9 with z | z; rw [z]; exact hAq; exact hA x (Nat.le_trans hsH z)) (fun H1 locs hR9 hz9 hk9 hS => ?_)
  obtain ⟨a, ha27, hndA, hmA, hAL⟩ := hR9
  have hgeA : ∀ x ∈ aA a, s.heap.size ≤ x := fun x hx9 => by rcases hmA x hx9 with z | z; rw [z]; rw [hAe] at hAq; exact hAq; exact Nat.le_trans hsH z
  refine lv_astore_n (lv' := [(1, .ref q27), (0, .ref b)]) hx hb dL_law_7 rfl hl (by decide) rfl (fun ls hl => ?_)
  obtain ⟨p9, N, B, F, q, r, V, n0, Hd, C, w, k0, cs, sn, hTI, hPA⟩ := hAL
  generalize H1 = H at hPA hS ⊢
  clear hP hD hPq
  have hP := hPA
  have hD : va_D A (cT G a p9 N B F ([] : List Pr).length ++ (cS G a q r V n0 ++ (cM G a Hd C w k0 cs sn ++ cP a))) := D_of hndA (fun x hx9 => hA x (hgeA x hx9)) _ rfl
  refine va_new (ci := 4) (fs := [.int 0, .null, .null, .null, .null, .null, .null, .int 0, .int 0, .null, .null, .null, .null, .null, .null]) (C := RX4) (T := TX4) (N := 15) hx hb hts0 inX4 tyX4 tyX4_ok hown (hts0 (.classLink RL 10 RX4) (by decide +kernel)) (hts0 (.instantiable RX4 15) (by decide +kernel)) (hts0 (.initialized RX4) (by decide +kernel)) hK.1 hP hD hS hA rfl (fun j hj => by rcases (show j = 0 ∨ j = 1 ∨ j = 2 ∨ j = 3 ∨ j = 4 ∨ j = 5 ∨ j = 6 ∨ j = 7 ∨ j = 8 ∨ j = 9 ∨ j = 10 ∨ j = 11 ∨ j = 12 ∨ j = 13 ∨ j = 14 by omega) with rfl | rfl | rfl | rfl | rfl | rfl | rfl | rfl | rfl | rfl | rfl | rfl | rfl | rfl | rfl <;> rfl) (Nat.le_of_ble_eq_true rfl) (Nat.le_of_ble_eq_true rfl) dL_law_8 (fun qm H hP hD hS => ?_)
  refine lv_dup hx hb dL_law_11 rfl ?_
  have hPo := va_P_left hP
  have hPq : va_P G.1 vwCl [(qm, .inr (4, [.int 0, .null, .null, .null, .null, .null, .null, .int 0, .int 0, .null, .null, .null, .null, .null, .null]))] H := va_P_right hP
  have hnq : (aA a ++ [qm]).Nodup := by have h9 := D_nodup hD; rw [List.map_append] at h9; exact h9
  have hAq : A qm := D_mem hD qm (by rw [List.map_append]; exact List.mem_append_right _ (List.mem_singleton.mpr rfl))
  have hlt9 : ∀ x ∈ aA a, x < H.size := fun x hx9 => lt_all hPo x hx9
  have hsH : s.heap.size ≤ H.size := hS.1
  refine z_callI (As := []) (rest := [.ref qm]) 0 ⟨hx, hb, hml, hown, hts⟩ hK hAO (c_X4_init l G qm H.size) gL_law_X4_init rfl (hts0 (.initialized RX4) (by decide +kernel)) (hts0 (.methodLink RL 12 yX4_init) (by decide +kernel)) (hts0 (.instanceMethod yX4_init) (by decide +kernel)) rfl (by decide +kernel) ⟨Nat.le_of_ble_eq_true rfl, Nat.le_of_ble_eq_true rfl⟩ hPq rfl hl.1 (Nat.le_of_ble_eq_true rfl) dL_law_12 ⟨Nat.le_of_ble_eq_true rfl, Nat.le_of_ble_eq_true rfl⟩ hS (fun x hx9 => by rcases A_one hx9 with z | z; rw [z]; exact hAq; exact hA x (Nat.le_trans hsH z)) (fun H1 locs hR9 hz9 hk9 hS => ?_)
  obtain ⟨b9, ⟨hb0, hndR, hmR⟩, hPR⟩ := hR9
  have hPA := P_keep hPo hk9 (A_not hnq hlt9)
  have hgeR : ∀ x ∈ aR b9, s.heap.size ≤ x := fun x hx9 => by rcases hmR x hx9 with z | z; rw [z]; rw [hAe] at hAq; exact hAq; exact Nat.le_trans hsH z
  have hdis : ∀ x ∈ aA a, ¬ x ∈ aR b9 := fun x h1 h2 => by rcases hmR x h2 with z | z; exact (List.nodup_append.mp hnq).2.2 x h1 qm (by simp) z; have := hlt9 x h1; omega
  refine lv_astore_n (lv' := [(2, .ref qm), (1, .ref q27), (0, .ref b)]) hx hb dL_law_15 rfl hl (by decide) rfl (fun ls hl => ?_)
  refine lv_iconst (v := nI 0) hx hb dL_law_16 rfl ?_
  refine lv_istore_n (lv' := [(3, .int (nI 0)), (2, .ref qm), (1, .ref q27), (0, .ref b)]) hx hb dL_law_17 rfl hl (by decide) rfl (fun ls hl => ?_)
  rw [hAe] at hS
  exact law_loop G hL C0 hK a b9 hndA hndR hgeA hgeR hdis (L + 1) 0 [] H1 locs ls (by omega) (by omega) List.nodup_nil ⟨p9, N, B, F, q, r, V, n0, Hd, C, w, k0, cs, sn, hTI, hPA⟩ ⟨_, _, _, _, _, _, _, _, _, _, _, _, _, _, ⟨Nat.zero_le _, fun i hi => absurd hi (Nat.not_lt_zero i)⟩, hPR⟩ hS (by rw [ha27, hb0]; exact lv_sub hl [3, 2, 1, 0] rfl)
