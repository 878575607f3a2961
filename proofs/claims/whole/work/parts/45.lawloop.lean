set_option maxHeartbeats 8000000 in
set_option maxRecDepth 100000 in
/-- THE LAW'S LOOP: class and model hold the same pairs, in the same order, all different -/
theorem law_loop {p9 : Program} {l : Launch} {e : Env} {s : State} {m : MethodId} {below : List Frame} {meth : Method} {c : Code} {b Ls : Nat} {xs : Nat → Int32} (G : Gd) (hLs : Ls ≤ 2560) (C0 : lw_At p9 s m meth c b Ls xs) (hK : KK G s) (a b9 : Nat → Nat) (hndA : (aA a).Nodup) (hndR : (aR b9).Nodup) (hge : ∀ q ∈ aA a, s.heap.size ≤ q) (hgeR : ∀ q ∈ aR b9, s.heap.size ≤ q) (hdis : ∀ q ∈ aA a, ¬ q ∈ aR b9) :
    ∀ (k9 i : Nat) (L : List Pr) (H : Heap) (locs : List Loc) (ls : Array Slot), Ls < i + k9 → i ≤ Ls → L.Nodup → cAL G a L H → cRL G b9 L H → va_S (fun q => s.heap.size ≤ q) s.heap H locs → lv_has ls 4 [(0, .ref b), (1, .ref (a 27)), (2, .ref (b9 0)), (3, .int (nI i))] →
      W p9 l e room_1 s m #[Value.ref b] below meth c H locs 41 9045 (lw_Z below #[Value.ref b] s) (F0 m 18 ls []) := by
  obtain ⟨hx, hb, hr, hml, hown, hts0, hX, hbl, hlocks, hgv⟩ := C0
  have hts := fun w h => hts0 w (wsL_law_in w h)
  have hown : s.vm.findClass RL = some m.cls := hown
  have hbA : ¬ (fun q : Nat => s.heap.size ≤ q) b := Nat.not_le.mpr hbl
  intro k9
  induction k9 with
  | zero =>
    intro i L H locs ls h1 h2
    exact absurd h1 (by omega)
  | succ k9 ih =>
    intro i L H locs ls hfuel hi hNd hAL hRL hS hl
    refine lv_iload_n hx hb dL_law_18 rfl (lv_at hl 3 rfl) ?_
    refine lv_aload_n hx hb dL_law_19 rfl (lv_at hl 0 rfl) ?_
    refine va_slen hx hb hX hbl hbA hS dL_law_20 ?_
    refine z_top (y := nI Ls) rfl ?_
    refine lv_iconst (v := nI 5) hx hb dL_law_21 rfl ?_
    refine lv_isub hx hb dL_law_22 ?_
    refine lv_icmp_gt (tgt := 525) hx hb dL_law_23 (by decide) (fun hc0 => ?_) (fun hc0 => ?_)
    · refine lv_iconst (v := 1) hx hb dL_law_525 rfl ?_
      refine va_forget (fun q hq => hS.2.2 q hq) ?_
      refine W.widen (k := 600000) (n := 7302250) (by decide) (by decide) ?_
      exact lw_ret hx hb hr hlocks dL_law_526
    · have hi5 : i + 5 ≤ Ls := lp_ok (by omega) (by omega) hc0
      refine lv_aload_n hx hb dL_law_26 rfl (lv_at hl 0 rfl) ?_
      refine lv_iload_n hx hb dL_law_27 rfl (lv_at hl 3 rfl) ?_
      refine va_sld hx hb hX hbl hbA hS (vp_in_nI (show i < Ls by omega) (by omega)) dL_law_28 ?_
      refine z_top (y := xs (i)) (by rw [nI_clamp (by omega)]) ?_
      refine lv_bipush (v := nI 15) hx hb dL_law_29 (by decide) ?_
      refine lv_iand hx hb dL_law_31 ?_
      obtain ⟨j9, hj9, hje⟩ := sw13 (x := xs i)
      refine z_top hje ?_
      obtain ⟨p, N, B, F, q, r, V, n0, Hd, C, w, k0, cs, sn, hTI, hPA⟩ := hAL
      obtain ⟨lf, rt, lo, ro, fo, no, lm, rm, pa, mt, qm, cf, fa, kp, hMI, hPR⟩ := hRL
      have hn := hMI.1
      rcases (show j9 = 0 ∨ j9 = 1 ∨ j9 = 2 ∨ j9 = 3 ∨ j9 = 4 ∨ j9 = 5 ∨ j9 = 6 ∨ j9 = 7 ∨ j9 = 8 ∨ j9 = 9 ∨ j9 = 10 ∨ j9 = 11 ∨ j9 = 12 ∨ 13 ≤ j9 by omega) with rfl | rfl | rfl | rfl | rfl | rfl | rfl | rfl | rfl | rfl | rfl | rfl | rfl | hj13
      · refine lv_tableIn (tgt := 100) hx hb dL_law_32 (by decide) (by decide) (off := 68) (by decide) (by decide) ?_
        refine lv_aload_n hx hb dL_law_100 rfl (lv_at hl 1 rfl) ?_
        refine lv_aload_n hx hb dL_law_101 rfl (lv_at hl 0 rfl) ?_
        refine lv_iload_n hx hb dL_law_102 rfl (lv_at hl 3 rfl) ?_
        refine lv_iconst (v := nI 1) hx hb dL_law_103 rfl ?_
        refine lv_iadd hx hb dL_law_104 ?_
        refine z_top (y := nI (i + 1)) (nI_add _ _) ?_
        refine va_sld hx hb hX hbl hbA hS (vp_in_nI (show i + 1 < Ls by omega) (by omega)) dL_law_105 ?_
        refine z_top (y := xs (i + 1)) (by rw [nI_clamp (by omega)]) ?_
        refine lv_aload_n hx hb dL_law_106 rfl (lv_at hl 0 rfl) ?_
        refine lv_iload_n hx hb dL_law_107 rfl (lv_at hl 3 rfl) ?_
        refine lv_iconst (v := nI 2) hx hb dL_law_108 rfl ?_
        refine lv_iadd hx hb dL_law_109 ?_
        refine z_top (y := nI (i + 2)) (nI_add _ _) ?_
        refine va_sld hx hb hX hbl hbA hS (vp_in_nI (show i + 2 < Ls by omega) (by omega)) dL_law_110 ?_
        refine z_top (y := xs (i + 2)) (by rw [nI_clamp (by omega)]) ?_
        refine z_callV (rest := []) 2 ⟨hx, hb, hml, hown, hts⟩ hK (c_link l G a p N B F L hTI (xs (i + 1)) (xs (i + 2)) (aA_5 hndA)) gL_law_X3_link rfl (by decide +kernel) ⟨Nat.le_of_ble_eq_true rfl, Nat.le_of_ble_eq_true rfl⟩ (hPA.sub (ws' := cT G a p N B F L.length ++ cP a) [0, 1, 2, 3, 4, 5, 6, 7, 8, 9, 10, 27] rfl) 11 rfl rfl rfl rfl hl.1 rfl (Nat.le_of_ble_eq_true rfl) dL_law_111 ⟨Nat.le_of_ble_eq_true rfl, Nat.le_of_ble_eq_true rfl⟩ hS (fun x h => hge x (aP_in x h)) (fun v9 H1 locs hR9 hk9 hS => ?_)
        obtain ⟨rfl, p2, N2, B2, F2, hTI2, hP1⟩ := hR9
        have hPk := P_keep (hPA.sub (ws' := cS G a q r V n0 ++ cM G a Hd C w k0 cs sn) [11, 12, 13, 14, 15, 16, 17, 18, 19, 20, 21, 22, 23, 24, 25, 26] rfl) hk9 (aA_6 hndA)
        have hPA := (hP1.app hPk).sub (ws' := cT G a p2 N2 B2 F2 (linkL L (xs (i + 1)) (xs (i + 2))).length ++ (cS G a q r V n0 ++ (cM G a Hd C w k0 cs sn ++ cP a))) [0, 1, 2, 3, 4, 5, 6, 7, 8, 9, 10, 12, 13, 14, 15, 16, 17, 18, 19, 20, 21, 22, 23, 24, 25, 26, 27, 11] rfl
        have hPR := P_keep hPR hk9 (fun x h1 h2 => hdis x (aP_in x h2) h1)
        refine W.eq (g2 := F0 m 114 ls [.int (linkA L (xs (i + 1)) (xs (i + 2)))]) rfl ?_
        refine lv_aload_n hx hb dL_law_114 rfl (lv_at hl 2 rfl) ?_
        refine lv_aload_n hx hb dL_law_115 rfl (lv_at hl 0 rfl) ?_
        refine lv_iload_n hx hb dL_law_116 rfl (lv_at hl 3 rfl) ?_
        refine lv_iconst (v := nI 1) hx hb dL_law_117 rfl ?_
        refine lv_iadd hx hb dL_law_118 ?_
        refine z_top (y := nI (i + 1)) (nI_add _ _) ?_
        refine va_sld hx hb hX hbl hbA hS (vp_in_nI (show i + 1 < Ls by omega) (by omega)) dL_law_119 ?_
        refine z_top (y := xs (i + 1)) (by rw [nI_clamp (by omega)]) ?_
        refine lv_aload_n hx hb dL_law_120 rfl (lv_at hl 0 rfl) ?_
        refine lv_iload_n hx hb dL_law_121 rfl (lv_at hl 3 rfl) ?_
        refine lv_iconst (v := nI 2) hx hb dL_law_122 rfl ?_
        refine lv_iadd hx hb dL_law_123 ?_
        refine z_top (y := nI (i + 2)) (nI_add _ _) ?_
        refine va_sld hx hb hX hbl hbA hS (vp_in_nI (show i + 2 < Ls by omega) (by omega)) dL_law_124 ?_
        refine z_top (y := xs (i + 2)) (by rw [nI_clamp (by omega)]) ?_
        refine z_callV (rest := [.int (linkA L (xs (i + 1)) (xs (i + 2)))]) 2 ⟨hx, hb, hml, hown, hts⟩ hK (c_Rlink l G b9 lf rt lo ro fo no lm rm pa mt qm cf fa kp L hMI (xs (i + 1)) (xs (i + 2)) hndR) gL_law_X4_link rfl (by decide +kernel) ⟨Nat.le_of_ble_eq_true rfl, Nat.le_of_ble_eq_true rfl⟩ hPR 0 rfl rfl rfl rfl hl.1 rfl (Nat.le_of_ble_eq_true rfl) dL_law_125 ⟨Nat.le_of_ble_eq_true rfl, Nat.le_of_ble_eq_true rfl⟩ hS (fun x h => hgeR x h) (fun v9 H2 locs hR9 hk9 hS => ?_)
        obtain ⟨rfl, lf2, rt2, hMI2, hP2⟩ := hR9
        have hPA := P_keep hPA hk9 (fun x h1 h2 => hdis x h1 h2)
        refine W.eq (g2 := F0 m 128 ls [.int (linkA L (xs (i + 1)) (xs (i + 2))), .int (linkA L (xs (i + 1)) (xs (i + 2)))]) rfl ?_
        refine lv_icmp_eq (tgt := 519) hx hb dL_law_128 (by decide) (fun hc1 => ?_) (fun hc1 => ?_)
        · refine lv_iinc (v := nI (i + 5)) (lv' := [(3, .int (nI (i + 5))), (0, .ref b), (1, .ref (a 27)), (2, .ref (b9 0))]) hx hb dL_law_519 hl (k := 3) rfl (nI_add i 5) (by decide) rfl (fun ls hl => ?_)
          refine lv_goto (tgt := 18) hx hb dL_law_522 (by decide) ?_
          exact ih (i + 5) (linkL L (xs (i + 1)) (xs (i + 2))) H2 locs ls (by omega) (by omega) (nd_link hNd _ _) ⟨p2, N2, B2, F2, q, r, V, n0, Hd, C, w, k0, cs, sn, hTI2, hPA⟩ ⟨lf2, rt2, lo, ro, fo, no, lm, rm, pa, mt, qm, cf, fa, kp, hMI2, hP2⟩ hS (lv_sub hl [1, 2, 3, 0] rfl)
        · exact absurd (rfl) hc1
      · refine lv_tableIn (tgt := 133) hx hb dL_law_32 (by decide) (by decide) (off := 101) (by decide) (by decide) ?_
        refine lv_aload_n hx hb dL_law_133 rfl (lv_at hl 1 rfl) ?_
        refine lv_aload_n hx hb dL_law_134 rfl (lv_at hl 0 rfl) ?_
        refine lv_iload_n hx hb dL_law_135 rfl (lv_at hl 3 rfl) ?_
        refine lv_iconst (v := nI 1) hx hb dL_law_136 rfl ?_
        refine lv_iadd hx hb dL_law_137 ?_
        refine z_top (y := nI (i + 1)) (nI_add _ _) ?_
        refine va_sld hx hb hX hbl hbA hS (vp_in_nI (show i + 1 < Ls by omega) (by omega)) dL_law_138 ?_
        refine z_top (y := xs (i + 1)) (by rw [nI_clamp (by omega)]) ?_
        refine lv_aload_n hx hb dL_law_139 rfl (lv_at hl 0 rfl) ?_
        refine lv_iload_n hx hb dL_law_140 rfl (lv_at hl 3 rfl) ?_
        refine lv_iconst (v := nI 2) hx hb dL_law_141 rfl ?_
        refine lv_iadd hx hb dL_law_142 ?_
        refine z_top (y := nI (i + 2)) (nI_add _ _) ?_
        refine va_sld hx hb hX hbl hbA hS (vp_in_nI (show i + 2 < Ls by omega) (by omega)) dL_law_143 ?_
        refine z_top (y := xs (i + 2)) (by rw [nI_clamp (by omega)]) ?_
        refine z_callV (rest := []) 2 ⟨hx, hb, hml, hown, hts⟩ hK (c_unlink l G a p N B F L hTI (xs (i + 1)) (xs (i + 2)) (aA_5 hndA)) gL_law_X3_unlink rfl (by decide +kernel) ⟨Nat.le_of_ble_eq_true rfl, Nat.le_of_ble_eq_true rfl⟩ (hPA.sub (ws' := cT G a p N B F L.length ++ cP a) [0, 1, 2, 3, 4, 5, 6, 7, 8, 9, 10, 27] rfl) 11 rfl rfl rfl rfl hl.1 rfl (Nat.le_of_ble_eq_true rfl) dL_law_144 ⟨Nat.le_of_ble_eq_true rfl, Nat.le_of_ble_eq_true rfl⟩ hS (fun x h => hge x (aP_in x h)) (fun v9 H1 locs hR9 hk9 hS => ?_)
        obtain ⟨o, ho1, rfl, p2, N2, B2, F2, hTI2, hP1⟩ := hR9
        have hPk := P_keep (hPA.sub (ws' := cS G a q r V n0 ++ cM G a Hd C w k0 cs sn) [11, 12, 13, 14, 15, 16, 17, 18, 19, 20, 21, 22, 23, 24, 25, 26] rfl) hk9 (aA_6 hndA)
        have hPA := (hP1.app hPk).sub (ws' := cT G a p2 N2 B2 F2 (unlL L o).length ++ (cS G a q r V n0 ++ (cM G a Hd C w k0 cs sn ++ cP a))) [0, 1, 2, 3, 4, 5, 6, 7, 8, 9, 10, 12, 13, 14, 15, 16, 17, 18, 19, 20, 21, 22, 23, 24, 25, 26, 27, 11] rfl
        have hPR := P_keep hPR hk9 (fun x h1 h2 => hdis x (aP_in x h2) h1)
        refine W.eq (g2 := F0 m 147 ls [.int (unlA L o)]) rfl ?_
        refine lv_aload_n hx hb dL_law_147 rfl (lv_at hl 2 rfl) ?_
        refine lv_aload_n hx hb dL_law_148 rfl (lv_at hl 0 rfl) ?_
        refine lv_iload_n hx hb dL_law_149 rfl (lv_at hl 3 rfl) ?_
        refine lv_iconst (v := nI 1) hx hb dL_law_150 rfl ?_
        refine lv_iadd hx hb dL_law_151 ?_
        refine z_top (y := nI (i + 1)) (nI_add _ _) ?_
        refine va_sld hx hb hX hbl hbA hS (vp_in_nI (show i + 1 < Ls by omega) (by omega)) dL_law_152 ?_
        refine z_top (y := xs (i + 1)) (by rw [nI_clamp (by omega)]) ?_
        refine lv_aload_n hx hb dL_law_153 rfl (lv_at hl 0 rfl) ?_
        refine lv_iload_n hx hb dL_law_154 rfl (lv_at hl 3 rfl) ?_
        refine lv_iconst (v := nI 2) hx hb dL_law_155 rfl ?_
        refine lv_iadd hx hb dL_law_156 ?_
        refine z_top (y := nI (i + 2)) (nI_add _ _) ?_
        refine va_sld hx hb hX hbl hbA hS (vp_in_nI (show i + 2 < Ls by omega) (by omega)) dL_law_157 ?_
        refine z_top (y := xs (i + 2)) (by rw [nI_clamp (by omega)]) ?_
        refine z_callV (rest := [.int (unlA L o)]) 2 ⟨hx, hb, hml, hown, hts⟩ hK (c_Runlink l G b9 lf rt lo ro fo no lm rm pa mt qm cf fa kp L hMI (xs (i + 1)) (xs (i + 2)) hndR) gL_law_X4_unlink rfl (by decide +kernel) ⟨Nat.le_of_ble_eq_true rfl, Nat.le_of_ble_eq_true rfl⟩ hPR 0 rfl rfl rfl rfl hl.1 rfl (Nat.le_of_ble_eq_true rfl) dL_law_158 ⟨Nat.le_of_ble_eq_true rfl, Nat.le_of_ble_eq_true rfl⟩ hS (fun x h => hgeR x h) (fun v9 H2 locs hR9 hk9 hS => ?_)
        obtain ⟨o2, ho2, rfl, lf2, rt2, hMI2, hP2⟩ := hR9
        have hPA := P_keep hPA hk9 (fun x h1 h2 => hdis x h1 h2)
        have ho := posR_uniq hNd ho1 ho2
        subst ho
        refine W.eq (g2 := F0 m 161 ls [.int (unlA L o), .int (unlA L o)]) rfl ?_
        refine lv_icmp_eq (tgt := 519) hx hb dL_law_161 (by decide) (fun hc2 => ?_) (fun hc2 => ?_)
        · refine lv_iinc (v := nI (i + 5)) (lv' := [(3, .int (nI (i + 5))), (0, .ref b), (1, .ref (a 27)), (2, .ref (b9 0))]) hx hb dL_law_519 hl (k := 3) rfl (nI_add i 5) (by decide) rfl (fun ls hl => ?_)
          refine lv_goto (tgt := 18) hx hb dL_law_522 (by decide) ?_
          exact ih (i + 5) (unlL L o) H2 locs ls (by omega) (by omega) (nd_unl hNd _) ⟨p2, N2, B2, F2, q, r, V, n0, Hd, C, w, k0, cs, sn, hTI2, hPA⟩ ⟨lf2, rt2, lo, ro, fo, no, lm, rm, pa, mt, qm, cf, fa, kp, hMI2, hP2⟩ hS (lv_sub hl [1, 2, 3, 0] rfl)
        · exact absurd (rfl) hc2
      · refine lv_tableIn (tgt := 166) hx hb dL_law_32 (by decide) (by decide) (off := 134) (by decide) (by decide) ?_
        refine lv_aload_n hx hb dL_law_166 rfl (lv_at hl 1 rfl) ?_
        refine lv_aload_n hx hb dL_law_167 rfl (lv_at hl 0 rfl) ?_
        refine lv_iload_n hx hb dL_law_168 rfl (lv_at hl 3 rfl) ?_
        refine lv_iconst (v := nI 1) hx hb dL_law_169 rfl ?_
        refine lv_iadd hx hb dL_law_170 ?_
        refine z_top (y := nI (i + 1)) (nI_add _ _) ?_
        refine va_sld hx hb hX hbl hbA hS (vp_in_nI (show i + 1 < Ls by omega) (by omega)) dL_law_171 ?_
        refine z_top (y := xs (i + 1)) (by rw [nI_clamp (by omega)]) ?_
        refine lv_aload_n hx hb dL_law_172 rfl (lv_at hl 0 rfl) ?_
        refine lv_iload_n hx hb dL_law_173 rfl (lv_at hl 3 rfl) ?_
        refine lv_iconst (v := nI 2) hx hb dL_law_174 rfl ?_
        refine lv_iadd hx hb dL_law_175 ?_
        refine z_top (y := nI (i + 2)) (nI_add _ _) ?_
        refine va_sld hx hb hX hbl hbA hS (vp_in_nI (show i + 2 < Ls by omega) (by omega)) dL_law_176 ?_
        refine z_top (y := xs (i + 2)) (by rw [nI_clamp (by omega)]) ?_
        refine z_callV (rest := []) 2 ⟨hx, hb, hml, hown, hts⟩ hK (c_place l G a p N B F L hTI (xs (i + 1)) (xs (i + 2)) ) gL_law_X3_place rfl (by decide +kernel) ⟨Nat.le_of_ble_eq_true rfl, Nat.le_of_ble_eq_true rfl⟩ (hPA.sub (ws' := cT G a p N B F L.length ++ cP a) [0, 1, 2, 3, 4, 5, 6, 7, 8, 9, 10, 27] rfl) 11 rfl rfl rfl rfl hl.1 rfl (Nat.le_of_ble_eq_true rfl) dL_law_177 ⟨Nat.le_of_ble_eq_true rfl, Nat.le_of_ble_eq_true rfl⟩ hS (fun _ h => h.elim) (fun v9 H1 locs hR9 hk9 hS => ?_)
        obtain ⟨o, rfl, ho1⟩ := hR9
        have hPA := P_keep0 hPA hk9
        have hPR := P_keep0 hPR hk9
        refine W.eq (g2 := F0 m 180 ls [.int (lk o)]) rfl ?_
        refine lv_aload_n hx hb dL_law_180 rfl (lv_at hl 2 rfl) ?_
        refine lv_aload_n hx hb dL_law_181 rfl (lv_at hl 0 rfl) ?_
        refine lv_iload_n hx hb dL_law_182 rfl (lv_at hl 3 rfl) ?_
        refine lv_iconst (v := nI 1) hx hb dL_law_183 rfl ?_
        refine lv_iadd hx hb dL_law_184 ?_
        refine z_top (y := nI (i + 1)) (nI_add _ _) ?_
        refine va_sld hx hb hX hbl hbA hS (vp_in_nI (show i + 1 < Ls by omega) (by omega)) dL_law_185 ?_
        refine z_top (y := xs (i + 1)) (by rw [nI_clamp (by omega)]) ?_
        refine lv_aload_n hx hb dL_law_186 rfl (lv_at hl 0 rfl) ?_
        refine lv_iload_n hx hb dL_law_187 rfl (lv_at hl 3 rfl) ?_
        refine lv_iconst (v := nI 2) hx hb dL_law_188 rfl ?_
        refine lv_iadd hx hb dL_law_189 ?_
        refine z_top (y := nI (i + 2)) (nI_add _ _) ?_
        refine va_sld hx hb hX hbl hbA hS (vp_in_nI (show i + 2 < Ls by omega) (by omega)) dL_law_190 ?_
        refine z_top (y := xs (i + 2)) (by rw [nI_clamp (by omega)]) ?_
        refine z_callV (rest := [.int (lk o)]) 2 ⟨hx, hb, hml, hown, hts⟩ hK (c_Rplace l G b9 lf rt lo ro fo no lm rm pa mt qm cf fa kp L hMI (xs (i + 1)) (xs (i + 2)) ) gL_law_X4_place rfl (by decide +kernel) ⟨Nat.le_of_ble_eq_true rfl, Nat.le_of_ble_eq_true rfl⟩ hPR 0 rfl rfl rfl rfl hl.1 rfl (Nat.le_of_ble_eq_true rfl) dL_law_191 ⟨Nat.le_of_ble_eq_true rfl, Nat.le_of_ble_eq_true rfl⟩ hS (fun _ h => h.elim) (fun v9 H2 locs hR9 hk9 hS => ?_)
        obtain ⟨o2, rfl, ho2⟩ := hR9
        have hPA := P_keep0 hPA hk9
        have hP2 := P_keep0 hPR hk9
        have ho := posR_uniq hNd ho1 ho2
        subst ho
        refine W.eq (g2 := F0 m 194 ls [.int (lk o), .int (lk o)]) rfl ?_
        refine lv_icmp_eq (tgt := 519) hx hb dL_law_194 (by decide) (fun hc3 => ?_) (fun hc3 => ?_)
        · refine lv_iinc (v := nI (i + 5)) (lv' := [(3, .int (nI (i + 5))), (0, .ref b), (1, .ref (a 27)), (2, .ref (b9 0))]) hx hb dL_law_519 hl (k := 3) rfl (nI_add i 5) (by decide) rfl (fun ls hl => ?_)
          refine lv_goto (tgt := 18) hx hb dL_law_522 (by decide) ?_
          exact ih (i + 5) (L) H2 locs ls (by omega) (by omega) (hNd) ⟨p, N, B, F, q, r, V, n0, Hd, C, w, k0, cs, sn, hTI, hPA⟩ ⟨lf, rt, lo, ro, fo, no, lm, rm, pa, mt, qm, cf, fa, kp, hMI, hP2⟩ hS (lv_sub hl [1, 2, 3, 0] rfl)
        · exact absurd (rfl) hc3
      · refine lv_tableIn (tgt := 199) hx hb dL_law_32 (by decide) (by decide) (off := 167) (by decide) (by decide) ?_
        refine lv_aload_n hx hb dL_law_199 rfl (lv_at hl 1 rfl) ?_
        refine lv_aload_n hx hb dL_law_200 rfl (lv_at hl 0 rfl) ?_
        refine lv_iload_n hx hb dL_law_201 rfl (lv_at hl 3 rfl) ?_
        refine lv_iconst (v := nI 1) hx hb dL_law_202 rfl ?_
        refine lv_iadd hx hb dL_law_203 ?_
        refine z_top (y := nI (i + 1)) (nI_add _ _) ?_
        refine va_sld hx hb hX hbl hbA hS (vp_in_nI (show i + 1 < Ls by omega) (by omega)) dL_law_204 ?_
        refine z_top (y := xs (i + 1)) (by rw [nI_clamp (by omega)]) ?_
        refine lv_aload_n hx hb dL_law_205 rfl (lv_at hl 0 rfl) ?_
        refine lv_iload_n hx hb dL_law_206 rfl (lv_at hl 3 rfl) ?_
        refine lv_iconst (v := nI 2) hx hb dL_law_207 rfl ?_
        refine lv_iadd hx hb dL_law_208 ?_
        refine z_top (y := nI (i + 2)) (nI_add _ _) ?_
        refine va_sld hx hb hX hbl hbA hS (vp_in_nI (show i + 2 < Ls by omega) (by omega)) dL_law_209 ?_
        refine z_top (y := xs (i + 2)) (by rw [nI_clamp (by omega)]) ?_
        refine z_callV (rest := []) 2 ⟨hx, hb, hml, hown, hts⟩ hK (c_degree l G a p N B F L hTI (xs (i + 1)) (xs (i + 2)) ) gL_law_X3_degree rfl (by decide +kernel) ⟨Nat.le_of_ble_eq_true rfl, Nat.le_of_ble_eq_true rfl⟩ (hPA.sub (ws' := cT G a p N B F L.length ++ cP a) [0, 1, 2, 3, 4, 5, 6, 7, 8, 9, 10, 27] rfl) 11 rfl rfl rfl rfl hl.1 rfl (Nat.le_of_ble_eq_true rfl) dL_law_210 ⟨Nat.le_of_ble_eq_true rfl, Nat.le_of_ble_eq_true rfl⟩ hS (fun _ h => h.elim) (fun v9 H1 locs hR9 hk9 hS => ?_)
        obtain rfl := hR9
        have hPA := P_keep0 hPA hk9
        have hPR := P_keep0 hPR hk9
        refine W.eq (g2 := F0 m 213 ls [.int (degA L (xs (i + 1)) (xs (i + 2)))]) rfl ?_
        refine lv_aload_n hx hb dL_law_213 rfl (lv_at hl 2 rfl) ?_
        refine lv_aload_n hx hb dL_law_214 rfl (lv_at hl 0 rfl) ?_
        refine lv_iload_n hx hb dL_law_215 rfl (lv_at hl 3 rfl) ?_
        refine lv_iconst (v := nI 1) hx hb dL_law_216 rfl ?_
        refine lv_iadd hx hb dL_law_217 ?_
        refine z_top (y := nI (i + 1)) (nI_add _ _) ?_
        refine va_sld hx hb hX hbl hbA hS (vp_in_nI (show i + 1 < Ls by omega) (by omega)) dL_law_218 ?_
        refine z_top (y := xs (i + 1)) (by rw [nI_clamp (by omega)]) ?_
        refine lv_aload_n hx hb dL_law_219 rfl (lv_at hl 0 rfl) ?_
        refine lv_iload_n hx hb dL_law_220 rfl (lv_at hl 3 rfl) ?_
        refine lv_iconst (v := nI 2) hx hb dL_law_221 rfl ?_
        refine lv_iadd hx hb dL_law_222 ?_
        refine z_top (y := nI (i + 2)) (nI_add _ _) ?_
        refine va_sld hx hb hX hbl hbA hS (vp_in_nI (show i + 2 < Ls by omega) (by omega)) dL_law_223 ?_
        refine z_top (y := xs (i + 2)) (by rw [nI_clamp (by omega)]) ?_
        refine z_callV (rest := [.int (degA L (xs (i + 1)) (xs (i + 2)))]) 2 ⟨hx, hb, hml, hown, hts⟩ hK (c_Rdegree l G b9 lf rt lo ro fo no lm rm pa mt qm cf fa kp L hMI (xs (i + 1)) (xs (i + 2)) ) gL_law_X4_degree rfl (by decide +kernel) ⟨Nat.le_of_ble_eq_true rfl, Nat.le_of_ble_eq_true rfl⟩ hPR 0 rfl rfl rfl rfl hl.1 rfl (Nat.le_of_ble_eq_true rfl) dL_law_224 ⟨Nat.le_of_ble_eq_true rfl, Nat.le_of_ble_eq_true rfl⟩ hS (fun _ h => h.elim) (fun v9 H2 locs hR9 hk9 hS => ?_)
        obtain rfl := hR9
        have hPA := P_keep0 hPA hk9
        have hP2 := P_keep0 hPR hk9
        refine W.eq (g2 := F0 m 227 ls [.int (degA L (xs (i + 1)) (xs (i + 2))), .int (degA L (xs (i + 1)) (xs (i + 2)))]) rfl ?_
        refine lv_icmp_eq (tgt := 519) hx hb dL_law_227 (by decide) (fun hc4 => ?_) (fun hc4 => ?_)
        · refine lv_iinc (v := nI (i + 5)) (lv' := [(3, .int (nI (i + 5))), (0, .ref b), (1, .ref (a 27)), (2, .ref (b9 0))]) hx hb dL_law_519 hl (k := 3) rfl (nI_add i 5) (by decide) rfl (fun ls hl => ?_)
          refine lv_goto (tgt := 18) hx hb dL_law_522 (by decide) ?_
          exact ih (i + 5) (L) H2 locs ls (by omega) (by omega) (hNd) ⟨p, N, B, F, q, r, V, n0, Hd, C, w, k0, cs, sn, hTI, hPA⟩ ⟨lf, rt, lo, ro, fo, no, lm, rm, pa, mt, qm, cf, fa, kp, hMI, hP2⟩ hS (lv_sub hl [1, 2, 3, 0] rfl)
        · exact absurd (rfl) hc4
      · refine lv_tableIn (tgt := 232) hx hb dL_law_32 (by decide) (by decide) (off := 200) (by decide) (by decide) ?_
        refine lv_aload_n hx hb dL_law_232 rfl (lv_at hl 1 rfl) ?_
        refine lv_aload_n hx hb dL_law_233 rfl (lv_at hl 0 rfl) ?_
        refine lv_iload_n hx hb dL_law_234 rfl (lv_at hl 3 rfl) ?_
        refine lv_iconst (v := nI 1) hx hb dL_law_235 rfl ?_
        refine lv_iadd hx hb dL_law_236 ?_
        refine z_top (y := nI (i + 1)) (nI_add _ _) ?_
        refine va_sld hx hb hX hbl hbA hS (vp_in_nI (show i + 1 < Ls by omega) (by omega)) dL_law_237 ?_
        refine z_top (y := xs (i + 1)) (by rw [nI_clamp (by omega)]) ?_
        refine lv_aload_n hx hb dL_law_238 rfl (lv_at hl 0 rfl) ?_
        refine lv_iload_n hx hb dL_law_239 rfl (lv_at hl 3 rfl) ?_
        refine lv_iconst (v := nI 2) hx hb dL_law_240 rfl ?_
        refine lv_iadd hx hb dL_law_241 ?_
        refine z_top (y := nI (i + 2)) (nI_add _ _) ?_
        refine va_sld hx hb hX hbl hbA hS (vp_in_nI (show i + 2 < Ls by omega) (by omega)) dL_law_242 ?_
        refine z_top (y := xs (i + 2)) (by rw [nI_clamp (by omega)]) ?_
        refine lv_aload_n hx hb dL_law_243 rfl (lv_at hl 0 rfl) ?_
        refine lv_iload_n hx hb dL_law_244 rfl (lv_at hl 3 rfl) ?_
        refine lv_iconst (v := nI 3) hx hb dL_law_245 rfl ?_
        refine lv_iadd hx hb dL_law_246 ?_
        refine z_top (y := nI (i + 3)) (nI_add _ _) ?_
        refine va_sld hx hb hX hbl hbA hS (vp_in_nI (show i + 3 < Ls by omega) (by omega)) dL_law_247 ?_
        refine z_top (y := xs (i + 3)) (by rw [nI_clamp (by omega)]) ?_
        refine z_callV (rest := []) 3 ⟨hx, hb, hml, hown, hts⟩ hK (c_other l G a p N B F L hTI (xs (i + 1)) (xs (i + 2)) (xs (i + 3)) ) gL_law_X3_other rfl (by decide +kernel) ⟨Nat.le_of_ble_eq_true rfl, Nat.le_of_ble_eq_true rfl⟩ (hPA.sub (ws' := cT G a p N B F L.length ++ cP a) [0, 1, 2, 3, 4, 5, 6, 7, 8, 9, 10, 27] rfl) 11 rfl rfl rfl rfl hl.1 rfl (Nat.le_of_ble_eq_true rfl) dL_law_248 ⟨Nat.le_of_ble_eq_true rfl, Nat.le_of_ble_eq_true rfl⟩ hS (fun _ h => h.elim) (fun v9 H1 locs hR9 hk9 hS => ?_)
        obtain ⟨z1, rfl, hz1⟩ := hR9
        have hPA := P_keep0 hPA hk9
        have hPR := P_keep0 hPR hk9
        refine W.eq (g2 := F0 m 251 ls [.int (z1)]) rfl ?_
        refine lv_aload_n hx hb dL_law_251 rfl (lv_at hl 2 rfl) ?_
        refine lv_aload_n hx hb dL_law_252 rfl (lv_at hl 0 rfl) ?_
        refine lv_iload_n hx hb dL_law_253 rfl (lv_at hl 3 rfl) ?_
        refine lv_iconst (v := nI 1) hx hb dL_law_254 rfl ?_
        refine lv_iadd hx hb dL_law_255 ?_
        refine z_top (y := nI (i + 1)) (nI_add _ _) ?_
        refine va_sld hx hb hX hbl hbA hS (vp_in_nI (show i + 1 < Ls by omega) (by omega)) dL_law_256 ?_
        refine z_top (y := xs (i + 1)) (by rw [nI_clamp (by omega)]) ?_
        refine lv_aload_n hx hb dL_law_257 rfl (lv_at hl 0 rfl) ?_
        refine lv_iload_n hx hb dL_law_258 rfl (lv_at hl 3 rfl) ?_
        refine lv_iconst (v := nI 2) hx hb dL_law_259 rfl ?_
        refine lv_iadd hx hb dL_law_260 ?_
        refine z_top (y := nI (i + 2)) (nI_add _ _) ?_
        refine va_sld hx hb hX hbl hbA hS (vp_in_nI (show i + 2 < Ls by omega) (by omega)) dL_law_261 ?_
        refine z_top (y := xs (i + 2)) (by rw [nI_clamp (by omega)]) ?_
        refine lv_aload_n hx hb dL_law_262 rfl (lv_at hl 0 rfl) ?_
        refine lv_iload_n hx hb dL_law_263 rfl (lv_at hl 3 rfl) ?_
        refine lv_iconst (v := nI 3) hx hb dL_law_264 rfl ?_
        refine lv_iadd hx hb dL_law_265 ?_
        refine z_top (y := nI (i + 3)) (nI_add _ _) ?_
        refine va_sld hx hb hX hbl hbA hS (vp_in_nI (show i + 3 < Ls by omega) (by omega)) dL_law_266 ?_
        refine z_top (y := xs (i + 3)) (by rw [nI_clamp (by omega)]) ?_
        refine z_callV (rest := [.int (z1)]) 3 ⟨hx, hb, hml, hown, hts⟩ hK (c_Rother l G b9 lf rt lo ro fo no lm rm pa mt qm cf fa kp L hMI (xs (i + 1)) (xs (i + 2)) (xs (i + 3)) ) gL_law_X4_other rfl (by decide +kernel) ⟨Nat.le_of_ble_eq_true rfl, Nat.le_of_ble_eq_true rfl⟩ hPR 0 rfl rfl rfl rfl hl.1 rfl (Nat.le_of_ble_eq_true rfl) dL_law_267 ⟨Nat.le_of_ble_eq_true rfl, Nat.le_of_ble_eq_true rfl⟩ hS (fun _ h => h.elim) (fun v9 H2 locs hR9 hk9 hS => ?_)
        obtain ⟨z2, rfl, hz2⟩ := hR9
        have hPA := P_keep0 hPA hk9
        have hP2 := P_keep0 hPR hk9
        refine W.eq (g2 := F0 m 270 ls [.int (z2), .int (z1)]) rfl ?_
        refine lv_icmp_eq (tgt := 519) hx hb dL_law_270 (by decide) (fun hc5 => ?_) (fun hc5 => ?_)
        · refine lv_iinc (v := nI (i + 5)) (lv' := [(3, .int (nI (i + 5))), (0, .ref b), (1, .ref (a 27)), (2, .ref (b9 0))]) hx hb dL_law_519 hl (k := 3) rfl (nI_add i 5) (by decide) rfl (fun ls hl => ?_)
          refine lv_goto (tgt := 18) hx hb dL_law_522 (by decide) ?_
          exact ih (i + 5) (L) H2 locs ls (by omega) (by omega) (hNd) ⟨p, N, B, F, q, r, V, n0, Hd, C, w, k0, cs, sn, hTI, hPA⟩ ⟨lf, rt, lo, ro, fo, no, lm, rm, pa, mt, qm, cf, fa, kp, hMI, hP2⟩ hS (lv_sub hl [1, 2, 3, 0] rfl)
        · exact absurd (otherR_uniq hn hz1 hz2) hc5
      · refine lv_tableIn (tgt := 275) hx hb dL_law_32 (by decide) (by decide) (off := 243) (by decide) (by decide) ?_
        refine lv_aload_n hx hb dL_law_275 rfl (lv_at hl 1 rfl) ?_
        refine lv_aload_n hx hb dL_law_276 rfl (lv_at hl 0 rfl) ?_
        refine lv_iload_n hx hb dL_law_277 rfl (lv_at hl 3 rfl) ?_
        refine lv_iconst (v := nI 1) hx hb dL_law_278 rfl ?_
        refine lv_iadd hx hb dL_law_279 ?_
        refine z_top (y := nI (i + 1)) (nI_add _ _) ?_
        refine va_sld hx hb hX hbl hbA hS (vp_in_nI (show i + 1 < Ls by omega) (by omega)) dL_law_280 ?_
        refine z_top (y := xs (i + 1)) (by rw [nI_clamp (by omega)]) ?_
        refine lv_aload_n hx hb dL_law_281 rfl (lv_at hl 0 rfl) ?_
        refine lv_iload_n hx hb dL_law_282 rfl (lv_at hl 3 rfl) ?_
        refine lv_iconst (v := nI 2) hx hb dL_law_283 rfl ?_
        refine lv_iadd hx hb dL_law_284 ?_
        refine z_top (y := nI (i + 2)) (nI_add _ _) ?_
        refine va_sld hx hb hX hbl hbA hS (vp_in_nI (show i + 2 < Ls by omega) (by omega)) dL_law_285 ?_
        refine z_top (y := xs (i + 2)) (by rw [nI_clamp (by omega)]) ?_
        refine z_callV (rest := []) 2 ⟨hx, hb, hml, hown, hts⟩ hK (c_drop l G a p N B F L hTI (xs (i + 1)) (xs (i + 2)) (aA_5 hndA)) gL_law_X3_drop rfl (by decide +kernel) ⟨Nat.le_of_ble_eq_true rfl, Nat.le_of_ble_eq_true rfl⟩ (hPA.sub (ws' := cT G a p N B F L.length ++ cP a) [0, 1, 2, 3, 4, 5, 6, 7, 8, 9, 10, 27] rfl) 11 rfl rfl rfl rfl hl.1 rfl (Nat.le_of_ble_eq_true rfl) dL_law_286 ⟨Nat.le_of_ble_eq_true rfl, Nat.le_of_ble_eq_true rfl⟩ hS (fun x h => hge x (aP_in x h)) (fun v9 H1 locs hR9 hk9 hS => ?_)
        obtain ⟨rfl, p2, N2, B2, F2, hTI2, hP1⟩ := hR9
        have hPk := P_keep (hPA.sub (ws' := cS G a q r V n0 ++ cM G a Hd C w k0 cs sn) [11, 12, 13, 14, 15, 16, 17, 18, 19, 20, 21, 22, 23, 24, 25, 26] rfl) hk9 (aA_6 hndA)
        have hPA := (hP1.app hPk).sub (ws' := cT G a p2 N2 B2 F2 (dropL L (xs (i + 1)) (xs (i + 2))).length ++ (cS G a q r V n0 ++ (cM G a Hd C w k0 cs sn ++ cP a))) [0, 1, 2, 3, 4, 5, 6, 7, 8, 9, 10, 12, 13, 14, 15, 16, 17, 18, 19, 20, 21, 22, 23, 24, 25, 26, 27, 11] rfl
        have hPR := P_keep hPR hk9 (fun x h1 h2 => hdis x (aP_in x h2) h1)
        refine W.eq (g2 := F0 m 289 ls [.int (degA L (xs (i + 1)) (xs (i + 2)))]) rfl ?_
        refine lv_aload_n hx hb dL_law_289 rfl (lv_at hl 2 rfl) ?_
        refine lv_aload_n hx hb dL_law_290 rfl (lv_at hl 0 rfl) ?_
        refine lv_iload_n hx hb dL_law_291 rfl (lv_at hl 3 rfl) ?_
        refine lv_iconst (v := nI 1) hx hb dL_law_292 rfl ?_
        refine lv_iadd hx hb dL_law_293 ?_
        refine z_top (y := nI (i + 1)) (nI_add _ _) ?_
        refine va_sld hx hb hX hbl hbA hS (vp_in_nI (show i + 1 < Ls by omega) (by omega)) dL_law_294 ?_
        refine z_top (y := xs (i + 1)) (by rw [nI_clamp (by omega)]) ?_
        refine lv_aload_n hx hb dL_law_295 rfl (lv_at hl 0 rfl) ?_
        refine lv_iload_n hx hb dL_law_296 rfl (lv_at hl 3 rfl) ?_
        refine lv_iconst (v := nI 2) hx hb dL_law_297 rfl ?_
        refine lv_iadd hx hb dL_law_298 ?_
        refine z_top (y := nI (i + 2)) (nI_add _ _) ?_
        refine va_sld hx hb hX hbl hbA hS (vp_in_nI (show i + 2 < Ls by omega) (by omega)) dL_law_299 ?_
        refine z_top (y := xs (i + 2)) (by rw [nI_clamp (by omega)]) ?_
        refine z_callV (rest := [.int (degA L (xs (i + 1)) (xs (i + 2)))]) 2 ⟨hx, hb, hml, hown, hts⟩ hK (c_Rdrop l G b9 lf rt lo ro fo no lm rm pa mt qm cf fa kp L hMI (xs (i + 1)) (xs (i + 2)) hndR) gL_law_X4_drop rfl (by decide +kernel) ⟨Nat.le_of_ble_eq_true rfl, Nat.le_of_ble_eq_true rfl⟩ hPR 0 rfl rfl rfl rfl hl.1 rfl (Nat.le_of_ble_eq_true rfl) dL_law_300 ⟨Nat.le_of_ble_eq_true rfl, Nat.le_of_ble_eq_true rfl⟩ hS (fun x h => hgeR x h) (fun v9 H2 locs hR9 hk9 hS => ?_)
        obtain ⟨rfl, lf2, rt2, hMI2, hP2⟩ := hR9
        have hPA := P_keep hPA hk9 (fun x h1 h2 => hdis x h1 h2)
        refine W.eq (g2 := F0 m 303 ls [.int (degA L (xs (i + 1)) (xs (i + 2))), .int (degA L (xs (i + 1)) (xs (i + 2)))]) rfl ?_
        refine lv_icmp_eq (tgt := 519) hx hb dL_law_303 (by decide) (fun hc6 => ?_) (fun hc6 => ?_)
        · refine lv_iinc (v := nI (i + 5)) (lv' := [(3, .int (nI (i + 5))), (0, .ref b), (1, .ref (a 27)), (2, .ref (b9 0))]) hx hb dL_law_519 hl (k := 3) rfl (nI_add i 5) (by decide) rfl (fun ls hl => ?_)
          refine lv_goto (tgt := 18) hx hb dL_law_522 (by decide) ?_
          exact ih (i + 5) (dropL L (xs (i + 1)) (xs (i + 2))) H2 locs ls (by omega) (by omega) (nd_drop hNd _ _) ⟨p2, N2, B2, F2, q, r, V, n0, Hd, C, w, k0, cs, sn, hTI2, hPA⟩ ⟨lf2, rt2, lo, ro, fo, no, lm, rm, pa, mt, qm, cf, fa, kp, hMI2, hP2⟩ hS (lv_sub hl [1, 2, 3, 0] rfl)
        · exact absurd (rfl) hc6
      · refine lv_tableIn (tgt := 308) hx hb dL_law_32 (by decide) (by decide) (off := 276) (by decide) (by decide) ?_
        refine lv_aload_n hx hb dL_law_308 rfl (lv_at hl 1 rfl) ?_
        refine lv_aload_n hx hb dL_law_309 rfl (lv_at hl 0 rfl) ?_
        refine lv_iload_n hx hb dL_law_310 rfl (lv_at hl 3 rfl) ?_
        refine lv_iconst (v := nI 1) hx hb dL_law_311 rfl ?_
        refine lv_iadd hx hb dL_law_312 ?_
        refine z_top (y := nI (i + 1)) (nI_add _ _) ?_
        refine va_sld hx hb hX hbl hbA hS (vp_in_nI (show i + 1 < Ls by omega) (by omega)) dL_law_313 ?_
        refine z_top (y := xs (i + 1)) (by rw [nI_clamp (by omega)]) ?_
        refine lv_aload_n hx hb dL_law_314 rfl (lv_at hl 0 rfl) ?_
        refine lv_iload_n hx hb dL_law_315 rfl (lv_at hl 3 rfl) ?_
        refine lv_iconst (v := nI 2) hx hb dL_law_316 rfl ?_
        refine lv_iadd hx hb dL_law_317 ?_
        refine z_top (y := nI (i + 2)) (nI_add _ _) ?_
        refine va_sld hx hb hX hbl hbA hS (vp_in_nI (show i + 2 < Ls by omega) (by omega)) dL_law_318 ?_
        refine z_top (y := xs (i + 2)) (by rw [nI_clamp (by omega)]) ?_
        refine lv_aload_n hx hb dL_law_319 rfl (lv_at hl 0 rfl) ?_
        refine lv_iload_n hx hb dL_law_320 rfl (lv_at hl 3 rfl) ?_
        refine lv_iconst (v := nI 3) hx hb dL_law_321 rfl ?_
        refine lv_iadd hx hb dL_law_322 ?_
        refine z_top (y := nI (i + 3)) (nI_add _ _) ?_
        refine va_sld hx hb hX hbl hbA hS (vp_in_nI (show i + 3 < Ls by omega) (by omega)) dL_law_323 ?_
        refine z_top (y := xs (i + 3)) (by rw [nI_clamp (by omega)]) ?_
        refine z_callV (rest := []) 3 ⟨hx, hb, hml, hown, hts⟩ hK (c_rename l G a p N B F L hTI (xs (i + 1)) (xs (i + 2)) (xs (i + 3)) (aA_5 hndA)) gL_law_X3_rename rfl (by decide +kernel) ⟨Nat.le_of_ble_eq_true rfl, Nat.le_of_ble_eq_true rfl⟩ (hPA.sub (ws' := cT G a p N B F L.length ++ cP a) [0, 1, 2, 3, 4, 5, 6, 7, 8, 9, 10, 27] rfl) 11 rfl rfl rfl rfl hl.1 rfl (Nat.le_of_ble_eq_true rfl) dL_law_324 ⟨Nat.le_of_ble_eq_true rfl, Nat.le_of_ble_eq_true rfl⟩ hS (fun x h => hge x (aP_in x h)) (fun v9 H1 locs hR9 hk9 hS => ?_)
        obtain ⟨rfl, p2, N2, B2, F2, hTI2, hP1⟩ := hR9
        have hPk := P_keep (hPA.sub (ws' := cS G a q r V n0 ++ cM G a Hd C w k0 cs sn) [11, 12, 13, 14, 15, 16, 17, 18, 19, 20, 21, 22, 23, 24, 25, 26] rfl) hk9 (aA_6 hndA)
        have hPA := (hP1.app hPk).sub (ws' := cT G a p2 N2 B2 F2 (renL L (xs (i + 1)) (xs (i + 2)) (xs (i + 3))).length ++ (cS G a q r V n0 ++ (cM G a Hd C w k0 cs sn ++ cP a))) [0, 1, 2, 3, 4, 5, 6, 7, 8, 9, 10, 12, 13, 14, 15, 16, 17, 18, 19, 20, 21, 22, 23, 24, 25, 26, 27, 11] rfl
        have hPR := P_keep hPR hk9 (fun x h1 h2 => hdis x (aP_in x h2) h1)
        refine W.eq (g2 := F0 m 327 ls [.int (renA L (xs (i + 1)) (xs (i + 2)) (xs (i + 3)))]) rfl ?_
        refine lv_aload_n hx hb dL_law_327 rfl (lv_at hl 2 rfl) ?_
        refine lv_aload_n hx hb dL_law_328 rfl (lv_at hl 0 rfl) ?_
        refine lv_iload_n hx hb dL_law_329 rfl (lv_at hl 3 rfl) ?_
        refine lv_iconst (v := nI 1) hx hb dL_law_330 rfl ?_
        refine lv_iadd hx hb dL_law_331 ?_
        refine z_top (y := nI (i + 1)) (nI_add _ _) ?_
        refine va_sld hx hb hX hbl hbA hS (vp_in_nI (show i + 1 < Ls by omega) (by omega)) dL_law_332 ?_
        refine z_top (y := xs (i + 1)) (by rw [nI_clamp (by omega)]) ?_
        refine lv_aload_n hx hb dL_law_333 rfl (lv_at hl 0 rfl) ?_
        refine lv_iload_n hx hb dL_law_334 rfl (lv_at hl 3 rfl) ?_
        refine lv_iconst (v := nI 2) hx hb dL_law_335 rfl ?_
        refine lv_iadd hx hb dL_law_336 ?_
        refine z_top (y := nI (i + 2)) (nI_add _ _) ?_
        refine va_sld hx hb hX hbl hbA hS (vp_in_nI (show i + 2 < Ls by omega) (by omega)) dL_law_337 ?_
        refine z_top (y := xs (i + 2)) (by rw [nI_clamp (by omega)]) ?_
        refine lv_aload_n hx hb dL_law_338 rfl (lv_at hl 0 rfl) ?_
        refine lv_iload_n hx hb dL_law_339 rfl (lv_at hl 3 rfl) ?_
        refine lv_iconst (v := nI 3) hx hb dL_law_340 rfl ?_
        refine lv_iadd hx hb dL_law_341 ?_
        refine z_top (y := nI (i + 3)) (nI_add _ _) ?_
        refine va_sld hx hb hX hbl hbA hS (vp_in_nI (show i + 3 < Ls by omega) (by omega)) dL_law_342 ?_
        refine z_top (y := xs (i + 3)) (by rw [nI_clamp (by omega)]) ?_
        refine z_callV (rest := [.int (renA L (xs (i + 1)) (xs (i + 2)) (xs (i + 3)))]) 3 ⟨hx, hb, hml, hown, hts⟩ hK (c_Rrename l G b9 lf rt lo ro fo no lm rm pa mt qm cf fa kp L hMI (xs (i + 1)) (xs (i + 2)) (xs (i + 3)) hndR) gL_law_X4_rename rfl (by decide +kernel) ⟨Nat.le_of_ble_eq_true rfl, Nat.le_of_ble_eq_true rfl⟩ hPR 0 rfl rfl rfl rfl hl.1 rfl (Nat.le_of_ble_eq_true rfl) dL_law_343 ⟨Nat.le_of_ble_eq_true rfl, Nat.le_of_ble_eq_true rfl⟩ hS (fun x h => hgeR x h) (fun v9 H2 locs hR9 hk9 hS => ?_)
        obtain ⟨rfl, lf2, rt2, kp2, hMI2, hP2⟩ := hR9
        have hPA := P_keep hPA hk9 (fun x h1 h2 => hdis x h1 h2)
        refine W.eq (g2 := F0 m 346 ls [.int (renA L (xs (i + 1)) (xs (i + 2)) (xs (i + 3))), .int (renA L (xs (i + 1)) (xs (i + 2)) (xs (i + 3)))]) rfl ?_
        refine lv_icmp_eq (tgt := 519) hx hb dL_law_346 (by decide) (fun hc7 => ?_) (fun hc7 => ?_)
        · refine lv_iinc (v := nI (i + 5)) (lv' := [(3, .int (nI (i + 5))), (0, .ref b), (1, .ref (a 27)), (2, .ref (b9 0))]) hx hb dL_law_519 hl (k := 3) rfl (nI_add i 5) (by decide) rfl (fun ls hl => ?_)
          refine lv_goto (tgt := 18) hx hb dL_law_522 (by decide) ?_
          exact ih (i + 5) (renL L (xs (i + 1)) (xs (i + 2)) (xs (i + 3))) H2 locs ls (by omega) (by omega) (nd_ren hNd _ _ _) ⟨p2, N2, B2, F2, q, r, V, n0, Hd, C, w, k0, cs, sn, hTI2, hPA⟩ ⟨lf2, rt2, lo, ro, fo, no, lm, rm, pa, mt, qm, cf, fa, kp2, hMI2, hP2⟩ hS (lv_sub hl [1, 2, 3, 0] rfl)
        · exact absurd (rfl) hc7
      · refine lv_tableIn (tgt := 351) hx hb dL_law_32 (by decide) (by decide) (off := 319) (by decide) (by decide) ?_
        refine lv_aload_n hx hb dL_law_351 rfl (lv_at hl 1 rfl) ?_
        refine lv_aload_n hx hb dL_law_352 rfl (lv_at hl 0 rfl) ?_
        refine lv_iload_n hx hb dL_law_353 rfl (lv_at hl 3 rfl) ?_
        refine lv_iconst (v := nI 1) hx hb dL_law_354 rfl ?_
        refine lv_iadd hx hb dL_law_355 ?_
        refine z_top (y := nI (i + 1)) (nI_add _ _) ?_
        refine va_sld hx hb hX hbl hbA hS (vp_in_nI (show i + 1 < Ls by omega) (by omega)) dL_law_356 ?_
        refine z_top (y := xs (i + 1)) (by rw [nI_clamp (by omega)]) ?_
        refine lv_aload_n hx hb dL_law_357 rfl (lv_at hl 0 rfl) ?_
        refine lv_iload_n hx hb dL_law_358 rfl (lv_at hl 3 rfl) ?_
        refine lv_iconst (v := nI 2) hx hb dL_law_359 rfl ?_
        refine lv_iadd hx hb dL_law_360 ?_
        refine z_top (y := nI (i + 2)) (nI_add _ _) ?_
        refine va_sld hx hb hX hbl hbA hS (vp_in_nI (show i + 2 < Ls by omega) (by omega)) dL_law_361 ?_
        refine z_top (y := xs (i + 2)) (by rw [nI_clamp (by omega)]) ?_
        refine z_callV (rest := []) 2 ⟨hx, hb, hml, hown, hts⟩ hK (c_at l G a p N B F L hTI (xs (i + 1)) (xs (i + 2)) ) gL_law_X3_at rfl (by decide +kernel) ⟨Nat.le_of_ble_eq_true rfl, Nat.le_of_ble_eq_true rfl⟩ (hPA.sub (ws' := cT G a p N B F L.length ++ cP a) [0, 1, 2, 3, 4, 5, 6, 7, 8, 9, 10, 27] rfl) 11 rfl rfl rfl rfl hl.1 rfl (Nat.le_of_ble_eq_true rfl) dL_law_362 ⟨Nat.le_of_ble_eq_true rfl, Nat.le_of_ble_eq_true rfl⟩ hS (fun _ h => h.elim) (fun v9 H1 locs hR9 hk9 hS => ?_)
        obtain rfl := hR9
        have hPA := P_keep0 hPA hk9
        have hPR := P_keep0 hPR hk9
        refine W.eq (g2 := F0 m 365 ls [.int (atA L (xs (i + 1)) (xs (i + 2)))]) rfl ?_
        refine lv_aload_n hx hb dL_law_365 rfl (lv_at hl 2 rfl) ?_
        refine lv_aload_n hx hb dL_law_366 rfl (lv_at hl 0 rfl) ?_
        refine lv_iload_n hx hb dL_law_367 rfl (lv_at hl 3 rfl) ?_
        refine lv_iconst (v := nI 1) hx hb dL_law_368 rfl ?_
        refine lv_iadd hx hb dL_law_369 ?_
        refine z_top (y := nI (i + 1)) (nI_add _ _) ?_
        refine va_sld hx hb hX hbl hbA hS (vp_in_nI (show i + 1 < Ls by omega) (by omega)) dL_law_370 ?_
        refine z_top (y := xs (i + 1)) (by rw [nI_clamp (by omega)]) ?_
        refine lv_aload_n hx hb dL_law_371 rfl (lv_at hl 0 rfl) ?_
        refine lv_iload_n hx hb dL_law_372 rfl (lv_at hl 3 rfl) ?_
        refine lv_iconst (v := nI 2) hx hb dL_law_373 rfl ?_
        refine lv_iadd hx hb dL_law_374 ?_
        refine z_top (y := nI (i + 2)) (nI_add _ _) ?_
        refine va_sld hx hb hX hbl hbA hS (vp_in_nI (show i + 2 < Ls by omega) (by omega)) dL_law_375 ?_
        refine z_top (y := xs (i + 2)) (by rw [nI_clamp (by omega)]) ?_
        refine z_callV (rest := [.int (atA L (xs (i + 1)) (xs (i + 2)))]) 2 ⟨hx, hb, hml, hown, hts⟩ hK (c_Rat l G b9 lf rt lo ro fo no lm rm pa mt qm cf fa kp L hMI (xs (i + 1)) (xs (i + 2)) ) gL_law_X4_at rfl (by decide +kernel) ⟨Nat.le_of_ble_eq_true rfl, Nat.le_of_ble_eq_true rfl⟩ hPR 0 rfl rfl rfl rfl hl.1 rfl (Nat.le_of_ble_eq_true rfl) dL_law_376 ⟨Nat.le_of_ble_eq_true rfl, Nat.le_of_ble_eq_true rfl⟩ hS (fun _ h => h.elim) (fun v9 H2 locs hR9 hk9 hS => ?_)
        obtain rfl := hR9
        have hPA := P_keep0 hPA hk9
        have hP2 := P_keep0 hPR hk9
        refine W.eq (g2 := F0 m 379 ls [.int (atA L (xs (i + 1)) (xs (i + 2))), .int (atA L (xs (i + 1)) (xs (i + 2)))]) rfl ?_
        refine lv_icmp_eq (tgt := 519) hx hb dL_law_379 (by decide) (fun hc8 => ?_) (fun hc8 => ?_)
        · refine lv_iinc (v := nI (i + 5)) (lv' := [(3, .int (nI (i + 5))), (0, .ref b), (1, .ref (a 27)), (2, .ref (b9 0))]) hx hb dL_law_519 hl (k := 3) rfl (nI_add i 5) (by decide) rfl (fun ls hl => ?_)
          refine lv_goto (tgt := 18) hx hb dL_law_522 (by decide) ?_
          exact ih (i + 5) (L) H2 locs ls (by omega) (by omega) (hNd) ⟨p, N, B, F, q, r, V, n0, Hd, C, w, k0, cs, sn, hTI, hPA⟩ ⟨lf, rt, lo, ro, fo, no, lm, rm, pa, mt, qm, cf, fa, kp, hMI, hP2⟩ hS (lv_sub hl [1, 2, 3, 0] rfl)
        · exact absurd (rfl) hc8
      · refine lv_tableIn (tgt := 384) hx hb dL_law_32 (by decide) (by decide) (off := 352) (by decide) (by decide) ?_
        refine lv_aload_n hx hb dL_law_384 rfl (lv_at hl 1 rfl) ?_
        refine lv_aload_n hx hb dL_law_385 rfl (lv_at hl 0 rfl) ?_
        refine lv_iload_n hx hb dL_law_386 rfl (lv_at hl 3 rfl) ?_
        refine lv_iconst (v := nI 1) hx hb dL_law_387 rfl ?_
        refine lv_iadd hx hb dL_law_388 ?_
        refine z_top (y := nI (i + 1)) (nI_add _ _) ?_
        refine va_sld hx hb hX hbl hbA hS (vp_in_nI (show i + 1 < Ls by omega) (by omega)) dL_law_389 ?_
        refine z_top (y := xs (i + 1)) (by rw [nI_clamp (by omega)]) ?_
        refine z_callV (rest := []) 1 ⟨hx, hb, hml, hown, hts⟩ hK (c_count l G a p N B F q r V n0 Hd C w k0 cs sn L hTI (xs (i + 1)) hndA) gL_law_X3_count rfl (by decide +kernel) ⟨Nat.le_of_ble_eq_true rfl, Nat.le_of_ble_eq_true rfl⟩ hPA 27 rfl rfl rfl rfl hl.1 rfl (Nat.le_of_ble_eq_true rfl) dL_law_390 ⟨Nat.le_of_ble_eq_true rfl, Nat.le_of_ble_eq_true rfl⟩ hS (fun x h => hge x h) (fun v9 H1 locs hR9 hk9 hS => ?_)
        obtain ⟨z1, rfl, hz1, p2, N2, B2, F2, q2, r2, V2, n2, Hd2, C2, w2, k2, cs2, sn2, hTI2, hP1⟩ := hR9
        have hPA := hP1
        have hPR := P_keep hPR hk9 (fun x h1 h2 => hdis x h2 h1)
        refine W.eq (g2 := F0 m 393 ls [.int (z1)]) rfl ?_
        refine lv_aload_n hx hb dL_law_393 rfl (lv_at hl 2 rfl) ?_
        refine lv_aload_n hx hb dL_law_394 rfl (lv_at hl 0 rfl) ?_
        refine lv_iload_n hx hb dL_law_395 rfl (lv_at hl 3 rfl) ?_
        refine lv_iconst (v := nI 1) hx hb dL_law_396 rfl ?_
        refine lv_iadd hx hb dL_law_397 ?_
        refine z_top (y := nI (i + 1)) (nI_add _ _) ?_
        refine va_sld hx hb hX hbl hbA hS (vp_in_nI (show i + 1 < Ls by omega) (by omega)) dL_law_398 ?_
        refine z_top (y := xs (i + 1)) (by rw [nI_clamp (by omega)]) ?_
        refine z_callV (rest := [.int (z1)]) 1 ⟨hx, hb, hml, hown, hts⟩ hK (c_Rcount l G b9 lf rt lo ro fo no lm rm pa mt qm cf fa kp L hMI (xs (i + 1)) hndR) gL_law_X4_count rfl (by decide +kernel) ⟨Nat.le_of_ble_eq_true rfl, Nat.le_of_ble_eq_true rfl⟩ hPR 0 rfl rfl rfl rfl hl.1 rfl (Nat.le_of_ble_eq_true rfl) dL_law_399 ⟨Nat.le_of_ble_eq_true rfl, Nat.le_of_ble_eq_true rfl⟩ hS (fun x h => hgeR x h) (fun v9 H2 locs hR9 hk9 hS => ?_)
        obtain ⟨z2, rfl, hz2, hRL2⟩ := hR9
        have hPA := P_keep hPA hk9 (fun x h1 h2 => hdis x h1 h2)
        refine W.eq (g2 := F0 m 402 ls [.int (z2), .int (z1)]) rfl ?_
        refine lv_icmp_eq (tgt := 519) hx hb dL_law_402 (by decide) (fun hc9 => ?_) (fun hc9 => ?_)
        · refine lv_iinc (v := nI (i + 5)) (lv' := [(3, .int (nI (i + 5))), (0, .ref b), (1, .ref (a 27)), (2, .ref (b9 0))]) hx hb dL_law_519 hl (k := 3) rfl (nI_add i 5) (by decide) rfl (fun ls hl => ?_)
          refine lv_goto (tgt := 18) hx hb dL_law_522 (by decide) ?_
          exact ih (i + 5) (L) H2 locs ls (by omega) (by omega) (hNd) ⟨p2, N2, B2, F2, q2, r2, V2, n2, Hd2, C2, w2, k2, cs2, sn2, hTI2, hPA⟩ hRL2 hS (lv_sub hl [1, 2, 3, 0] rfl)
        · exact absurd (countR_uniq hz1 hz2) hc9
      · refine lv_tableIn (tgt := 407) hx hb dL_law_32 (by decide) (by decide) (off := 375) (by decide) (by decide) ?_
        refine lv_aload_n hx hb dL_law_407 rfl (lv_at hl 1 rfl) ?_
        refine lv_aload_n hx hb dL_law_408 rfl (lv_at hl 0 rfl) ?_
        refine lv_iload_n hx hb dL_law_409 rfl (lv_at hl 3 rfl) ?_
        refine lv_iconst (v := nI 1) hx hb dL_law_410 rfl ?_
        refine lv_iadd hx hb dL_law_411 ?_
        refine z_top (y := nI (i + 1)) (nI_add _ _) ?_
        refine va_sld hx hb hX hbl hbA hS (vp_in_nI (show i + 1 < Ls by omega) (by omega)) dL_law_412 ?_
        refine z_top (y := xs (i + 1)) (by rw [nI_clamp (by omega)]) ?_
        refine lv_aload_n hx hb dL_law_413 rfl (lv_at hl 0 rfl) ?_
        refine lv_iload_n hx hb dL_law_414 rfl (lv_at hl 3 rfl) ?_
        refine lv_iconst (v := nI 2) hx hb dL_law_415 rfl ?_
        refine lv_iadd hx hb dL_law_416 ?_
        refine z_top (y := nI (i + 2)) (nI_add _ _) ?_
        refine va_sld hx hb hX hbl hbA hS (vp_in_nI (show i + 2 < Ls by omega) (by omega)) dL_law_417 ?_
        refine z_top (y := xs (i + 2)) (by rw [nI_clamp (by omega)]) ?_
        refine z_callV (rest := []) 2 ⟨hx, hb, hml, hown, hts⟩ hK (c_part l G a p N B F q r V n0 Hd C w k0 cs sn L hTI (xs (i + 1)) (xs (i + 2)) hndA) gL_law_X3_part rfl (by decide +kernel) ⟨Nat.le_of_ble_eq_true rfl, Nat.le_of_ble_eq_true rfl⟩ hPA 27 rfl rfl rfl rfl hl.1 rfl (Nat.le_of_ble_eq_true rfl) dL_law_418 ⟨Nat.le_of_ble_eq_true rfl, Nat.le_of_ble_eq_true rfl⟩ hS (fun x h => hge x h) (fun v9 H1 locs hR9 hk9 hS => ?_)
        obtain ⟨z1, rfl, hz1, p2, N2, B2, F2, q2, r2, V2, n2, Hd2, C2, w2, k2, cs2, sn2, hTI2, hP1⟩ := hR9
        have hPA := hP1
        have hPR := P_keep hPR hk9 (fun x h1 h2 => hdis x h2 h1)
        refine W.eq (g2 := F0 m 421 ls [.int (nI z1)]) rfl ?_
        refine lv_aload_n hx hb dL_law_421 rfl (lv_at hl 2 rfl) ?_
        refine lv_aload_n hx hb dL_law_422 rfl (lv_at hl 0 rfl) ?_
        refine lv_iload_n hx hb dL_law_423 rfl (lv_at hl 3 rfl) ?_
        refine lv_iconst (v := nI 1) hx hb dL_law_424 rfl ?_
        refine lv_iadd hx hb dL_law_425 ?_
        refine z_top (y := nI (i + 1)) (nI_add _ _) ?_
        refine va_sld hx hb hX hbl hbA hS (vp_in_nI (show i + 1 < Ls by omega) (by omega)) dL_law_426 ?_
        refine z_top (y := xs (i + 1)) (by rw [nI_clamp (by omega)]) ?_
        refine lv_aload_n hx hb dL_law_427 rfl (lv_at hl 0 rfl) ?_
        refine lv_iload_n hx hb dL_law_428 rfl (lv_at hl 3 rfl) ?_
        refine lv_iconst (v := nI 2) hx hb dL_law_429 rfl ?_
        refine lv_iadd hx hb dL_law_430 ?_
        refine z_top (y := nI (i + 2)) (nI_add _ _) ?_
        refine va_sld hx hb hX hbl hbA hS (vp_in_nI (show i + 2 < Ls by omega) (by omega)) dL_law_431 ?_
        refine z_top (y := xs (i + 2)) (by rw [nI_clamp (by omega)]) ?_
        refine z_callV (rest := [.int (nI z1)]) 2 ⟨hx, hb, hml, hown, hts⟩ hK (c_Rpart l G b9 lf rt lo ro fo no lm rm pa mt qm cf fa kp L hMI (xs (i + 1)) (xs (i + 2)) hndR) gL_law_X4_part rfl (by decide +kernel) ⟨Nat.le_of_ble_eq_true rfl, Nat.le_of_ble_eq_true rfl⟩ hPR 0 rfl rfl rfl rfl hl.1 rfl (Nat.le_of_ble_eq_true rfl) dL_law_432 ⟨Nat.le_of_ble_eq_true rfl, Nat.le_of_ble_eq_true rfl⟩ hS (fun x h => hgeR x h) (fun v9 H2 locs hR9 hk9 hS => ?_)
        obtain ⟨z2, rfl, hz2, qm2, fa2, hP2⟩ := hR9
        have hPA := P_keep hPA hk9 (fun x h1 h2 => hdis x h1 h2)
        refine W.eq (g2 := F0 m 435 ls [.int (nI z2), .int (nI z1)]) rfl ?_
        refine lv_icmp_eq (tgt := 519) hx hb dL_law_435 (by decide) (fun hc10 => ?_) (fun hc10 => ?_)
        · refine lv_iinc (v := nI (i + 5)) (lv' := [(3, .int (nI (i + 5))), (0, .ref b), (1, .ref (a 27)), (2, .ref (b9 0))]) hx hb dL_law_519 hl (k := 3) rfl (nI_add i 5) (by decide) rfl (fun ls hl => ?_)
          refine lv_goto (tgt := 18) hx hb dL_law_522 (by decide) ?_
          exact ih (i + 5) (L) H2 locs ls (by omega) (by omega) (hNd) ⟨p2, N2, B2, F2, q2, r2, V2, n2, Hd2, C2, w2, k2, cs2, sn2, hTI2, hPA⟩ ⟨lf, rt, lo, ro, fo, no, lm, rm, pa, mt, qm2, cf, fa2, kp, hMI, hP2⟩ hS (lv_sub hl [1, 2, 3, 0] rfl)
        · exact absurd (congrArg nI (partR_uniq hz1 hz2)) hc10
      · refine lv_tableIn (tgt := 440) hx hb dL_law_32 (by decide) (by decide) (off := 408) (by decide) (by decide) ?_
        refine lv_aload_n hx hb dL_law_440 rfl (lv_at hl 1 rfl) ?_
        refine lv_aload_n hx hb dL_law_441 rfl (lv_at hl 0 rfl) ?_
        refine lv_iload_n hx hb dL_law_442 rfl (lv_at hl 3 rfl) ?_
        refine lv_iconst (v := nI 1) hx hb dL_law_443 rfl ?_
        refine lv_iadd hx hb dL_law_444 ?_
        refine z_top (y := nI (i + 1)) (nI_add _ _) ?_
        refine va_sld hx hb hX hbl hbA hS (vp_in_nI (show i + 1 < Ls by omega) (by omega)) dL_law_445 ?_
        refine z_top (y := xs (i + 1)) (by rw [nI_clamp (by omega)]) ?_
        refine lv_aload_n hx hb dL_law_446 rfl (lv_at hl 0 rfl) ?_
        refine lv_iload_n hx hb dL_law_447 rfl (lv_at hl 3 rfl) ?_
        refine lv_iconst (v := nI 2) hx hb dL_law_448 rfl ?_
        refine lv_iadd hx hb dL_law_449 ?_
        refine z_top (y := nI (i + 2)) (nI_add _ _) ?_
        refine va_sld hx hb hX hbl hbA hS (vp_in_nI (show i + 2 < Ls by omega) (by omega)) dL_law_450 ?_
        refine z_top (y := xs (i + 2)) (by rw [nI_clamp (by omega)]) ?_
        refine lv_aload_n hx hb dL_law_451 rfl (lv_at hl 0 rfl) ?_
        refine lv_iload_n hx hb dL_law_452 rfl (lv_at hl 3 rfl) ?_
        refine lv_iconst (v := nI 3) hx hb dL_law_453 rfl ?_
        refine lv_iadd hx hb dL_law_454 ?_
        refine z_top (y := nI (i + 3)) (nI_add _ _) ?_
        refine va_sld hx hb hX hbl hbA hS (vp_in_nI (show i + 3 < Ls by omega) (by omega)) dL_law_455 ?_
        refine z_top (y := xs (i + 3)) (by rw [nI_clamp (by omega)]) ?_
        refine lv_aload_n hx hb dL_law_456 rfl (lv_at hl 0 rfl) ?_
        refine lv_iload_n hx hb dL_law_457 rfl (lv_at hl 3 rfl) ?_
        refine lv_iconst (v := nI 4) hx hb dL_law_458 rfl ?_
        refine lv_iadd hx hb dL_law_459 ?_
        refine z_top (y := nI (i + 4)) (nI_add _ _) ?_
        refine va_sld hx hb hX hbl hbA hS (vp_in_nI (show i + 4 < Ls by omega) (by omega)) dL_law_460 ?_
        refine z_top (y := xs (i + 4)) (by rw [nI_clamp (by omega)]) ?_
        refine z_callV (rest := []) 4 ⟨hx, hb, hml, hown, hts⟩ hK (c_way l G a p N B F q r V n0 Hd C w k0 cs sn L hTI (xs (i + 1)) (xs (i + 2)) (xs (i + 3)) (xs (i + 4)) hndA) gL_law_X3_way rfl (by decide +kernel) ⟨Nat.le_of_ble_eq_true rfl, Nat.le_of_ble_eq_true rfl⟩ hPA 27 rfl rfl rfl rfl hl.1 rfl (Nat.le_of_ble_eq_true rfl) dL_law_461 ⟨Nat.le_of_ble_eq_true rfl, Nat.le_of_ble_eq_true rfl⟩ hS (fun x h => hge x h) (fun v9 H1 locs hR9 hk9 hS => ?_)
        obtain ⟨z1, rfl, hz1, p2, N2, B2, F2, q2, r2, V2, n2, Hd2, C2, w2, k2, cs2, sn2, hTI2, hP1⟩ := hR9
        have hPA := hP1
        have hPR := P_keep hPR hk9 (fun x h1 h2 => hdis x h2 h1)
        refine W.eq (g2 := F0 m 464 ls [.int (nI z1)]) rfl ?_
        refine lv_aload_n hx hb dL_law_464 rfl (lv_at hl 2 rfl) ?_
        refine lv_aload_n hx hb dL_law_465 rfl (lv_at hl 0 rfl) ?_
        refine lv_iload_n hx hb dL_law_466 rfl (lv_at hl 3 rfl) ?_
        refine lv_iconst (v := nI 1) hx hb dL_law_467 rfl ?_
        refine lv_iadd hx hb dL_law_468 ?_
        refine z_top (y := nI (i + 1)) (nI_add _ _) ?_
        refine va_sld hx hb hX hbl hbA hS (vp_in_nI (show i + 1 < Ls by omega) (by omega)) dL_law_469 ?_
        refine z_top (y := xs (i + 1)) (by rw [nI_clamp (by omega)]) ?_
        refine lv_aload_n hx hb dL_law_470 rfl (lv_at hl 0 rfl) ?_
        refine lv_iload_n hx hb dL_law_471 rfl (lv_at hl 3 rfl) ?_
        refine lv_iconst (v := nI 2) hx hb dL_law_472 rfl ?_
        refine lv_iadd hx hb dL_law_473 ?_
        refine z_top (y := nI (i + 2)) (nI_add _ _) ?_
        refine va_sld hx hb hX hbl hbA hS (vp_in_nI (show i + 2 < Ls by omega) (by omega)) dL_law_474 ?_
        refine z_top (y := xs (i + 2)) (by rw [nI_clamp (by omega)]) ?_
        refine lv_aload_n hx hb dL_law_475 rfl (lv_at hl 0 rfl) ?_
        refine lv_iload_n hx hb dL_law_476 rfl (lv_at hl 3 rfl) ?_
        refine lv_iconst (v := nI 3) hx hb dL_law_477 rfl ?_
        refine lv_iadd hx hb dL_law_478 ?_
        refine z_top (y := nI (i + 3)) (nI_add _ _) ?_
        refine va_sld hx hb hX hbl hbA hS (vp_in_nI (show i + 3 < Ls by omega) (by omega)) dL_law_479 ?_
        refine z_top (y := xs (i + 3)) (by rw [nI_clamp (by omega)]) ?_
        refine lv_aload_n hx hb dL_law_480 rfl (lv_at hl 0 rfl) ?_
        refine lv_iload_n hx hb dL_law_481 rfl (lv_at hl 3 rfl) ?_
        refine lv_iconst (v := nI 4) hx hb dL_law_482 rfl ?_
        refine lv_iadd hx hb dL_law_483 ?_
        refine z_top (y := nI (i + 4)) (nI_add _ _) ?_
        refine va_sld hx hb hX hbl hbA hS (vp_in_nI (show i + 4 < Ls by omega) (by omega)) dL_law_484 ?_
        refine z_top (y := xs (i + 4)) (by rw [nI_clamp (by omega)]) ?_
        refine z_callV (rest := [.int (nI z1)]) 4 ⟨hx, hb, hml, hown, hts⟩ hK (c_Rway l G b9 lf rt lo ro fo no lm rm pa mt qm cf fa kp L hMI (xs (i + 1)) (xs (i + 2)) (xs (i + 3)) (xs (i + 4)) hndR) gL_law_X4_way rfl (by decide +kernel) ⟨Nat.le_of_ble_eq_true rfl, Nat.le_of_ble_eq_true rfl⟩ hPR 0 rfl rfl rfl rfl hl.1 rfl (Nat.le_of_ble_eq_true rfl) dL_law_485 ⟨Nat.le_of_ble_eq_true rfl, Nat.le_of_ble_eq_true rfl⟩ hS (fun x h => hgeR x h) (fun v9 H2 locs hR9 hk9 hS => ?_)
        obtain ⟨z2, rfl, hz2, qm2, fa2, hP2⟩ := hR9
        have hPA := P_keep hPA hk9 (fun x h1 h2 => hdis x h1 h2)
        refine W.eq (g2 := F0 m 488 ls [.int (nI z2), .int (nI z1)]) rfl ?_
        refine lv_icmp_eq (tgt := 519) hx hb dL_law_488 (by decide) (fun hc11 => ?_) (fun hc11 => ?_)
        · refine lv_iinc (v := nI (i + 5)) (lv' := [(3, .int (nI (i + 5))), (0, .ref b), (1, .ref (a 27)), (2, .ref (b9 0))]) hx hb dL_law_519 hl (k := 3) rfl (nI_add i 5) (by decide) rfl (fun ls hl => ?_)
          refine lv_goto (tgt := 18) hx hb dL_law_522 (by decide) ?_
          exact ih (i + 5) (L) H2 locs ls (by omega) (by omega) (hNd) ⟨p2, N2, B2, F2, q2, r2, V2, n2, Hd2, C2, w2, k2, cs2, sn2, hTI2, hPA⟩ ⟨lf, rt, lo, ro, fo, no, lm, rm, pa, mt, qm2, cf, fa2, kp, hMI, hP2⟩ hS (lv_sub hl [1, 2, 3, 0] rfl)
        · exact absurd (congrArg nI (wayR_uniq hz1 hz2)) hc11
      · refine lv_tableIn (tgt := 493) hx hb dL_law_32 (by decide) (by decide) (off := 461) (by decide) (by decide) ?_
        refine lv_aload_n hx hb dL_law_493 rfl (lv_at hl 1 rfl) ?_
        refine z_callV (rest := []) 0 ⟨hx, hb, hml, hown, hts⟩ hK (c_clear l G a p N B F L hTI  (aA_5 hndA)) gL_law_X3_clear rfl (by decide +kernel) ⟨Nat.le_of_ble_eq_true rfl, Nat.le_of_ble_eq_true rfl⟩ (hPA.sub (ws' := cT G a p N B F L.length ++ cP a) [0, 1, 2, 3, 4, 5, 6, 7, 8, 9, 10, 27] rfl) 11 rfl rfl rfl rfl hl.1 rfl (Nat.le_of_ble_eq_true rfl) dL_law_494 ⟨Nat.le_of_ble_eq_true rfl, Nat.le_of_ble_eq_true rfl⟩ hS (fun x h => hge x (aP_in x h)) (fun v9 H1 locs hR9 hk9 hS => ?_)
        obtain ⟨rfl, p2, N2, B2, F2, hTI2, hP1⟩ := hR9
        have hPk := P_keep (hPA.sub (ws' := cS G a q r V n0 ++ cM G a Hd C w k0 cs sn) [11, 12, 13, 14, 15, 16, 17, 18, 19, 20, 21, 22, 23, 24, 25, 26] rfl) hk9 (aA_6 hndA)
        have hPA := (hP1.app hPk).sub (ws' := cT G a p2 N2 B2 F2 ([] : List Pr).length ++ (cS G a q r V n0 ++ (cM G a Hd C w k0 cs sn ++ cP a))) [0, 1, 2, 3, 4, 5, 6, 7, 8, 9, 10, 12, 13, 14, 15, 16, 17, 18, 19, 20, 21, 22, 23, 24, 25, 26, 27, 11] rfl
        have hPR := P_keep hPR hk9 (fun x h1 h2 => hdis x (aP_in x h2) h1)
        refine W.eq (g2 := F0 m 497 ls [.int (nI L.length)]) rfl ?_
        refine lv_aload_n hx hb dL_law_497 rfl (lv_at hl 2 rfl) ?_
        refine z_callV (rest := [.int (nI L.length)]) 0 ⟨hx, hb, hml, hown, hts⟩ hK (c_Rclear l G b9 lf rt lo ro fo no lm rm pa mt qm cf fa kp L hMI  hndR) gL_law_X4_clear rfl (by decide +kernel) ⟨Nat.le_of_ble_eq_true rfl, Nat.le_of_ble_eq_true rfl⟩ hPR 0 rfl rfl rfl rfl hl.1 rfl (Nat.le_of_ble_eq_true rfl) dL_law_498 ⟨Nat.le_of_ble_eq_true rfl, Nat.le_of_ble_eq_true rfl⟩ hS (fun x h => hgeR x h) (fun v9 H2 locs hR9 hk9 hS => ?_)
        obtain ⟨rfl, lf2, rt2, hMI2, hP2⟩ := hR9
        have hPA := P_keep hPA hk9 (fun x h1 h2 => hdis x h1 h2)
        refine W.eq (g2 := F0 m 501 ls [.int (nI L.length), .int (nI L.length)]) rfl ?_
        refine lv_icmp_eq (tgt := 519) hx hb dL_law_501 (by decide) (fun hc12 => ?_) (fun hc12 => ?_)
        · refine lv_iinc (v := nI (i + 5)) (lv' := [(3, .int (nI (i + 5))), (0, .ref b), (1, .ref (a 27)), (2, .ref (b9 0))]) hx hb dL_law_519 hl (k := 3) rfl (nI_add i 5) (by decide) rfl (fun ls hl => ?_)
          refine lv_goto (tgt := 18) hx hb dL_law_522 (by decide) ?_
          exact ih (i + 5) (([] : List Pr)) H2 locs ls (by omega) (by omega) (List.nodup_nil) ⟨p2, N2, B2, F2, q, r, V, n0, Hd, C, w, k0, cs, sn, hTI2, hPA⟩ ⟨lf2, rt2, lo, ro, fo, no, lm, rm, pa, mt, qm, cf, fa, kp, hMI2, hP2⟩ hS (lv_sub hl [1, 2, 3, 0] rfl)
        · exact absurd (rfl) hc12
      · refine lv_tableIn (tgt := 506) hx hb dL_law_32 (by decide) (by decide) (off := 474) (by decide) (by decide) ?_
        refine lv_aload_n hx hb dL_law_506 rfl (lv_at hl 1 rfl) ?_
        refine z_callV (rest := []) 0 ⟨hx, hb, hml, hown, hts⟩ hK (c_check l G a p N B F L hTI  ) gL_law_X3_check rfl (by decide +kernel) ⟨Nat.le_of_ble_eq_true rfl, Nat.le_of_ble_eq_true rfl⟩ (hPA.sub (ws' := cT G a p N B F L.length ++ cP a) [0, 1, 2, 3, 4, 5, 6, 7, 8, 9, 10, 27] rfl) 11 rfl rfl rfl rfl hl.1 rfl (Nat.le_of_ble_eq_true rfl) dL_law_507 ⟨Nat.le_of_ble_eq_true rfl, Nat.le_of_ble_eq_true rfl⟩ hS (fun _ h => h.elim) (fun v9 H1 locs hR9 hk9 hS => ?_)
        obtain rfl := hR9
        have hPA := P_keep0 hPA hk9
        have hPR := P_keep0 hPR hk9
        refine W.eq (g2 := F0 m 510 ls [.int (nI 1)]) rfl ?_
        refine lv_aload_n hx hb dL_law_510 rfl (lv_at hl 2 rfl) ?_
        refine z_callV (rest := [.int (nI 1)]) 0 ⟨hx, hb, hml, hown, hts⟩ hK (c_Rcheck l G b9 lf rt lo ro fo no lm rm pa mt qm cf fa kp L hMI  ) gL_law_X4_check rfl (by decide +kernel) ⟨Nat.le_of_ble_eq_true rfl, Nat.le_of_ble_eq_true rfl⟩ hPR 0 rfl rfl rfl rfl hl.1 rfl (Nat.le_of_ble_eq_true rfl) dL_law_511 ⟨Nat.le_of_ble_eq_true rfl, Nat.le_of_ble_eq_true rfl⟩ hS (fun _ h => h.elim) (fun v9 H2 locs hR9 hk9 hS => ?_)
        obtain rfl := hR9
        have hPA := P_keep0 hPA hk9
        have hP2 := P_keep0 hPR hk9
        refine W.eq (g2 := F0 m 514 ls [.int (nI 1), .int (nI 1)]) rfl ?_
        refine lv_icmp_eq (tgt := 519) hx hb dL_law_514 (by decide) (fun hc13 => ?_) (fun hc13 => ?_)
        · refine lv_iinc (v := nI (i + 5)) (lv' := [(3, .int (nI (i + 5))), (0, .ref b), (1, .ref (a 27)), (2, .ref (b9 0))]) hx hb dL_law_519 hl (k := 3) rfl (nI_add i 5) (by decide) rfl (fun ls hl => ?_)
          refine lv_goto (tgt := 18) hx hb dL_law_522 (by decide) ?_
          exact ih (i + 5) (L) H2 locs ls (by omega) (by omega) (hNd) ⟨p, N, B, F, q, r, V, n0, Hd, C, w, k0, cs, sn, hTI, hPA⟩ ⟨lf, rt, lo, ro, fo, no, lm, rm, pa, mt, qm, cf, fa, kp, hMI, hP2⟩ hS (lv_sub hl [1, 2, 3, 0] rfl)
        · exact absurd (rfl) hc13
      · refine lv_tableOut (tgt := 519) hx hb dL_law_32 (Or.inr (by rw [nI_toInt (by omega)]; omega)) (by decide) ?_
        refine lv_iinc (v := nI (i + 5)) (lv' := [(3, .int (nI (i + 5))), (0, .ref b), (1, .ref (a 27)), (2, .ref (b9 0))]) hx hb dL_law_519 hl (k := 3) rfl (nI_add i 5) (by decide) rfl (fun ls hl => ?_)
        refine lv_goto (tgt := 18) hx hb dL_law_522 (by decide) ?_
        exact ih (i + 5) L H locs ls (by omega) (by omega) hNd ⟨p, N, B, F, q, r, V, n0, Hd, C, w, k0, cs, sn, hTI, hPA⟩ ⟨lf, rt, lo, ro, fo, no, lm, rm, pa, mt, qm, cf, fa, kp, hMI, hPR⟩ hS (lv_sub hl [1, 2, 3, 0] rfl)
