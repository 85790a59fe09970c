set_option maxHeartbeats 4000000 in
set_option maxRecDepth 100000 in
/-- the law at a call of giveBack -/
theorem lc_giveBack {p : Program} {l : Launch} {e : Env} {s : State} {m : MethodId} {below : List Frame} {meth : Method} {c : Code} {b0 L : Nat} {xs : Nat → Int32} {D : va_G} {ac : Nat → ClassId} (E : LEn p l s m c b0 L xs D ac) {Q : State → Prop} {x9 m9 b9 cn i c0 s0 : Nat} {H : Heap} {locs : List Loc} {ls : Array Slot} (hI : LIv D ac s x9 m9 b9 cn H) (hS : va_S (Lo s) s.heap H locs) (hl : lv_has ls 7 [(0, .ref b0), (1, .ref x9), (2, .ref m9), (3, .ref b9), (4, .int (nI i))]) (hi : i + 5 ≤ L) (hcn : cn + 1 < 1000) (hc : c0 + 8 ≤ room_1.cells) (hs : s0 + 42 ≤ room_1.slots) (K : ∀ (H1 : Heap) (locs1 : List Loc) (ls1 : Array Slot), LIv D ac s x9 m9 b9 (cn + 1) H1 → va_S (Lo s) s.heap H1 locs1 → lv_has ls1 7 [(0, .ref b0), (1, .ref x9), (2, .ref m9), (3, .ref b9), (4, .int (nI i))] → W p l e room_1 s m #[Value.ref b0] below meth c H1 locs1 (c0 + 8) (s0 + 42) Q (F0 m 1900 ls1 [])) : W p l e room_1 s m #[Value.ref b0] below meth c H locs c0 s0 Q (F0 m 637 ls []) := by
  obtain ⟨hx, hb, hml, hown, hts, hlt, hK, hX, hC, hX0, hbl, hL9⟩ := E
  obtain ⟨N, adr, w, f, adm, sf, af, rfl, rfl, hL, dl, dw, fs, fr, ft, ns, so, hv, nd, du, T, nr, rq, nq, oq, pd, er, no, oc, on_, owd, obf, rb, st, mt, co, py, hd, le, pr, ra, hR, hJ, rfl⟩ := hI
  have hbA : ¬ Lo s b0 := Nat.not_le.mpr hbl
  refine lv_aload_n hx hb dL_law_637 rfl (lv_at hl 1 rfl) ?_
  refine lv_aload_n hx hb dL_law_638 rfl (lv_at hl 0 rfl) ?_
  refine lv_iload hx hb dL_law_639 (lv_at hl 4 rfl) ?_
  refine lv_iconst (v := 1) hx hb dL_law_641 (by decide) ?_
  refine lv_iadd hx hb dL_law_642 ?_
  refine m_top (show nI i + 1 = nI (i + 1) from by rw [show (1 : Int32) = nI 1 from rfl, nI_add]) ?_
  refine va_sld hx hb hX0 hbl hbA hS (vp_in_nI (show (i + 1) < L by omega) (by omega)) dL_law_643 ?_
  refine m_top (show xs (nI (i + 1)).toNatClampNeg = xs (i + 1) from by rw [nI_clamp (by omega)]) ?_
  refine lv_aload_n hx hb dL_law_644 rfl (lv_at hl 3 rfl) ?_
  refine law_help (vx_runSW (hh := [(0, 9, 12, 13), (0, 9, 15, 15)]) (As := [.ref (adr 0), .int (xs (i + 1)), .ref b9]) (rest := []) ⟨hx, hb, hml, hown, hts⟩ (kL_giveBack l D ac _ (Ax (Lo s) adm) _ adr w b9 f hL.1 hL.2.1 hL.2.2.1 _ _ (xs (i + 1)) _ (hL.1.cel (by omega) hR.1) (k_X7_giveBack l D ac _ hlt (Abt (Ax (Lo s) adm) b9) _ adr w hL.1 dl dw fs fr ft ns so hv nd du T nr rq nq oq pd er no oc on_ owd obf rb st mt co py hd le pr ra hR (Nat.le_refl _) (xs (i + 1)))) (vx_cwSW 3 hts gL_law_L_giveBack rfl rfl rfl (by decide +kernel) ⟨(Nat.le_of_ble_eq_true rfl), (Nat.le_of_ble_eq_true rfl)⟩) (pSL hK ((hX.now hS).narrow (fun q h => h.1)) hC) rfl rfl hl.1 rfl (lv_room (Nat.le_of_ble_eq_true rfl)) dL_law_645 ⟨by omega, by omega⟩) hL hS (fun r u H locs hp hL hS => ?_)
  rcases hp with ⟨rfl, v, hPx, hv0⟩ | ⟨hr0, hcode, hu⟩
  · obtain ⟨N9, a9, w1, f1⟩ := u
    have hv0 : f1 0 = v.toInt64 := hv0
    obtain ⟨hN9, ha9, hP⟩ := hPx
    have hN8 : N9 = 22 + 6 * no := hN9
    have ha8 : adr = a9 := ha9.symm
    subst ha8
    subst hN8
    refine lv_istore (lv' := [(5, .int 0), (0, .ref b0), (1, .ref (adr 0)), (2, .ref (adm 0)), (3, .ref b9), (4, .int (nI i))]) hx hb dL_law_648 hl (by decide) rfl (fun ls hl => ?_)
    refine lv_aload_n hx hb dL_law_650 rfl (lv_at hl 3 rfl) ?_
    refine lv_aload_n hx hb dL_law_651 rfl (lv_at hl 1 rfl) ?_
    refine lv_iload hx hb dL_law_652 (lv_at hl 5 rfl) ?_
    refine lv_iconst (v := 1) hx hb dL_law_654 (by decide) ?_
    refine lv_iadd hx hb dL_law_655 ?_
    refine m_top (show nI i + 1 = nI (i + 1) from by rw [show (1 : Int32) = nI 1 from rfl, nI_add]) ?_
    refine va_sld hx hb hX0 hbl hbA hS (vp_in_nI (show (i + 1) < L by omega) (by omega)) dL_law_656 ?_
    refine m_top (show xs (nI (i + 1)).toNatClampNeg = xs (i + 1) from by rw [nI_clamp (by omega)]) ?_
    refine law_mod (va_runV (As := [.int (xs (i + 1))]) (rest := []) ⟨hx, hb, hml, hown, hts⟩ (k_X8_giveBack l D ac _ (Am adm) adm sf af hL.2.2.2.1 no oc on_ owd rb st hJ.2.2.2.1 hd (han_eq hJ.2.2.2.1 hR.hin hJ.2.2.2.2.2.2.2.2.2.2.2.1) (xs (i + 1))) (cwV 1 hts gL_law_X8_giveBack rfl rfl rfl (by decide +kernel) ⟨(Nat.le_of_ble_eq_true rfl), (Nat.le_of_ble_eq_true rfl)⟩) (pV hK (ci := 8) rfl (hL.2.2.2.1.cel (by omega) rfl)) rfl rfl hl.1 rfl (lv_room (Nat.le_of_ble_eq_true rfl)) dL_law_657 ⟨by omega, by omega⟩) hL hS (fun b w9 H locs hq hLm hS => ?_)
    obtain ⟨s1, a1, rfl, hs0, hcase⟩ := hq
    have hL := hLm _ _ rfl
    have hz0 := z_giveBack (b := b) (cn := cn) (a1 := a1) (af := af) (s1 := s1) (sf := sf) hR hP
    rcases hcase with ⟨hne, -⟩ | ⟨-, hN⟩
    · exact absurd hz0 hne
    rw [hz0] at hs0
    obtain ⟨hrb, hJJ⟩ := t_giveBack hR hJ hcn hP hN
    subst hrb
    refine lv_istore (lv' := [(6, .int v), (5, .int 0), (0, .ref b0), (1, .ref (adr 0)), (2, .ref (adm 0)), (3, .ref b9), (4, .int (nI i))]) hx hb dL_law_660 hl (by decide) rfl (fun ls hl => ?_)
    refine lv_aload_n hx hb dL_law_662 rfl (lv_at hl 4 rfl) ?_
    refine r_calli (va_runV (As := []) (rest := []) ⟨hx, hb, hml, hown, hts⟩ (k_X8_thrown l D ac _ (Am adm) adm s1 a1 hL.2.2.2.1) (cwV 0 hts gL_law_X8_thrown rfl rfl rfl (by decide +kernel) ⟨(Nat.le_of_ble_eq_true rfl), (Nat.le_of_ble_eq_true rfl)⟩) (pV hK (ci := 8) rfl (hL.2.2.2.1.cel (by omega) rfl)) rfl rfl hl.1 rfl (lv_room (Nat.le_of_ble_eq_true rfl)) dL_law_663 ⟨by omega, by omega⟩) hS (fun k9 locs hk9 hS => ?_)
    rw [hs0] at hk9
    refine lv_iload hx hb dL_law_666 (lv_at hl 1 rfl) ?_
    refine lv_icmp_eq (tgt := 673) hx hb dL_law_668 (by decide) (fun _ => ?_) (fun cq => absurd (hk9) cq)
    refine lv_iload hx hb dL_law_673 (lv_at hl 1 rfl) ?_
    refine lv_if_ne (tgt := 690) hx hb dL_law_675 (by decide) (fun cq => absurd rfl cq) (fun _ => ?_)
    refine lv_aload_n hx hb dL_law_678 rfl (lv_at hl 5 rfl) ?_
    refine lv_iconst (v := 0) hx hb dL_law_679 (by decide) ?_
    refine h_lald hx hb hK hL.2.1 dL_law_680 ?_
    refine m_topl (show f1 0 = v.toInt64 from hv0) ?_
    refine lv_iload hx hb dL_law_681 (lv_at hl 0 rfl) ?_
    refine lv_i2l (v := v.toInt64) hx hb dL_law_683 rfl ?_
    refine W.lcmp hx hb dL_law_684 ?_
    refine m_top (show lg_cmp v.toInt64 v.toInt64 = 0 from cmp_self) ?_
    refine lv_if_eq (tgt := 690) hx hb dL_law_685 (by decide) (fun _ => ?_) (fun cq => absurd rfl cq)
    refine lv_goto (tgt := 1900) hx hb dL_law_690 (by decide) ?_
    exact W.widen (k := c0 + 8) (n := s0 + 42) (by omega) (by omega) (K _ _ _ (⟨_, _, _, _, _, _, _, rfl, rfl, hL, hJJ⟩) hS (lv_sub hl [2, 3, 4, 5, 6] rfl))
  · subst hu
    refine lv_istore (lv' := [(5, .int r), (0, .ref b0), (1, .ref (adr 0)), (2, .ref (adm 0)), (3, .ref b9), (4, .int (nI i))]) hx hb dL_law_648 hl (by decide) rfl (fun ls hl => ?_)
    refine lv_aload_n hx hb dL_law_650 rfl (lv_at hl 3 rfl) ?_
    refine lv_aload_n hx hb dL_law_651 rfl (lv_at hl 1 rfl) ?_
    refine lv_iload hx hb dL_law_652 (lv_at hl 5 rfl) ?_
    refine lv_iconst (v := 1) hx hb dL_law_654 (by decide) ?_
    refine lv_iadd hx hb dL_law_655 ?_
    refine m_top (show nI i + 1 = nI (i + 1) from by rw [show (1 : Int32) = nI 1 from rfl, nI_add]) ?_
    refine va_sld hx hb hX0 hbl hbA hS (vp_in_nI (show (i + 1) < L by omega) (by omega)) dL_law_656 ?_
    refine m_top (show xs (nI (i + 1)).toNatClampNeg = xs (i + 1) from by rw [nI_clamp (by omega)]) ?_
    refine law_mod (va_runV (As := [.int (xs (i + 1))]) (rest := []) ⟨hx, hb, hml, hown, hts⟩ (k_X8_giveBack l D ac _ (Am adm) adm sf af hL.2.2.2.1 no oc on_ owd rb st hJ.2.2.2.1 hd (han_eq hJ.2.2.2.1 hR.hin hJ.2.2.2.2.2.2.2.2.2.2.2.1) (xs (i + 1))) (cwV 1 hts gL_law_X8_giveBack rfl rfl rfl (by decide +kernel) ⟨(Nat.le_of_ble_eq_true rfl), (Nat.le_of_ble_eq_true rfl)⟩) (pV hK (ci := 8) rfl (hL.2.2.2.1.cel (by omega) rfl)) rfl rfl hl.1 rfl (lv_room (Nat.le_of_ble_eq_true rfl)) dL_law_657 ⟨by omega, by omega⟩) hL hS (fun b w9 H locs hq hLm hS => ?_)
    obtain ⟨s1, a1, rfl, hs0, hcase⟩ := hq
    have hL := hLm _ _ rfl
    have hS9 := hcase.elim (fun q => q.2) (fun q => absurd q.1 hcode)
    have hJJ : JJ ac (22 + 6 * no) adr w s1 a1 (cn + 1) := ⟨_, _, _, _, _, _, _, _, _, _, _, _, _, _, _, _, _, _, _, _, _, _, _, _, _, _, _, _, _, _, _, hR, hJ.scr hS9 hcn, rfl⟩
    refine lv_istore (lv' := [(6, .int b), (5, .int r), (0, .ref b0), (1, .ref (adr 0)), (2, .ref (adm 0)), (3, .ref b9), (4, .int (nI i))]) hx hb dL_law_660 hl (by decide) rfl (fun ls hl => ?_)
    refine lv_aload_n hx hb dL_law_662 rfl (lv_at hl 4 rfl) ?_
    refine r_calli (va_runV (As := []) (rest := []) ⟨hx, hb, hml, hown, hts⟩ (k_X8_thrown l D ac _ (Am adm) adm s1 a1 hL.2.2.2.1) (cwV 0 hts gL_law_X8_thrown rfl rfl rfl (by decide +kernel) ⟨(Nat.le_of_ble_eq_true rfl), (Nat.le_of_ble_eq_true rfl)⟩) (pV hK (ci := 8) rfl (hL.2.2.2.1.cel (by omega) rfl)) rfl rfl hl.1 rfl (lv_room (Nat.le_of_ble_eq_true rfl)) dL_law_663 ⟨by omega, by omega⟩) hS (fun k9 locs hk9 hS => ?_)
    rw [hs0] at hk9
    refine lv_iload hx hb dL_law_666 (lv_at hl 1 rfl) ?_
    refine lv_icmp_eq (tgt := 673) hx hb dL_law_668 (by decide) (fun _ => ?_) (fun cq => absurd (hk9.trans hr0.symm) cq)
    refine lv_iload hx hb dL_law_673 (lv_at hl 1 rfl) ?_
    refine lv_if_ne (tgt := 690) hx hb dL_law_675 (by decide) (fun _ => ?_) (fun cq => absurd (hr0.symm.trans cq) (code_ne cd2_le hcode))
    refine lv_goto (tgt := 1900) hx hb dL_law_690 (by decide) ?_
    exact W.widen (k := c0 + 8) (n := s0 + 42) (by omega) (by omega) (K _ _ _ (⟨_, _, _, _, _, _, _, rfl, rfl, hL, hJJ⟩) hS (lv_sub hl [2, 3, 4, 5, 6] rfl))
set_option maxHeartbeats 4000000 in
set_option maxRecDepth 100000 in
/-- the law at a call of translate -/
theorem lc_translate {p : Program} {l : Launch} {e : Env} {s : State} {m : MethodId} {below : List Frame} {meth : Method} {c : Code} {b0 L : Nat} {xs : Nat → Int32} {D : va_G} {ac : Nat → ClassId} (E : LEn p l s m c b0 L xs D ac) {Q : State → Prop} {x9 m9 b9 cn i c0 s0 : Nat} {H : Heap} {locs : List Loc} {ls : Array Slot} (hI : LIv D ac s x9 m9 b9 cn H) (hS : va_S (Lo s) s.heap H locs) (hl : lv_has ls 7 [(0, .ref b0), (1, .ref x9), (2, .ref m9), (3, .ref b9), (4, .int (nI i))]) (hi : i + 5 ≤ L) (hcn : cn + 1 < 1000) (hc : c0 + 8 ≤ room_1.cells) (hs : s0 + 42 ≤ room_1.slots) (K : ∀ (H1 : Heap) (locs1 : List Loc) (ls1 : Array Slot), LIv D ac s x9 m9 b9 (cn + 1) H1 → va_S (Lo s) s.heap H1 locs1 → lv_has ls1 7 [(0, .ref b0), (1, .ref x9), (2, .ref m9), (3, .ref b9), (4, .int (nI i))] → W p l e room_1 s m #[Value.ref b0] below meth c H1 locs1 (c0 + 8) (s0 + 42) Q (F0 m 1900 ls1 [])) : W p l e room_1 s m #[Value.ref b0] below meth c H locs c0 s0 Q (F0 m 693 ls []) := by
  obtain ⟨hx, hb, hml, hown, hts, hlt, hK, hX, hC, hX0, hbl, hL9⟩ := E
  obtain ⟨N, adr, w, f, adm, sf, af, rfl, rfl, hL, dl, dw, fs, fr, ft, ns, so, hv, nd, du, T, nr, rq, nq, oq, pd, er, no, oc, on_, owd, obf, rb, st, mt, co, py, hd, le, pr, ra, hR, hJ, rfl⟩ := hI
  have hbA : ¬ Lo s b0 := Nat.not_le.mpr hbl
  refine lv_aload_n hx hb dL_law_693 rfl (lv_at hl 1 rfl) ?_
  refine lv_aload_n hx hb dL_law_694 rfl (lv_at hl 0 rfl) ?_
  refine lv_iload hx hb dL_law_695 (lv_at hl 4 rfl) ?_
  refine lv_iconst (v := 1) hx hb dL_law_697 (by decide) ?_
  refine lv_iadd hx hb dL_law_698 ?_
  refine m_top (show nI i + 1 = nI (i + 1) from by rw [show (1 : Int32) = nI 1 from rfl, nI_add]) ?_
  refine va_sld hx hb hX0 hbl hbA hS (vp_in_nI (show (i + 1) < L by omega) (by omega)) dL_law_699 ?_
  refine m_top (show xs (nI (i + 1)).toNatClampNeg = xs (i + 1) from by rw [nI_clamp (by omega)]) ?_
  refine lv_aload_n hx hb dL_law_700 rfl (lv_at hl 0 rfl) ?_
  refine lv_iload hx hb dL_law_701 (lv_at hl 4 rfl) ?_
  refine lv_iconst (v := 2) hx hb dL_law_703 (by decide) ?_
  refine lv_iadd hx hb dL_law_704 ?_
  refine m_top (show nI i + 2 = nI (i + 2) from by rw [show (2 : Int32) = nI 2 from rfl, nI_add]) ?_
  refine va_sld hx hb hX0 hbl hbA hS (vp_in_nI (show (i + 2) < L by omega) (by omega)) dL_law_705 ?_
  refine m_top (show xs (nI (i + 2)).toNatClampNeg = xs (i + 2) from by rw [nI_clamp (by omega)]) ?_
  refine lv_aload_n hx hb dL_law_706 rfl (lv_at hl 0 rfl) ?_
  refine lv_iload hx hb dL_law_707 (lv_at hl 4 rfl) ?_
  refine lv_iconst (v := 3) hx hb dL_law_709 (by decide) ?_
  refine lv_iadd hx hb dL_law_710 ?_
  refine m_top (show nI i + 3 = nI (i + 3) from by rw [show (3 : Int32) = nI 3 from rfl, nI_add]) ?_
  refine va_sld hx hb hX0 hbl hbA hS (vp_in_nI (show (i + 3) < L by omega) (by omega)) dL_law_711 ?_
  refine m_top (show xs (nI (i + 3)).toNatClampNeg = xs (i + 3) from by rw [nI_clamp (by omega)]) ?_
  refine lv_aload_n hx hb dL_law_712 rfl (lv_at hl 3 rfl) ?_
  refine law_help (vx_runSW (hh := [(0, 12, 15, 13), (0, 12, 19, 15), (0, 12, 23, 20)]) (As := [.ref (adr 0), .int (xs (i + 1)), .int (xs (i + 2)), .int (xs (i + 3)), .ref b9]) (rest := []) ⟨hx, hb, hml, hown, hts⟩ (kL_translate l D ac _ (Ax (Lo s) adm) _ adr w b9 f hL.1 hL.2.1 hL.2.2.1 _ _ (xs (i + 1)) (xs (i + 2)) (xs (i + 3)) _ (hL.1.cel (by omega) hR.1) (k_X7_translate l D ac _ hlt (Abt (Ax (Lo s) adm) b9) _ adr w hL.1 dl dw fs fr ft ns so hv nd du T nr rq nq oq pd er no oc on_ owd obf rb st mt co py hd le pr ra hR (Nat.le_refl _) (xs (i + 1)) (xs (i + 2)) (xs (i + 3)))) (vx_cwSW 5 hts gL_law_L_translate rfl rfl rfl (by decide +kernel) ⟨(Nat.le_of_ble_eq_true rfl), (Nat.le_of_ble_eq_true rfl)⟩) (pSL hK ((hX.now hS).narrow (fun q h => h.1)) hC) rfl rfl hl.1 rfl (lv_room (Nat.le_of_ble_eq_true rfl)) dL_law_713 ⟨by omega, by omega⟩) hL hS (fun r u H locs hp hL hS => ?_)
  rcases hp with ⟨rfl, v, hPx, hv0⟩ | ⟨hr0, hcode, hu⟩
  · obtain ⟨N9, a9, w1, f1⟩ := u
    have hv0 : f1 0 = v.toInt64 := hv0
    obtain ⟨hN9, ha9, hP⟩ := hPx
    have hN8 : N9 = 22 + 6 * no := hN9
    have ha8 : adr = a9 := ha9.symm
    subst ha8
    subst hN8
    refine lv_istore (lv' := [(5, .int 0), (0, .ref b0), (1, .ref (adr 0)), (2, .ref (adm 0)), (3, .ref b9), (4, .int (nI i))]) hx hb dL_law_716 hl (by decide) rfl (fun ls hl => ?_)
    refine lv_aload_n hx hb dL_law_718 rfl (lv_at hl 3 rfl) ?_
    refine lv_aload_n hx hb dL_law_719 rfl (lv_at hl 1 rfl) ?_
    refine lv_iload hx hb dL_law_720 (lv_at hl 5 rfl) ?_
    refine lv_iconst (v := 1) hx hb dL_law_722 (by decide) ?_
    refine lv_iadd hx hb dL_law_723 ?_
    refine m_top (show nI i + 1 = nI (i + 1) from by rw [show (1 : Int32) = nI 1 from rfl, nI_add]) ?_
    refine va_sld hx hb hX0 hbl hbA hS (vp_in_nI (show (i + 1) < L by omega) (by omega)) dL_law_724 ?_
    refine m_top (show xs (nI (i + 1)).toNatClampNeg = xs (i + 1) from by rw [nI_clamp (by omega)]) ?_
    refine lv_aload_n hx hb dL_law_725 rfl (lv_at hl 1 rfl) ?_
    refine lv_iload hx hb dL_law_726 (lv_at hl 5 rfl) ?_
    refine lv_iconst (v := 2) hx hb dL_law_728 (by decide) ?_
    refine lv_iadd hx hb dL_law_729 ?_
    refine m_top (show nI i + 2 = nI (i + 2) from by rw [show (2 : Int32) = nI 2 from rfl, nI_add]) ?_
    refine va_sld hx hb hX0 hbl hbA hS (vp_in_nI (show (i + 2) < L by omega) (by omega)) dL_law_730 ?_
    refine m_top (show xs (nI (i + 2)).toNatClampNeg = xs (i + 2) from by rw [nI_clamp (by omega)]) ?_
    refine lv_aload_n hx hb dL_law_731 rfl (lv_at hl 1 rfl) ?_
    refine lv_iload hx hb dL_law_732 (lv_at hl 5 rfl) ?_
    refine lv_iconst (v := 3) hx hb dL_law_734 (by decide) ?_
    refine lv_iadd hx hb dL_law_735 ?_
    refine m_top (show nI i + 3 = nI (i + 3) from by rw [show (3 : Int32) = nI 3 from rfl, nI_add]) ?_
    refine va_sld hx hb hX0 hbl hbA hS (vp_in_nI (show (i + 3) < L by omega) (by omega)) dL_law_736 ?_
    refine m_top (show xs (nI (i + 3)).toNatClampNeg = xs (i + 3) from by rw [nI_clamp (by omega)]) ?_
    refine law_mod (va_runV (As := [.int (xs (i + 1)), .int (xs (i + 2)), .int (xs (i + 3))]) (rest := []) ⟨hx, hb, hml, hown, hts⟩ (k_X8_translate l D ac _ (Am adm) adm sf af hL.2.2.2.1 no oc on_ owd rb st hJ.2.2.2.1 hd (han_eq hJ.2.2.2.1 hR.hin hJ.2.2.2.2.2.2.2.2.2.2.2.1) obf mt co py hJ.2.2.2.2.1 (xs (i + 1)) (xs (i + 2)) (xs (i + 3))) (cwV 3 hts gL_law_X8_translate rfl rfl rfl (by decide +kernel) ⟨(Nat.le_of_ble_eq_true rfl), (Nat.le_of_ble_eq_true rfl)⟩) (pV hK (ci := 8) rfl (hL.2.2.2.1.cel (by omega) rfl)) rfl rfl hl.1 rfl (lv_room (Nat.le_of_ble_eq_true rfl)) dL_law_737 ⟨by omega, by omega⟩) hL hS (fun b w9 H locs hq hLm hS => ?_)
    obtain ⟨s1, a1, rfl, hs0, hcase⟩ := hq
    have hL := hLm _ _ rfl
    have hz0 := z_translate (b := b) (cn := cn) (a1 := a1) (af := af) (s1 := s1) (sf := sf) hR hP
    rcases hcase with ⟨hne, -⟩ | ⟨-, hN⟩
    · exact absurd hz0 hne
    rw [hz0] at hs0
    obtain ⟨hrb, hJJ⟩ := t_translate hR hJ hcn hP hN
    subst hrb
    refine lv_istore (lv' := [(6, .int v), (5, .int 0), (0, .ref b0), (1, .ref (adr 0)), (2, .ref (adm 0)), (3, .ref b9), (4, .int (nI i))]) hx hb dL_law_740 hl (by decide) rfl (fun ls hl => ?_)
    refine lv_aload_n hx hb dL_law_742 rfl (lv_at hl 4 rfl) ?_
    refine r_calli (va_runV (As := []) (rest := []) ⟨hx, hb, hml, hown, hts⟩ (k_X8_thrown l D ac _ (Am adm) adm s1 a1 hL.2.2.2.1) (cwV 0 hts gL_law_X8_thrown rfl rfl rfl (by decide +kernel) ⟨(Nat.le_of_ble_eq_true rfl), (Nat.le_of_ble_eq_true rfl)⟩) (pV hK (ci := 8) rfl (hL.2.2.2.1.cel (by omega) rfl)) rfl rfl hl.1 rfl (lv_room (Nat.le_of_ble_eq_true rfl)) dL_law_743 ⟨by omega, by omega⟩) hS (fun k9 locs hk9 hS => ?_)
    rw [hs0] at hk9
    refine lv_iload hx hb dL_law_746 (lv_at hl 1 rfl) ?_
    refine lv_icmp_eq (tgt := 753) hx hb dL_law_748 (by decide) (fun _ => ?_) (fun cq => absurd (hk9) cq)
    refine lv_iload hx hb dL_law_753 (lv_at hl 1 rfl) ?_
    refine lv_if_ne (tgt := 770) hx hb dL_law_755 (by decide) (fun cq => absurd rfl cq) (fun _ => ?_)
    refine lv_aload_n hx hb dL_law_758 rfl (lv_at hl 5 rfl) ?_
    refine lv_iconst (v := 0) hx hb dL_law_759 (by decide) ?_
    refine h_lald hx hb hK hL.2.1 dL_law_760 ?_
    refine m_topl (show f1 0 = v.toInt64 from hv0) ?_
    refine lv_iload hx hb dL_law_761 (lv_at hl 0 rfl) ?_
    refine lv_i2l (v := v.toInt64) hx hb dL_law_763 rfl ?_
    refine W.lcmp hx hb dL_law_764 ?_
    refine m_top (show lg_cmp v.toInt64 v.toInt64 = 0 from cmp_self) ?_
    refine lv_if_eq (tgt := 770) hx hb dL_law_765 (by decide) (fun _ => ?_) (fun cq => absurd rfl cq)
    refine lv_goto (tgt := 1900) hx hb dL_law_770 (by decide) ?_
    exact W.widen (k := c0 + 8) (n := s0 + 42) (by omega) (by omega) (K _ _ _ (⟨_, _, _, _, _, _, _, rfl, rfl, hL, hJJ⟩) hS (lv_sub hl [2, 3, 4, 5, 6] rfl))
  · subst hu
    refine lv_istore (lv' := [(5, .int r), (0, .ref b0), (1, .ref (adr 0)), (2, .ref (adm 0)), (3, .ref b9), (4, .int (nI i))]) hx hb dL_law_716 hl (by decide) rfl (fun ls hl => ?_)
    refine lv_aload_n hx hb dL_law_718 rfl (lv_at hl 3 rfl) ?_
    refine lv_aload_n hx hb dL_law_719 rfl (lv_at hl 1 rfl) ?_
    refine lv_iload hx hb dL_law_720 (lv_at hl 5 rfl) ?_
    refine lv_iconst (v := 1) hx hb dL_law_722 (by decide) ?_
    refine lv_iadd hx hb dL_law_723 ?_
    refine m_top (show nI i + 1 = nI (i + 1) from by rw [show (1 : Int32) = nI 1 from rfl, nI_add]) ?_
    refine va_sld hx hb hX0 hbl hbA hS (vp_in_nI (show (i + 1) < L by omega) (by omega)) dL_law_724 ?_
    refine m_top (show xs (nI (i + 1)).toNatClampNeg = xs (i + 1) from by rw [nI_clamp (by omega)]) ?_
    refine lv_aload_n hx hb dL_law_725 rfl (lv_at hl 1 rfl) ?_
    refine lv_iload hx hb dL_law_726 (lv_at hl 5 rfl) ?_
    refine lv_iconst (v := 2) hx hb dL_law_728 (by decide) ?_
    refine lv_iadd hx hb dL_law_729 ?_
    refine m_top (show nI i + 2 = nI (i + 2) from by rw [show (2 : Int32) = nI 2 from rfl, nI_add]) ?_
    refine va_sld hx hb hX0 hbl hbA hS (vp_in_nI (show (i + 2) < L by omega) (by omega)) dL_law_730 ?_
    refine m_top (show xs (nI (i + 2)).toNatClampNeg = xs (i + 2) from by rw [nI_clamp (by omega)]) ?_
    refine lv_aload_n hx hb dL_law_731 rfl (lv_at hl 1 rfl) ?_
    refine lv_iload hx hb dL_law_732 (lv_at hl 5 rfl) ?_
    refine lv_iconst (v := 3) hx hb dL_law_734 (by decide) ?_
    refine lv_iadd hx hb dL_law_735 ?_
    refine m_top (show nI i + 3 = nI (i + 3) from by rw [show (3 : Int32) = nI 3 from rfl, nI_add]) ?_
    refine va_sld hx hb hX0 hbl hbA hS (vp_in_nI (show (i + 3) < L by omega) (by omega)) dL_law_736 ?_
    refine m_top (show xs (nI (i + 3)).toNatClampNeg = xs (i + 3) from by rw [nI_clamp (by omega)]) ?_
    refine law_mod (va_runV (As := [.int (xs (i + 1)), .int (xs (i + 2)), .int (xs (i + 3))]) (rest := []) ⟨hx, hb, hml, hown, hts⟩ (k_X8_translate l D ac _ (Am adm) adm sf af hL.2.2.2.1 no oc on_ owd rb st hJ.2.2.2.1 hd (han_eq hJ.2.2.2.1 hR.hin hJ.2.2.2.2.2.2.2.2.2.2.2.1) obf mt co py hJ.2.2.2.2.1 (xs (i + 1)) (xs (i + 2)) (xs (i + 3))) (cwV 3 hts gL_law_X8_translate rfl rfl rfl (by decide +kernel) ⟨(Nat.le_of_ble_eq_true rfl), (Nat.le_of_ble_eq_true rfl)⟩) (pV hK (ci := 8) rfl (hL.2.2.2.1.cel (by omega) rfl)) rfl rfl hl.1 rfl (lv_room (Nat.le_of_ble_eq_true rfl)) dL_law_737 ⟨by omega, by omega⟩) hL hS (fun b w9 H locs hq hLm hS => ?_)
    obtain ⟨s1, a1, rfl, hs0, hcase⟩ := hq
    have hL := hLm _ _ rfl
    have hS9 := hcase.elim (fun q => q.2) (fun q => absurd q.1 hcode)
    have hJJ : JJ ac (22 + 6 * no) adr w s1 a1 (cn + 1) := ⟨_, _, _, _, _, _, _, _, _, _, _, _, _, _, _, _, _, _, _, _, _, _, _, _, _, _, _, _, _, _, _, hR, hJ.scr hS9 hcn, rfl⟩
    refine lv_istore (lv' := [(6, .int b), (5, .int r), (0, .ref b0), (1, .ref (adr 0)), (2, .ref (adm 0)), (3, .ref b9), (4, .int (nI i))]) hx hb dL_law_740 hl (by decide) rfl (fun ls hl => ?_)
    refine lv_aload_n hx hb dL_law_742 rfl (lv_at hl 4 rfl) ?_
    refine r_calli (va_runV (As := []) (rest := []) ⟨hx, hb, hml, hown, hts⟩ (k_X8_thrown l D ac _ (Am adm) adm s1 a1 hL.2.2.2.1) (cwV 0 hts gL_law_X8_thrown rfl rfl rfl (by decide +kernel) ⟨(Nat.le_of_ble_eq_true rfl), (Nat.le_of_ble_eq_true rfl)⟩) (pV hK (ci := 8) rfl (hL.2.2.2.1.cel (by omega) rfl)) rfl rfl hl.1 rfl (lv_room (Nat.le_of_ble_eq_true rfl)) dL_law_743 ⟨by omega, by omega⟩) hS (fun k9 locs hk9 hS => ?_)
    rw [hs0] at hk9
    refine lv_iload hx hb dL_law_746 (lv_at hl 1 rfl) ?_
    refine lv_icmp_eq (tgt := 753) hx hb dL_law_748 (by decide) (fun _ => ?_) (fun cq => absurd (hk9.trans hr0.symm) cq)
    refine lv_iload hx hb dL_law_753 (lv_at hl 1 rfl) ?_
    refine lv_if_ne (tgt := 770) hx hb dL_law_755 (by decide) (fun _ => ?_) (fun cq => absurd (hr0.symm.trans cq) (code_ne cd3_le hcode))
    refine lv_goto (tgt := 1900) hx hb dL_law_770 (by decide) ?_
    exact W.widen (k := c0 + 8) (n := s0 + 42) (by omega) (by omega) (K _ _ _ (⟨_, _, _, _, _, _, _, rfl, rfl, hL, hJJ⟩) hS (lv_sub hl [2, 3, 4, 5, 6] rfl))
set_option maxHeartbeats 4000000 in
set_option maxRecDepth 100000 in
/-- the law at a call of deliver -/
theorem lc_deliver {p : Program} {l : Launch} {e : Env} {s : State} {m : MethodId} {below : List Frame} {meth : Method} {c : Code} {b0 L : Nat} {xs : Nat → Int32} {D : va_G} {ac : Nat → ClassId} (E : LEn p l s m c b0 L xs D ac) {Q : State → Prop} {x9 m9 b9 cn i c0 s0 : Nat} {H : Heap} {locs : List Loc} {ls : Array Slot} (hI : LIv D ac s x9 m9 b9 cn H) (hS : va_S (Lo s) s.heap H locs) (hl : lv_has ls 7 [(0, .ref b0), (1, .ref x9), (2, .ref m9), (3, .ref b9), (4, .int (nI i))]) (hi : i + 5 ≤ L) (hcn : cn + 1 < 1000) (hc : c0 + 8 ≤ room_1.cells) (hs : s0 + 42 ≤ room_1.slots) (K : ∀ (H1 : Heap) (locs1 : List Loc) (ls1 : Array Slot), LIv D ac s x9 m9 b9 (cn + 1) H1 → va_S (Lo s) s.heap H1 locs1 → lv_has ls1 7 [(0, .ref b0), (1, .ref x9), (2, .ref m9), (3, .ref b9), (4, .int (nI i))] → W p l e room_1 s m #[Value.ref b0] below meth c H1 locs1 (c0 + 8) (s0 + 42) Q (F0 m 1900 ls1 [])) : W p l e room_1 s m #[Value.ref b0] below meth c H locs c0 s0 Q (F0 m 773 ls []) := by
  obtain ⟨hx, hb, hml, hown, hts, hlt, hK, hX, hC, hX0, hbl, hL9⟩ := E
  obtain ⟨N, adr, w, f, adm, sf, af, rfl, rfl, hL, dl, dw, fs, fr, ft, ns, so, hv, nd, du, T, nr, rq, nq, oq, pd, er, no, oc, on_, owd, obf, rb, st, mt, co, py, hd, le, pr, ra, hR, hJ, rfl⟩ := hI
  have hbA : ¬ Lo s b0 := Nat.not_le.mpr hbl
  refine lv_aload_n hx hb dL_law_773 rfl (lv_at hl 1 rfl) ?_
  refine lv_aload_n hx hb dL_law_774 rfl (lv_at hl 0 rfl) ?_
  refine lv_iload hx hb dL_law_775 (lv_at hl 4 rfl) ?_
  refine lv_iconst (v := 1) hx hb dL_law_777 (by decide) ?_
  refine lv_iadd hx hb dL_law_778 ?_
  refine m_top (show nI i + 1 = nI (i + 1) from by rw [show (1 : Int32) = nI 1 from rfl, nI_add]) ?_
  refine va_sld hx hb hX0 hbl hbA hS (vp_in_nI (show (i + 1) < L by omega) (by omega)) dL_law_779 ?_
  refine m_top (show xs (nI (i + 1)).toNatClampNeg = xs (i + 1) from by rw [nI_clamp (by omega)]) ?_
  refine lv_aload_n hx hb dL_law_780 rfl (lv_at hl 3 rfl) ?_
  refine law_help (vx_runSW (hh := [(0, 9, 12, 13), (0, 9, 15, 15)]) (As := [.ref (adr 0), .int (xs (i + 1)), .ref b9]) (rest := []) ⟨hx, hb, hml, hown, hts⟩ (kL_deliver l D ac _ (Ax (Lo s) adm) _ adr w b9 f hL.1 hL.2.1 hL.2.2.1 _ _ (xs (i + 1)) _ (hL.1.cel (by omega) hR.1) (k_X7_deliver l D ac _ hlt (Abt (Ax (Lo s) adm) b9) _ adr w hL.1 dl dw fs fr ft ns so hv nd du T nr rq nq oq pd er no oc on_ owd obf rb st mt co py hd le pr ra hR (Nat.le_refl _) (xs (i + 1)))) (vx_cwSW 3 hts gL_law_L_deliver rfl rfl rfl (by decide +kernel) ⟨(Nat.le_of_ble_eq_true rfl), (Nat.le_of_ble_eq_true rfl)⟩) (pSL hK ((hX.now hS).narrow (fun q h => h.1)) hC) rfl rfl hl.1 rfl (lv_room (Nat.le_of_ble_eq_true rfl)) dL_law_781 ⟨by omega, by omega⟩) hL hS (fun r u H locs hp hL hS => ?_)
  rcases hp with ⟨rfl, v, hPx, hv0⟩ | ⟨hr0, hcode, hu⟩
  · obtain ⟨N9, a9, w1, f1⟩ := u
    have hv0 : f1 0 = v.toInt64 := hv0
    obtain ⟨hN9, ha9, hP⟩ := hPx
    have hN8 : N9 = 22 + 6 * no := hN9
    have ha8 : adr = a9 := ha9.symm
    subst ha8
    subst hN8
    refine lv_istore (lv' := [(5, .int 0), (0, .ref b0), (1, .ref (adr 0)), (2, .ref (adm 0)), (3, .ref b9), (4, .int (nI i))]) hx hb dL_law_784 hl (by decide) rfl (fun ls hl => ?_)
    refine lv_aload_n hx hb dL_law_786 rfl (lv_at hl 3 rfl) ?_
    refine lv_aload_n hx hb dL_law_787 rfl (lv_at hl 1 rfl) ?_
    refine lv_iload hx hb dL_law_788 (lv_at hl 5 rfl) ?_
    refine lv_iconst (v := 1) hx hb dL_law_790 (by decide) ?_
    refine lv_iadd hx hb dL_law_791 ?_
    refine m_top (show nI i + 1 = nI (i + 1) from by rw [show (1 : Int32) = nI 1 from rfl, nI_add]) ?_
    refine va_sld hx hb hX0 hbl hbA hS (vp_in_nI (show (i + 1) < L by omega) (by omega)) dL_law_792 ?_
    refine m_top (show xs (nI (i + 1)).toNatClampNeg = xs (i + 1) from by rw [nI_clamp (by omega)]) ?_
    refine law_mod (va_runV (As := [.int (xs (i + 1))]) (rest := []) ⟨hx, hb, hml, hown, hts⟩ (k_X8_deliver l D ac _ (Am adm) adm sf af hL.2.2.2.1 fs fr hJ.2.1 no oc on_ owd rb st hJ.2.2.2.1 ns (fun i => oc (so i)) (fun i => on_ (so i)) (fun i => owd (so i)) (fun i => obf (so i)) hJ.2.2.1 hd (han_eq hJ.2.2.2.1 hR.hin hJ.2.2.2.2.2.2.2.2.2.2.2.1) obf mt co py hJ.2.2.2.2.1 (xs (i + 1))) (cwV 1 hts gL_law_X8_deliver rfl rfl rfl (by decide +kernel) ⟨(Nat.le_of_ble_eq_true rfl), (Nat.le_of_ble_eq_true rfl)⟩) (pV hK (ci := 8) rfl (hL.2.2.2.1.cel (by omega) rfl)) rfl rfl hl.1 rfl (lv_room (Nat.le_of_ble_eq_true rfl)) dL_law_793 ⟨by omega, by omega⟩) hL hS (fun b w9 H locs hq hLm hS => ?_)
    obtain ⟨s1, a1, rfl, hs0, hcase⟩ := hq
    have hL := hLm _ _ rfl
    have hz0 := z_deliver (b := b) (cn := cn) (a1 := a1) (af := af) (s1 := s1) (sf := sf) hR hP
    rcases hcase with ⟨hne, -⟩ | ⟨-, hN⟩
    · exact absurd hz0 hne
    rw [hz0] at hs0
    obtain ⟨hrb, hJJ⟩ := t_deliver hR hJ hcn hP hN
    subst hrb
    refine lv_istore (lv' := [(6, .int v), (5, .int 0), (0, .ref b0), (1, .ref (adr 0)), (2, .ref (adm 0)), (3, .ref b9), (4, .int (nI i))]) hx hb dL_law_796 hl (by decide) rfl (fun ls hl => ?_)
    refine lv_aload_n hx hb dL_law_798 rfl (lv_at hl 4 rfl) ?_
    refine r_calli (va_runV (As := []) (rest := []) ⟨hx, hb, hml, hown, hts⟩ (k_X8_thrown l D ac _ (Am adm) adm s1 a1 hL.2.2.2.1) (cwV 0 hts gL_law_X8_thrown rfl rfl rfl (by decide +kernel) ⟨(Nat.le_of_ble_eq_true rfl), (Nat.le_of_ble_eq_true rfl)⟩) (pV hK (ci := 8) rfl (hL.2.2.2.1.cel (by omega) rfl)) rfl rfl hl.1 rfl (lv_room (Nat.le_of_ble_eq_true rfl)) dL_law_799 ⟨by omega, by omega⟩) hS (fun k9 locs hk9 hS => ?_)
    rw [hs0] at hk9
    refine lv_iload hx hb dL_law_802 (lv_at hl 1 rfl) ?_
    refine lv_icmp_eq (tgt := 809) hx hb dL_law_804 (by decide) (fun _ => ?_) (fun cq => absurd (hk9) cq)
    refine lv_iload hx hb dL_law_809 (lv_at hl 1 rfl) ?_
    refine lv_if_ne (tgt := 826) hx hb dL_law_811 (by decide) (fun cq => absurd rfl cq) (fun _ => ?_)
    refine lv_aload_n hx hb dL_law_814 rfl (lv_at hl 5 rfl) ?_
    refine lv_iconst (v := 0) hx hb dL_law_815 (by decide) ?_
    refine h_lald hx hb hK hL.2.1 dL_law_816 ?_
    refine m_topl (show f1 0 = v.toInt64 from hv0) ?_
    refine lv_iload hx hb dL_law_817 (lv_at hl 0 rfl) ?_
    refine lv_i2l (v := v.toInt64) hx hb dL_law_819 rfl ?_
    refine W.lcmp hx hb dL_law_820 ?_
    refine m_top (show lg_cmp v.toInt64 v.toInt64 = 0 from cmp_self) ?_
    refine lv_if_eq (tgt := 826) hx hb dL_law_821 (by decide) (fun _ => ?_) (fun cq => absurd rfl cq)
    refine lv_goto (tgt := 1900) hx hb dL_law_826 (by decide) ?_
    exact W.widen (k := c0 + 8) (n := s0 + 42) (by omega) (by omega) (K _ _ _ (⟨_, _, _, _, _, _, _, rfl, rfl, hL, hJJ⟩) hS (lv_sub hl [2, 3, 4, 5, 6] rfl))
  · subst hu
    refine lv_istore (lv' := [(5, .int r), (0, .ref b0), (1, .ref (adr 0)), (2, .ref (adm 0)), (3, .ref b9), (4, .int (nI i))]) hx hb dL_law_784 hl (by decide) rfl (fun ls hl => ?_)
    refine lv_aload_n hx hb dL_law_786 rfl (lv_at hl 3 rfl) ?_
    refine lv_aload_n hx hb dL_law_787 rfl (lv_at hl 1 rfl) ?_
    refine lv_iload hx hb dL_law_788 (lv_at hl 5 rfl) ?_
    refine lv_iconst (v := 1) hx hb dL_law_790 (by decide) ?_
    refine lv_iadd hx hb dL_law_791 ?_
    refine m_top (show nI i + 1 = nI (i + 1) from by rw [show (1 : Int32) = nI 1 from rfl, nI_add]) ?_
    refine va_sld hx hb hX0 hbl hbA hS (vp_in_nI (show (i + 1) < L by omega) (by omega)) dL_law_792 ?_
    refine m_top (show xs (nI (i + 1)).toNatClampNeg = xs (i + 1) from by rw [nI_clamp (by omega)]) ?_
    refine law_mod (va_runV (As := [.int (xs (i + 1))]) (rest := []) ⟨hx, hb, hml, hown, hts⟩ (k_X8_deliver l D ac _ (Am adm) adm sf af hL.2.2.2.1 fs fr hJ.2.1 no oc on_ owd rb st hJ.2.2.2.1 ns (fun i => oc (so i)) (fun i => on_ (so i)) (fun i => owd (so i)) (fun i => obf (so i)) hJ.2.2.1 hd (han_eq hJ.2.2.2.1 hR.hin hJ.2.2.2.2.2.2.2.2.2.2.2.1) obf mt co py hJ.2.2.2.2.1 (xs (i + 1))) (cwV 1 hts gL_law_X8_deliver rfl rfl rfl (by decide +kernel) ⟨(Nat.le_of_ble_eq_true rfl), (Nat.le_of_ble_eq_true rfl)⟩) (pV hK (ci := 8) rfl (hL.2.2.2.1.cel (by omega) rfl)) rfl rfl hl.1 rfl (lv_room (Nat.le_of_ble_eq_true rfl)) dL_law_793 ⟨by omega, by omega⟩) hL hS (fun b w9 H locs hq hLm hS => ?_)
    obtain ⟨s1, a1, rfl, hs0, hcase⟩ := hq
    have hL := hLm _ _ rfl
    have hS9 := hcase.elim (fun q => q.2) (fun q => absurd q.1 hcode)
    have hJJ : JJ ac (22 + 6 * no) adr w s1 a1 (cn + 1) := ⟨_, _, _, _, _, _, _, _, _, _, _, _, _, _, _, _, _, _, _, _, _, _, _, _, _, _, _, _, _, _, _, hR, hJ.scr hS9 hcn, rfl⟩
    refine lv_istore (lv' := [(6, .int b), (5, .int r), (0, .ref b0), (1, .ref (adr 0)), (2, .ref (adm 0)), (3, .ref b9), (4, .int (nI i))]) hx hb dL_law_796 hl (by decide) rfl (fun ls hl => ?_)
    refine lv_aload_n hx hb dL_law_798 rfl (lv_at hl 4 rfl) ?_
    refine r_calli (va_runV (As := []) (rest := []) ⟨hx, hb, hml, hown, hts⟩ (k_X8_thrown l D ac _ (Am adm) adm s1 a1 hL.2.2.2.1) (cwV 0 hts gL_law_X8_thrown rfl rfl rfl (by decide +kernel) ⟨(Nat.le_of_ble_eq_true rfl), (Nat.le_of_ble_eq_true rfl)⟩) (pV hK (ci := 8) rfl (hL.2.2.2.1.cel (by omega) rfl)) rfl rfl hl.1 rfl (lv_room (Nat.le_of_ble_eq_true rfl)) dL_law_799 ⟨by omega, by omega⟩) hS (fun k9 locs hk9 hS => ?_)
    rw [hs0] at hk9
    refine lv_iload hx hb dL_law_802 (lv_at hl 1 rfl) ?_
    refine lv_icmp_eq (tgt := 809) hx hb dL_law_804 (by decide) (fun _ => ?_) (fun cq => absurd (hk9.trans hr0.symm) cq)
    refine lv_iload hx hb dL_law_809 (lv_at hl 1 rfl) ?_
    refine lv_if_ne (tgt := 826) hx hb dL_law_811 (by decide) (fun _ => ?_) (fun cq => absurd (hr0.symm.trans cq) (code_ne cd2_le hcode))
    refine lv_goto (tgt := 1900) hx hb dL_law_826 (by decide) ?_
    exact W.widen (k := c0 + 8) (n := s0 + 42) (by omega) (by omega) (K _ _ _ (⟨_, _, _, _, _, _, _, rfl, rfl, hL, hJJ⟩) hS (lv_sub hl [2, 3, 4, 5, 6] rfl))
set_option maxHeartbeats 4000000 in
set_option maxRecDepth 100000 in
/-- the law at a call of why -/
theorem lc_why {p : Program} {l : Launch} {e : Env} {s : State} {m : MethodId} {below : List Frame} {meth : Method} {c : Code} {b0 L : Nat} {xs : Nat → Int32} {D : va_G} {ac : Nat → ClassId} (E : LEn p l s m c b0 L xs D ac) {Q : State → Prop} {x9 m9 b9 cn i c0 s0 : Nat} {H : Heap} {locs : List Loc} {ls : Array Slot} (hI : LIv D ac s x9 m9 b9 cn H) (hS : va_S (Lo s) s.heap H locs) (hl : lv_has ls 7 [(0, .ref b0), (1, .ref x9), (2, .ref m9), (3, .ref b9), (4, .int (nI i))]) (hi : i + 5 ≤ L) (hcn : cn + 1 < 1000) (hc : c0 + 8 ≤ room_1.cells) (hs : s0 + 42 ≤ room_1.slots) (K : ∀ (H1 : Heap) (locs1 : List Loc) (ls1 : Array Slot), LIv D ac s x9 m9 b9 (cn + 1) H1 → va_S (Lo s) s.heap H1 locs1 → lv_has ls1 7 [(0, .ref b0), (1, .ref x9), (2, .ref m9), (3, .ref b9), (4, .int (nI i))] → W p l e room_1 s m #[Value.ref b0] below meth c H1 locs1 (c0 + 8) (s0 + 42) Q (F0 m 1900 ls1 [])) : W p l e room_1 s m #[Value.ref b0] below meth c H locs c0 s0 Q (F0 m 829 ls []) := by
  obtain ⟨hx, hb, hml, hown, hts, hlt, hK, hX, hC, hX0, hbl, hL9⟩ := E
  obtain ⟨N, adr, w, f, adm, sf, af, rfl, rfl, hL, dl, dw, fs, fr, ft, ns, so, hv, nd, du, T, nr, rq, nq, oq, pd, er, no, oc, on_, owd, obf, rb, st, mt, co, py, hd, le, pr, ra, hR, hJ, rfl⟩ := hI
  have hbA : ¬ Lo s b0 := Nat.not_le.mpr hbl
  refine lv_aload_n hx hb dL_law_829 rfl (lv_at hl 1 rfl) ?_
  refine lv_aload_n hx hb dL_law_830 rfl (lv_at hl 0 rfl) ?_
  refine lv_iload hx hb dL_law_831 (lv_at hl 4 rfl) ?_
  refine lv_iconst (v := 1) hx hb dL_law_833 (by decide) ?_
  refine lv_iadd hx hb dL_law_834 ?_
  refine m_top (show nI i + 1 = nI (i + 1) from by rw [show (1 : Int32) = nI 1 from rfl, nI_add]) ?_
  refine va_sld hx hb hX0 hbl hbA hS (vp_in_nI (show (i + 1) < L by omega) (by omega)) dL_law_835 ?_
  refine m_top (show xs (nI (i + 1)).toNatClampNeg = xs (i + 1) from by rw [nI_clamp (by omega)]) ?_
  refine lv_aload_n hx hb dL_law_836 rfl (lv_at hl 3 rfl) ?_
  refine law_help (vx_runSW (hh := [(0, 9, 12, 13), (0, 9, 15, 15)]) (As := [.ref (adr 0), .int (xs (i + 1)), .ref b9]) (rest := []) ⟨hx, hb, hml, hown, hts⟩ (kL_why l D ac _ (Ax (Lo s) adm) _ adr w b9 f hL.1 hL.2.1 hL.2.2.1 _ _ (xs (i + 1)) _ (hL.1.cel (by omega) hR.1) (k_X7_why l D ac _ hlt (Abt (Ax (Lo s) adm) b9) _ adr w hL.1 dl dw fs fr ft ns so hv nd du T nr rq nq oq pd er no oc on_ owd obf rb st mt co py hd le pr ra hR (Nat.le_refl _) (xs (i + 1)))) (vx_cwSW 3 hts gL_law_L_why rfl rfl rfl (by decide +kernel) ⟨(Nat.le_of_ble_eq_true rfl), (Nat.le_of_ble_eq_true rfl)⟩) (pSL hK ((hX.now hS).narrow (fun q h => h.1)) hC) rfl rfl hl.1 rfl (lv_room (Nat.le_of_ble_eq_true rfl)) dL_law_837 ⟨by omega, by omega⟩) hL hS (fun r u H locs hp hL hS => ?_)
  rcases hp with ⟨rfl, v, hPx, hv0⟩ | ⟨hr0, hcode, hu⟩
  · obtain ⟨N9, a9, w1, f1⟩ := u
    have hv0 : f1 0 = v.toInt64 := hv0
    obtain ⟨hN9, ha9, hP⟩ := hPx
    have hN8 : N9 = 22 + 6 * no := hN9
    have ha8 : adr = a9 := ha9.symm
    subst ha8
    subst hN8
    refine lv_istore (lv' := [(5, .int 0), (0, .ref b0), (1, .ref (adr 0)), (2, .ref (adm 0)), (3, .ref b9), (4, .int (nI i))]) hx hb dL_law_840 hl (by decide) rfl (fun ls hl => ?_)
    refine lv_aload_n hx hb dL_law_842 rfl (lv_at hl 3 rfl) ?_
    refine lv_aload_n hx hb dL_law_843 rfl (lv_at hl 1 rfl) ?_
    refine lv_iload hx hb dL_law_844 (lv_at hl 5 rfl) ?_
    refine lv_iconst (v := 1) hx hb dL_law_846 (by decide) ?_
    refine lv_iadd hx hb dL_law_847 ?_
    refine m_top (show nI i + 1 = nI (i + 1) from by rw [show (1 : Int32) = nI 1 from rfl, nI_add]) ?_
    refine va_sld hx hb hX0 hbl hbA hS (vp_in_nI (show (i + 1) < L by omega) (by omega)) dL_law_848 ?_
    refine m_top (show xs (nI (i + 1)).toNatClampNeg = xs (i + 1) from by rw [nI_clamp (by omega)]) ?_
    refine law_mod (va_runV (As := [.int (xs (i + 1))]) (rest := []) ⟨hx, hb, hml, hown, hts⟩ (k_X8_why l D ac _ (Am adm) adm sf af hL.2.2.2.1 fs fr hJ.2.1 no oc on_ owd rb st hJ.2.2.2.1 hd (han_eq hJ.2.2.2.1 hR.hin hJ.2.2.2.2.2.2.2.2.2.2.2.1) obf mt co py hJ.2.2.2.2.1 (xs (i + 1))) (cwV 1 hts gL_law_X8_why rfl rfl rfl (by decide +kernel) ⟨(Nat.le_of_ble_eq_true rfl), (Nat.le_of_ble_eq_true rfl)⟩) (pV hK (ci := 8) rfl (hL.2.2.2.1.cel (by omega) rfl)) rfl rfl hl.1 rfl (lv_room (Nat.le_of_ble_eq_true rfl)) dL_law_849 ⟨by omega, by omega⟩) hL hS (fun b w9 H locs hq hLm hS => ?_)
    obtain ⟨s1, a1, rfl, hs0, hcase⟩ := hq
    have hL := hLm _ _ rfl
    have hz0 := z_why (b := b) (cn := cn) (a1 := a1) (af := af) (s1 := s1) (sf := sf) hR hP
    rcases hcase with ⟨hne, -⟩ | ⟨-, hN⟩
    · exact absurd hz0 hne
    rw [hz0] at hs0
    obtain ⟨hrb, hJJ⟩ := t_why hR hJ hcn hP hN
    subst hrb
    refine lv_istore (lv' := [(6, .int v), (5, .int 0), (0, .ref b0), (1, .ref (adr 0)), (2, .ref (adm 0)), (3, .ref b9), (4, .int (nI i))]) hx hb dL_law_852 hl (by decide) rfl (fun ls hl => ?_)
    refine lv_aload_n hx hb dL_law_854 rfl (lv_at hl 4 rfl) ?_
    refine r_calli (va_runV (As := []) (rest := []) ⟨hx, hb, hml, hown, hts⟩ (k_X8_thrown l D ac _ (Am adm) adm s1 a1 hL.2.2.2.1) (cwV 0 hts gL_law_X8_thrown rfl rfl rfl (by decide +kernel) ⟨(Nat.le_of_ble_eq_true rfl), (Nat.le_of_ble_eq_true rfl)⟩) (pV hK (ci := 8) rfl (hL.2.2.2.1.cel (by omega) rfl)) rfl rfl hl.1 rfl (lv_room (Nat.le_of_ble_eq_true rfl)) dL_law_855 ⟨by omega, by omega⟩) hS (fun k9 locs hk9 hS => ?_)
    rw [hs0] at hk9
    refine lv_iload hx hb dL_law_858 (lv_at hl 1 rfl) ?_
    refine lv_icmp_eq (tgt := 865) hx hb dL_law_860 (by decide) (fun _ => ?_) (fun cq => absurd (hk9) cq)
    refine lv_iload hx hb dL_law_865 (lv_at hl 1 rfl) ?_
    refine lv_if_ne (tgt := 882) hx hb dL_law_867 (by decide) (fun cq => absurd rfl cq) (fun _ => ?_)
    refine lv_aload_n hx hb dL_law_870 rfl (lv_at hl 5 rfl) ?_
    refine lv_iconst (v := 0) hx hb dL_law_871 (by decide) ?_
    refine h_lald hx hb hK hL.2.1 dL_law_872 ?_
    refine m_topl (show f1 0 = v.toInt64 from hv0) ?_
    refine lv_iload hx hb dL_law_873 (lv_at hl 0 rfl) ?_
    refine lv_i2l (v := v.toInt64) hx hb dL_law_875 rfl ?_
    refine W.lcmp hx hb dL_law_876 ?_
    refine m_top (show lg_cmp v.toInt64 v.toInt64 = 0 from cmp_self) ?_
    refine lv_if_eq (tgt := 882) hx hb dL_law_877 (by decide) (fun _ => ?_) (fun cq => absurd rfl cq)
    refine lv_goto (tgt := 1900) hx hb dL_law_882 (by decide) ?_
    exact W.widen (k := c0 + 8) (n := s0 + 42) (by omega) (by omega) (K _ _ _ (⟨_, _, _, _, _, _, _, rfl, rfl, hL, hJJ⟩) hS (lv_sub hl [2, 3, 4, 5, 6] rfl))
  · subst hu
    refine lv_istore (lv' := [(5, .int r), (0, .ref b0), (1, .ref (adr 0)), (2, .ref (adm 0)), (3, .ref b9), (4, .int (nI i))]) hx hb dL_law_840 hl (by decide) rfl (fun ls hl => ?_)
    refine lv_aload_n hx hb dL_law_842 rfl (lv_at hl 3 rfl) ?_
    refine lv_aload_n hx hb dL_law_843 rfl (lv_at hl 1 rfl) ?_
    refine lv_iload hx hb dL_law_844 (lv_at hl 5 rfl) ?_
    refine lv_iconst (v := 1) hx hb dL_law_846 (by decide) ?_
    refine lv_iadd hx hb dL_law_847 ?_
    refine m_top (show nI i + 1 = nI (i + 1) from by rw [show (1 : Int32) = nI 1 from rfl, nI_add]) ?_
    refine va_sld hx hb hX0 hbl hbA hS (vp_in_nI (show (i + 1) < L by omega) (by omega)) dL_law_848 ?_
    refine m_top (show xs (nI (i + 1)).toNatClampNeg = xs (i + 1) from by rw [nI_clamp (by omega)]) ?_
    refine law_mod (va_runV (As := [.int (xs (i + 1))]) (rest := []) ⟨hx, hb, hml, hown, hts⟩ (k_X8_why l D ac _ (Am adm) adm sf af hL.2.2.2.1 fs fr hJ.2.1 no oc on_ owd rb st hJ.2.2.2.1 hd (han_eq hJ.2.2.2.1 hR.hin hJ.2.2.2.2.2.2.2.2.2.2.2.1) obf mt co py hJ.2.2.2.2.1 (xs (i + 1))) (cwV 1 hts gL_law_X8_why rfl rfl rfl (by decide +kernel) ⟨(Nat.le_of_ble_eq_true rfl), (Nat.le_of_ble_eq_true rfl)⟩) (pV hK (ci := 8) rfl (hL.2.2.2.1.cel (by omega) rfl)) rfl rfl hl.1 rfl (lv_room (Nat.le_of_ble_eq_true rfl)) dL_law_849 ⟨by omega, by omega⟩) hL hS (fun b w9 H locs hq hLm hS => ?_)
    obtain ⟨s1, a1, rfl, hs0, hcase⟩ := hq
    have hL := hLm _ _ rfl
    have hS9 := hcase.elim (fun q => q.2) (fun q => absurd q.1 hcode)
    have hJJ : JJ ac (22 + 6 * no) adr w s1 a1 (cn + 1) := ⟨_, _, _, _, _, _, _, _, _, _, _, _, _, _, _, _, _, _, _, _, _, _, _, _, _, _, _, _, _, _, _, hR, hJ.scr hS9 hcn, rfl⟩
    refine lv_istore (lv' := [(6, .int b), (5, .int r), (0, .ref b0), (1, .ref (adr 0)), (2, .ref (adm 0)), (3, .ref b9), (4, .int (nI i))]) hx hb dL_law_852 hl (by decide) rfl (fun ls hl => ?_)
    refine lv_aload_n hx hb dL_law_854 rfl (lv_at hl 4 rfl) ?_
    refine r_calli (va_runV (As := []) (rest := []) ⟨hx, hb, hml, hown, hts⟩ (k_X8_thrown l D ac _ (Am adm) adm s1 a1 hL.2.2.2.1) (cwV 0 hts gL_law_X8_thrown rfl rfl rfl (by decide +kernel) ⟨(Nat.le_of_ble_eq_true rfl), (Nat.le_of_ble_eq_true rfl)⟩) (pV hK (ci := 8) rfl (hL.2.2.2.1.cel (by omega) rfl)) rfl rfl hl.1 rfl (lv_room (Nat.le_of_ble_eq_true rfl)) dL_law_855 ⟨by omega, by omega⟩) hS (fun k9 locs hk9 hS => ?_)
    rw [hs0] at hk9
    refine lv_iload hx hb dL_law_858 (lv_at hl 1 rfl) ?_
    refine lv_icmp_eq (tgt := 865) hx hb dL_law_860 (by decide) (fun _ => ?_) (fun cq => absurd (hk9.trans hr0.symm) cq)
    refine lv_iload hx hb dL_law_865 (lv_at hl 1 rfl) ?_
    refine lv_if_ne (tgt := 882) hx hb dL_law_867 (by decide) (fun _ => ?_) (fun cq => absurd (hr0.symm.trans cq) (code_ne cd2_le hcode))
    refine lv_goto (tgt := 1900) hx hb dL_law_882 (by decide) ?_
    exact W.widen (k := c0 + 8) (n := s0 + 42) (by omega) (by omega) (K _ _ _ (⟨_, _, _, _, _, _, _, rfl, rfl, hL, hJJ⟩) hS (lv_sub hl [2, 3, 4, 5, 6] rfl))
set_option maxHeartbeats 4000000 in
set_option maxRecDepth 100000 in
/-- the law at a call of wherefore -/
theorem lc_wherefore {p : Program} {l : Launch} {e : Env} {s : State} {m : MethodId} {below : List Frame} {meth : Method} {c : Code} {b0 L : Nat} {xs : Nat → Int32} {D : va_G} {ac : Nat → ClassId} (E : LEn p l s m c b0 L xs D ac) {Q : State → Prop} {x9 m9 b9 cn i c0 s0 : Nat} {H : Heap} {locs : List Loc} {ls : Array Slot} (hI : LIv D ac s x9 m9 b9 cn H) (hS : va_S (Lo s) s.heap H locs) (hl : lv_has ls 7 [(0, .ref b0), (1, .ref x9), (2, .ref m9), (3, .ref b9), (4, .int (nI i))]) (hi : i + 5 ≤ L) (hcn : cn + 1 < 1000) (hc : c0 + 8 ≤ room_1.cells) (hs : s0 + 42 ≤ room_1.slots) (K : ∀ (H1 : Heap) (locs1 : List Loc) (ls1 : Array Slot), LIv D ac s x9 m9 b9 (cn + 1) H1 → va_S (Lo s) s.heap H1 locs1 → lv_has ls1 7 [(0, .ref b0), (1, .ref x9), (2, .ref m9), (3, .ref b9), (4, .int (nI i))] → W p l e room_1 s m #[Value.ref b0] below meth c H1 locs1 (c0 + 8) (s0 + 42) Q (F0 m 1900 ls1 [])) : W p l e room_1 s m #[Value.ref b0] below meth c H locs c0 s0 Q (F0 m 885 ls []) := by
  obtain ⟨hx, hb, hml, hown, hts, hlt, hK, hX, hC, hX0, hbl, hL9⟩ := E
  obtain ⟨N, adr, w, f, adm, sf, af, rfl, rfl, hL, dl, dw, fs, fr, ft, ns, so, hv, nd, du, T, nr, rq, nq, oq, pd, er, no, oc, on_, owd, obf, rb, st, mt, co, py, hd, le, pr, ra, hR, hJ, rfl⟩ := hI
  have hbA : ¬ Lo s b0 := Nat.not_le.mpr hbl
  refine lv_aload_n hx hb dL_law_885 rfl (lv_at hl 1 rfl) ?_
  refine lv_aload_n hx hb dL_law_886 rfl (lv_at hl 0 rfl) ?_
  refine lv_iload hx hb dL_law_887 (lv_at hl 4 rfl) ?_
  refine lv_iconst (v := 1) hx hb dL_law_889 (by decide) ?_
  refine lv_iadd hx hb dL_law_890 ?_
  refine m_top (show nI i + 1 = nI (i + 1) from by rw [show (1 : Int32) = nI 1 from rfl, nI_add]) ?_
  refine va_sld hx hb hX0 hbl hbA hS (vp_in_nI (show (i + 1) < L by omega) (by omega)) dL_law_891 ?_
  refine m_top (show xs (nI (i + 1)).toNatClampNeg = xs (i + 1) from by rw [nI_clamp (by omega)]) ?_
  refine lv_aload_n hx hb dL_law_892 rfl (lv_at hl 3 rfl) ?_
  refine law_help (vx_runSW (hh := [(0, 9, 12, 13), (0, 9, 15, 15)]) (As := [.ref (adr 0), .int (xs (i + 1)), .ref b9]) (rest := []) ⟨hx, hb, hml, hown, hts⟩ (kL_wherefore l D ac _ (Ax (Lo s) adm) _ adr w b9 f hL.1 hL.2.1 hL.2.2.1 _ _ (xs (i + 1)) _ (hL.1.cel (by omega) hR.1) (k_X7_wherefore l D ac _ hlt (Abt (Ax (Lo s) adm) b9) _ adr w hL.1 dl dw fs fr ft ns so hv nd du T nr rq nq oq pd er no oc on_ owd obf rb st mt co py hd le pr ra hR (Nat.le_refl _) (xs (i + 1)))) (vx_cwSW 3 hts gL_law_L_wherefore rfl rfl rfl (by decide +kernel) ⟨(Nat.le_of_ble_eq_true rfl), (Nat.le_of_ble_eq_true rfl)⟩) (pSL hK ((hX.now hS).narrow (fun q h => h.1)) hC) rfl rfl hl.1 rfl (lv_room (Nat.le_of_ble_eq_true rfl)) dL_law_893 ⟨by omega, by omega⟩) hL hS (fun r u H locs hp hL hS => ?_)
  rcases hp with ⟨rfl, v, hPx, hv0⟩ | ⟨hr0, hcode, hu⟩
  · obtain ⟨N9, a9, w1, f1⟩ := u
    have hv0 : f1 0 = v.toInt64 := hv0
    obtain ⟨hN9, ha9, hP⟩ := hPx
    have hN8 : N9 = 22 + 6 * no := hN9
    have ha8 : adr = a9 := ha9.symm
    subst ha8
    subst hN8
    refine lv_istore (lv' := [(5, .int 0), (0, .ref b0), (1, .ref (adr 0)), (2, .ref (adm 0)), (3, .ref b9), (4, .int (nI i))]) hx hb dL_law_896 hl (by decide) rfl (fun ls hl => ?_)
    refine lv_aload_n hx hb dL_law_898 rfl (lv_at hl 3 rfl) ?_
    refine lv_aload_n hx hb dL_law_899 rfl (lv_at hl 1 rfl) ?_
    refine lv_iload hx hb dL_law_900 (lv_at hl 5 rfl) ?_
    refine lv_iconst (v := 1) hx hb dL_law_902 (by decide) ?_
    refine lv_iadd hx hb dL_law_903 ?_
    refine m_top (show nI i + 1 = nI (i + 1) from by rw [show (1 : Int32) = nI 1 from rfl, nI_add]) ?_
    refine va_sld hx hb hX0 hbl hbA hS (vp_in_nI (show (i + 1) < L by omega) (by omega)) dL_law_904 ?_
    refine m_top (show xs (nI (i + 1)).toNatClampNeg = xs (i + 1) from by rw [nI_clamp (by omega)]) ?_
    refine law_mod (va_runV (As := [.int (xs (i + 1))]) (rest := []) ⟨hx, hb, hml, hown, hts⟩ (k_X8_wherefore l D ac _ (Am adm) adm sf af hL.2.2.2.1 fs fr hJ.2.1 no oc on_ owd rb st hJ.2.2.2.1 hd (han_eq hJ.2.2.2.1 hR.hin hJ.2.2.2.2.2.2.2.2.2.2.2.1) obf mt co py hJ.2.2.2.2.1 (xs (i + 1))) (cwV 1 hts gL_law_X8_wherefore rfl rfl rfl (by decide +kernel) ⟨(Nat.le_of_ble_eq_true rfl), (Nat.le_of_ble_eq_true rfl)⟩) (pV hK (ci := 8) rfl (hL.2.2.2.1.cel (by omega) rfl)) rfl rfl hl.1 rfl (lv_room (Nat.le_of_ble_eq_true rfl)) dL_law_905 ⟨by omega, by omega⟩) hL hS (fun b w9 H locs hq hLm hS => ?_)
    obtain ⟨s1, a1, rfl, hs0, hcase⟩ := hq
    have hL := hLm _ _ rfl
    have hz0 := z_wherefore (b := b) (cn := cn) (a1 := a1) (af := af) (s1 := s1) (sf := sf) hR hP
    rcases hcase with ⟨hne, -⟩ | ⟨-, hN⟩
    · exact absurd hz0 hne
    rw [hz0] at hs0
    obtain ⟨hrb, hJJ⟩ := t_wherefore hR hJ hcn hP hN
    subst hrb
    refine lv_istore (lv' := [(6, .int v), (5, .int 0), (0, .ref b0), (1, .ref (adr 0)), (2, .ref (adm 0)), (3, .ref b9), (4, .int (nI i))]) hx hb dL_law_908 hl (by decide) rfl (fun ls hl => ?_)
    refine lv_aload_n hx hb dL_law_910 rfl (lv_at hl 4 rfl) ?_
    refine r_calli (va_runV (As := []) (rest := []) ⟨hx, hb, hml, hown, hts⟩ (k_X8_thrown l D ac _ (Am adm) adm s1 a1 hL.2.2.2.1) (cwV 0 hts gL_law_X8_thrown rfl rfl rfl (by decide +kernel) ⟨(Nat.le_of_ble_eq_true rfl), (Nat.le_of_ble_eq_true rfl)⟩) (pV hK (ci := 8) rfl (hL.2.2.2.1.cel (by omega) rfl)) rfl rfl hl.1 rfl (lv_room (Nat.le_of_ble_eq_true rfl)) dL_law_911 ⟨by omega, by omega⟩) hS (fun k9 locs hk9 hS => ?_)
    rw [hs0] at hk9
    refine lv_iload hx hb dL_law_914 (lv_at hl 1 rfl) ?_
    refine lv_icmp_eq (tgt := 921) hx hb dL_law_916 (by decide) (fun _ => ?_) (fun cq => absurd (hk9) cq)
    refine lv_iload hx hb dL_law_921 (lv_at hl 1 rfl) ?_
    refine lv_if_ne (tgt := 938) hx hb dL_law_923 (by decide) (fun cq => absurd rfl cq) (fun _ => ?_)
    refine lv_aload_n hx hb dL_law_926 rfl (lv_at hl 5 rfl) ?_
    refine lv_iconst (v := 0) hx hb dL_law_927 (by decide) ?_
    refine h_lald hx hb hK hL.2.1 dL_law_928 ?_
    refine m_topl (show f1 0 = v.toInt64 from hv0) ?_
    refine lv_iload hx hb dL_law_929 (lv_at hl 0 rfl) ?_
    refine lv_i2l (v := v.toInt64) hx hb dL_law_931 rfl ?_
    refine W.lcmp hx hb dL_law_932 ?_
    refine m_top (show lg_cmp v.toInt64 v.toInt64 = 0 from cmp_self) ?_
    refine lv_if_eq (tgt := 938) hx hb dL_law_933 (by decide) (fun _ => ?_) (fun cq => absurd rfl cq)
    refine lv_goto (tgt := 1900) hx hb dL_law_938 (by decide) ?_
    exact W.widen (k := c0 + 8) (n := s0 + 42) (by omega) (by omega) (K _ _ _ (⟨_, _, _, _, _, _, _, rfl, rfl, hL, hJJ⟩) hS (lv_sub hl [2, 3, 4, 5, 6] rfl))
  · subst hu
    refine lv_istore (lv' := [(5, .int r), (0, .ref b0), (1, .ref (adr 0)), (2, .ref (adm 0)), (3, .ref b9), (4, .int (nI i))]) hx hb dL_law_896 hl (by decide) rfl (fun ls hl => ?_)
    refine lv_aload_n hx hb dL_law_898 rfl (lv_at hl 3 rfl) ?_
    refine lv_aload_n hx hb dL_law_899 rfl (lv_at hl 1 rfl) ?_
    refine lv_iload hx hb dL_law_900 (lv_at hl 5 rfl) ?_
    refine lv_iconst (v := 1) hx hb dL_law_902 (by decide) ?_
    refine lv_iadd hx hb dL_law_903 ?_
    refine m_top (show nI i + 1 = nI (i + 1) from by rw [show (1 : Int32) = nI 1 from rfl, nI_add]) ?_
    refine va_sld hx hb hX0 hbl hbA hS (vp_in_nI (show (i + 1) < L by omega) (by omega)) dL_law_904 ?_
    refine m_top (show xs (nI (i + 1)).toNatClampNeg = xs (i + 1) from by rw [nI_clamp (by omega)]) ?_
    refine law_mod (va_runV (As := [.int (xs (i + 1))]) (rest := []) ⟨hx, hb, hml, hown, hts⟩ (k_X8_wherefore l D ac _ (Am adm) adm sf af hL.2.2.2.1 fs fr hJ.2.1 no oc on_ owd rb st hJ.2.2.2.1 hd (han_eq hJ.2.2.2.1 hR.hin hJ.2.2.2.2.2.2.2.2.2.2.2.1) obf mt co py hJ.2.2.2.2.1 (xs (i + 1))) (cwV 1 hts gL_law_X8_wherefore rfl rfl rfl (by decide +kernel) ⟨(Nat.le_of_ble_eq_true rfl), (Nat.le_of_ble_eq_true rfl)⟩) (pV hK (ci := 8) rfl (hL.2.2.2.1.cel (by omega) rfl)) rfl rfl hl.1 rfl (lv_room (Nat.le_of_ble_eq_true rfl)) dL_law_905 ⟨by omega, by omega⟩) hL hS (fun b w9 H locs hq hLm hS => ?_)
    obtain ⟨s1, a1, rfl, hs0, hcase⟩ := hq
    have hL := hLm _ _ rfl
    have hS9 := hcase.elim (fun q => q.2) (fun q => absurd q.1 hcode)
    have hJJ : JJ ac (22 + 6 * no) adr w s1 a1 (cn + 1) := ⟨_, _, _, _, _, _, _, _, _, _, _, _, _, _, _, _, _, _, _, _, _, _, _, _, _, _, _, _, _, _, _, hR, hJ.scr hS9 hcn, rfl⟩
    refine lv_istore (lv' := [(6, .int b), (5, .int r), (0, .ref b0), (1, .ref (adr 0)), (2, .ref (adm 0)), (3, .ref b9), (4, .int (nI i))]) hx hb dL_law_908 hl (by decide) rfl (fun ls hl => ?_)
    refine lv_aload_n hx hb dL_law_910 rfl (lv_at hl 4 rfl) ?_
    refine r_calli (va_runV (As := []) (rest := []) ⟨hx, hb, hml, hown, hts⟩ (k_X8_thrown l D ac _ (Am adm) adm s1 a1 hL.2.2.2.1) (cwV 0 hts gL_law_X8_thrown rfl rfl rfl (by decide +kernel) ⟨(Nat.le_of_ble_eq_true rfl), (Nat.le_of_ble_eq_true rfl)⟩) (pV hK (ci := 8) rfl (hL.2.2.2.1.cel (by omega) rfl)) rfl rfl hl.1 rfl (lv_room (Nat.le_of_ble_eq_true rfl)) dL_law_911 ⟨by omega, by omega⟩) hS (fun k9 locs hk9 hS => ?_)
    rw [hs0] at hk9
    refine lv_iload hx hb dL_law_914 (lv_at hl 1 rfl) ?_
    refine lv_icmp_eq (tgt := 921) hx hb dL_law_916 (by decide) (fun _ => ?_) (fun cq => absurd (hk9.trans hr0.symm) cq)
    refine lv_iload hx hb dL_law_921 (lv_at hl 1 rfl) ?_
    refine lv_if_ne (tgt := 938) hx hb dL_law_923 (by decide) (fun _ => ?_) (fun cq => absurd (hr0.symm.trans cq) (code_ne cd2_le hcode))
    refine lv_goto (tgt := 1900) hx hb dL_law_938 (by decide) ?_
    exact W.widen (k := c0 + 8) (n := s0 + 42) (by omega) (by omega) (K _ _ _ (⟨_, _, _, _, _, _, _, rfl, rfl, hL, hJJ⟩) hS (lv_sub hl [2, 3, 4, 5, 6] rfl))
set_option maxHeartbeats 4000000 in
set_option maxRecDepth 100000 in
/-- the law at a call of became -/
theorem lc_became {p : Program} {l : Launch} {e : Env} {s : State} {m : MethodId} {below : List Frame} {meth : Method} {c : Code} {b0 L : Nat} {xs : Nat → Int32} {D : va_G} {ac : Nat → ClassId} (E : LEn p l s m c b0 L xs D ac) {Q : State → Prop} {x9 m9 b9 cn i c0 s0 : Nat} {H : Heap} {locs : List Loc} {ls : Array Slot} (hI : LIv D ac s x9 m9 b9 cn H) (hS : va_S (Lo s) s.heap H locs) (hl : lv_has ls 7 [(0, .ref b0), (1, .ref x9), (2, .ref m9), (3, .ref b9), (4, .int (nI i))]) (hi : i + 5 ≤ L) (hcn : cn + 1 < 1000) (hc : c0 + 8 ≤ room_1.cells) (hs : s0 + 42 ≤ room_1.slots) (K : ∀ (H1 : Heap) (locs1 : List Loc) (ls1 : Array Slot), LIv D ac s x9 m9 b9 (cn + 1) H1 → va_S (Lo s) s.heap H1 locs1 → lv_has ls1 7 [(0, .ref b0), (1, .ref x9), (2, .ref m9), (3, .ref b9), (4, .int (nI i))] → W p l e room_1 s m #[Value.ref b0] below meth c H1 locs1 (c0 + 8) (s0 + 42) Q (F0 m 1900 ls1 [])) : W p l e room_1 s m #[Value.ref b0] below meth c H locs c0 s0 Q (F0 m 941 ls []) := by
  obtain ⟨hx, hb, hml, hown, hts, hlt, hK, hX, hC, hX0, hbl, hL9⟩ := E
  obtain ⟨N, adr, w, f, adm, sf, af, rfl, rfl, hL, dl, dw, fs, fr, ft, ns, so, hv, nd, du, T, nr, rq, nq, oq, pd, er, no, oc, on_, owd, obf, rb, st, mt, co, py, hd, le, pr, ra, hR, hJ, rfl⟩ := hI
  have hbA : ¬ Lo s b0 := Nat.not_le.mpr hbl
  refine lv_aload_n hx hb dL_law_941 rfl (lv_at hl 1 rfl) ?_
  refine lv_aload_n hx hb dL_law_942 rfl (lv_at hl 0 rfl) ?_
  refine lv_iload hx hb dL_law_943 (lv_at hl 4 rfl) ?_
  refine lv_iconst (v := 1) hx hb dL_law_945 (by decide) ?_
  refine lv_iadd hx hb dL_law_946 ?_
  refine m_top (show nI i + 1 = nI (i + 1) from by rw [show (1 : Int32) = nI 1 from rfl, nI_add]) ?_
  refine va_sld hx hb hX0 hbl hbA hS (vp_in_nI (show (i + 1) < L by omega) (by omega)) dL_law_947 ?_
  refine m_top (show xs (nI (i + 1)).toNatClampNeg = xs (i + 1) from by rw [nI_clamp (by omega)]) ?_
  refine lv_aload_n hx hb dL_law_948 rfl (lv_at hl 0 rfl) ?_
  refine lv_iload hx hb dL_law_949 (lv_at hl 4 rfl) ?_
  refine lv_iconst (v := 2) hx hb dL_law_951 (by decide) ?_
  refine lv_iadd hx hb dL_law_952 ?_
  refine m_top (show nI i + 2 = nI (i + 2) from by rw [show (2 : Int32) = nI 2 from rfl, nI_add]) ?_
  refine va_sld hx hb hX0 hbl hbA hS (vp_in_nI (show (i + 2) < L by omega) (by omega)) dL_law_953 ?_
  refine m_top (show xs (nI (i + 2)).toNatClampNeg = xs (i + 2) from by rw [nI_clamp (by omega)]) ?_
  refine lv_aload_n hx hb dL_law_954 rfl (lv_at hl 3 rfl) ?_
  refine law_help (vx_runSW (hh := [(0, 10, 13, 13), (0, 10, 17, 15), (0, 10, 21, 20)]) (As := [.ref (adr 0), .int (xs (i + 1)), .int (xs (i + 2)), .ref b9]) (rest := []) ⟨hx, hb, hml, hown, hts⟩ (kL_became l D ac _ (Ax (Lo s) adm) _ adr w b9 f hL.1 hL.2.1 hL.2.2.1 _ _ (xs (i + 1)) (xs (i + 2)) _ (hL.1.cel (by omega) hR.1) (k_X7_became l D ac _ hlt (Abt (Ax (Lo s) adm) b9) _ adr w hL.1 dl dw fs fr ft ns so hv nd du T nr rq nq oq pd er no oc on_ owd obf rb st mt co py hd le pr ra hR (Nat.le_refl _) (xs (i + 1)) (xs (i + 2)))) (vx_cwSW 4 hts gL_law_L_became rfl rfl rfl (by decide +kernel) ⟨(Nat.le_of_ble_eq_true rfl), (Nat.le_of_ble_eq_true rfl)⟩) (pSL hK ((hX.now hS).narrow (fun q h => h.1)) hC) rfl rfl hl.1 rfl (lv_room (Nat.le_of_ble_eq_true rfl)) dL_law_955 ⟨by omega, by omega⟩) hL hS (fun r u H locs hp hL hS => ?_)
  rcases hp with ⟨rfl, v, hPx, hv0⟩ | ⟨hr0, hcode, hu⟩
  · obtain ⟨N9, a9, w1, f1⟩ := u
    have hv0 : f1 0 = v.toInt64 := hv0
    obtain ⟨hN9, ha9, hP⟩ := hPx
    have hN8 : N9 = 22 + 6 * no := hN9
    have ha8 : adr = a9 := ha9.symm
    subst ha8
    subst hN8
    refine lv_istore (lv' := [(5, .int 0), (0, .ref b0), (1, .ref (adr 0)), (2, .ref (adm 0)), (3, .ref b9), (4, .int (nI i))]) hx hb dL_law_958 hl (by decide) rfl (fun ls hl => ?_)
    refine lv_aload_n hx hb dL_law_960 rfl (lv_at hl 3 rfl) ?_
    refine lv_aload_n hx hb dL_law_961 rfl (lv_at hl 1 rfl) ?_
    refine lv_iload hx hb dL_law_962 (lv_at hl 5 rfl) ?_
    refine lv_iconst (v := 1) hx hb dL_law_964 (by decide) ?_
    refine lv_iadd hx hb dL_law_965 ?_
    refine m_top (show nI i + 1 = nI (i + 1) from by rw [show (1 : Int32) = nI 1 from rfl, nI_add]) ?_
    refine va_sld hx hb hX0 hbl hbA hS (vp_in_nI (show (i + 1) < L by omega) (by omega)) dL_law_966 ?_
    refine m_top (show xs (nI (i + 1)).toNatClampNeg = xs (i + 1) from by rw [nI_clamp (by omega)]) ?_
    refine lv_aload_n hx hb dL_law_967 rfl (lv_at hl 1 rfl) ?_
    refine lv_iload hx hb dL_law_968 (lv_at hl 5 rfl) ?_
    refine lv_iconst (v := 2) hx hb dL_law_970 (by decide) ?_
    refine lv_iadd hx hb dL_law_971 ?_
    refine m_top (show nI i + 2 = nI (i + 2) from by rw [show (2 : Int32) = nI 2 from rfl, nI_add]) ?_
    refine va_sld hx hb hX0 hbl hbA hS (vp_in_nI (show (i + 2) < L by omega) (by omega)) dL_law_972 ?_
    refine m_top (show xs (nI (i + 2)).toNatClampNeg = xs (i + 2) from by rw [nI_clamp (by omega)]) ?_
    refine law_mod (va_runV (As := [.int (xs (i + 1)), .int (xs (i + 2))]) (rest := []) ⟨hx, hb, hml, hown, hts⟩ (k_X8_became l D ac _ (Am adm) adm sf af hL.2.2.2.1 no oc on_ owd rb st hJ.2.2.2.1 hd (han_eq hJ.2.2.2.1 hR.hin hJ.2.2.2.2.2.2.2.2.2.2.2.1) obf mt co py hJ.2.2.2.2.1 (xs (i + 1)) (xs (i + 2))) (cwV 2 hts gL_law_X8_became rfl rfl rfl (by decide +kernel) ⟨(Nat.le_of_ble_eq_true rfl), (Nat.le_of_ble_eq_true rfl)⟩) (pV hK (ci := 8) rfl (hL.2.2.2.1.cel (by omega) rfl)) rfl rfl hl.1 rfl (lv_room (Nat.le_of_ble_eq_true rfl)) dL_law_973 ⟨by omega, by omega⟩) hL hS (fun b w9 H locs hq hLm hS => ?_)
    obtain ⟨s1, a1, rfl, hs0, hcase⟩ := hq
    have hL := hLm _ _ rfl
    have hz0 := z_became (b := b) (cn := cn) (a1 := a1) (af := af) (s1 := s1) (sf := sf) hR hP
    rcases hcase with ⟨hne, -⟩ | ⟨-, hN⟩
    · exact absurd hz0 hne
    rw [hz0] at hs0
    obtain ⟨hrb, hJJ⟩ := t_became hR hJ hcn hP hN
    subst hrb
    refine lv_istore (lv' := [(6, .int v), (5, .int 0), (0, .ref b0), (1, .ref (adr 0)), (2, .ref (adm 0)), (3, .ref b9), (4, .int (nI i))]) hx hb dL_law_976 hl (by decide) rfl (fun ls hl => ?_)
    refine lv_aload_n hx hb dL_law_978 rfl (lv_at hl 4 rfl) ?_
    refine r_calli (va_runV (As := []) (rest := []) ⟨hx, hb, hml, hown, hts⟩ (k_X8_thrown l D ac _ (Am adm) adm s1 a1 hL.2.2.2.1) (cwV 0 hts gL_law_X8_thrown rfl rfl rfl (by decide +kernel) ⟨(Nat.le_of_ble_eq_true rfl), (Nat.le_of_ble_eq_true rfl)⟩) (pV hK (ci := 8) rfl (hL.2.2.2.1.cel (by omega) rfl)) rfl rfl hl.1 rfl (lv_room (Nat.le_of_ble_eq_true rfl)) dL_law_979 ⟨by omega, by omega⟩) hS (fun k9 locs hk9 hS => ?_)
    rw [hs0] at hk9
    refine lv_iload hx hb dL_law_982 (lv_at hl 1 rfl) ?_
    refine lv_icmp_eq (tgt := 989) hx hb dL_law_984 (by decide) (fun _ => ?_) (fun cq => absurd (hk9) cq)
    refine lv_iload hx hb dL_law_989 (lv_at hl 1 rfl) ?_
    refine lv_if_ne (tgt := 1006) hx hb dL_law_991 (by decide) (fun cq => absurd rfl cq) (fun _ => ?_)
    refine lv_aload_n hx hb dL_law_994 rfl (lv_at hl 5 rfl) ?_
    refine lv_iconst (v := 0) hx hb dL_law_995 (by decide) ?_
    refine h_lald hx hb hK hL.2.1 dL_law_996 ?_
    refine m_topl (show f1 0 = v.toInt64 from hv0) ?_
    refine lv_iload hx hb dL_law_997 (lv_at hl 0 rfl) ?_
    refine lv_i2l (v := v.toInt64) hx hb dL_law_999 rfl ?_
    refine W.lcmp hx hb dL_law_1000 ?_
    refine m_top (show lg_cmp v.toInt64 v.toInt64 = 0 from cmp_self) ?_
    refine lv_if_eq (tgt := 1006) hx hb dL_law_1001 (by decide) (fun _ => ?_) (fun cq => absurd rfl cq)
    refine lv_goto (tgt := 1900) hx hb dL_law_1006 (by decide) ?_
    exact W.widen (k := c0 + 8) (n := s0 + 42) (by omega) (by omega) (K _ _ _ (⟨_, _, _, _, _, _, _, rfl, rfl, hL, hJJ⟩) hS (lv_sub hl [2, 3, 4, 5, 6] rfl))
  · subst hu
    refine lv_istore (lv' := [(5, .int r), (0, .ref b0), (1, .ref (adr 0)), (2, .ref (adm 0)), (3, .ref b9), (4, .int (nI i))]) hx hb dL_law_958 hl (by decide) rfl (fun ls hl => ?_)
    refine lv_aload_n hx hb dL_law_960 rfl (lv_at hl 3 rfl) ?_
    refine lv_aload_n hx hb dL_law_961 rfl (lv_at hl 1 rfl) ?_
    refine lv_iload hx hb dL_law_962 (lv_at hl 5 rfl) ?_
    refine lv_iconst (v := 1) hx hb dL_law_964 (by decide) ?_
    refine lv_iadd hx hb dL_law_965 ?_
    refine m_top (show nI i + 1 = nI (i + 1) from by rw [show (1 : Int32) = nI 1 from rfl, nI_add]) ?_
    refine va_sld hx hb hX0 hbl hbA hS (vp_in_nI (show (i + 1) < L by omega) (by omega)) dL_law_966 ?_
    refine m_top (show xs (nI (i + 1)).toNatClampNeg = xs (i + 1) from by rw [nI_clamp (by omega)]) ?_
    refine lv_aload_n hx hb dL_law_967 rfl (lv_at hl 1 rfl) ?_
    refine lv_iload hx hb dL_law_968 (lv_at hl 5 rfl) ?_
    refine lv_iconst (v := 2) hx hb dL_law_970 (by decide) ?_
    refine lv_iadd hx hb dL_law_971 ?_
    refine m_top (show nI i + 2 = nI (i + 2) from by rw [show (2 : Int32) = nI 2 from rfl, nI_add]) ?_
    refine va_sld hx hb hX0 hbl hbA hS (vp_in_nI (show (i + 2) < L by omega) (by omega)) dL_law_972 ?_
    refine m_top (show xs (nI (i + 2)).toNatClampNeg = xs (i + 2) from by rw [nI_clamp (by omega)]) ?_
    refine law_mod (va_runV (As := [.int (xs (i + 1)), .int (xs (i + 2))]) (rest := []) ⟨hx, hb, hml, hown, hts⟩ (k_X8_became l D ac _ (Am adm) adm sf af hL.2.2.2.1 no oc on_ owd rb st hJ.2.2.2.1 hd (han_eq hJ.2.2.2.1 hR.hin hJ.2.2.2.2.2.2.2.2.2.2.2.1) obf mt co py hJ.2.2.2.2.1 (xs (i + 1)) (xs (i + 2))) (cwV 2 hts gL_law_X8_became rfl rfl rfl (by decide +kernel) ⟨(Nat.le_of_ble_eq_true rfl), (Nat.le_of_ble_eq_true rfl)⟩) (pV hK (ci := 8) rfl (hL.2.2.2.1.cel (by omega) rfl)) rfl rfl hl.1 rfl (lv_room (Nat.le_of_ble_eq_true rfl)) dL_law_973 ⟨by omega, by omega⟩) hL hS (fun b w9 H locs hq hLm hS => ?_)
    obtain ⟨s1, a1, rfl, hs0, hcase⟩ := hq
    have hL := hLm _ _ rfl
    have hS9 := hcase.elim (fun q => q.2) (fun q => absurd q.1 hcode)
    have hJJ : JJ ac (22 + 6 * no) adr w s1 a1 (cn + 1) := ⟨_, _, _, _, _, _, _, _, _, _, _, _, _, _, _, _, _, _, _, _, _, _, _, _, _, _, _, _, _, _, _, hR, hJ.scr hS9 hcn, rfl⟩
    refine lv_istore (lv' := [(6, .int b), (5, .int r), (0, .ref b0), (1, .ref (adr 0)), (2, .ref (adm 0)), (3, .ref b9), (4, .int (nI i))]) hx hb dL_law_976 hl (by decide) rfl (fun ls hl => ?_)
    refine lv_aload_n hx hb dL_law_978 rfl (lv_at hl 4 rfl) ?_
    refine r_calli (va_runV (As := []) (rest := []) ⟨hx, hb, hml, hown, hts⟩ (k_X8_thrown l D ac _ (Am adm) adm s1 a1 hL.2.2.2.1) (cwV 0 hts gL_law_X8_thrown rfl rfl rfl (by decide +kernel) ⟨(Nat.le_of_ble_eq_true rfl), (Nat.le_of_ble_eq_true rfl)⟩) (pV hK (ci := 8) rfl (hL.2.2.2.1.cel (by omega) rfl)) rfl rfl hl.1 rfl (lv_room (Nat.le_of_ble_eq_true rfl)) dL_law_979 ⟨by omega, by omega⟩) hS (fun k9 locs hk9 hS => ?_)
    rw [hs0] at hk9
    refine lv_iload hx hb dL_law_982 (lv_at hl 1 rfl) ?_
    refine lv_icmp_eq (tgt := 989) hx hb dL_law_984 (by decide) (fun _ => ?_) (fun cq => absurd (hk9.trans hr0.symm) cq)
    refine lv_iload hx hb dL_law_989 (lv_at hl 1 rfl) ?_
    refine lv_if_ne (tgt := 1006) hx hb dL_law_991 (by decide) (fun _ => ?_) (fun cq => absurd (hr0.symm.trans cq) (code_ne cd3_le hcode))
    refine lv_goto (tgt := 1900) hx hb dL_law_1006 (by decide) ?_
    exact W.widen (k := c0 + 8) (n := s0 + 42) (by omega) (by omega) (K _ _ _ (⟨_, _, _, _, _, _, _, rfl, rfl, hL, hJJ⟩) hS (lv_sub hl [2, 3, 4, 5, 6] rfl))
set_option maxHeartbeats 4000000 in
set_option maxRecDepth 100000 in
/-- the law at a call of match -/
theorem lc_match {p : Program} {l : Launch} {e : Env} {s : State} {m : MethodId} {below : List Frame} {meth : Method} {c : Code} {b0 L : Nat} {xs : Nat → Int32} {D : va_G} {ac : Nat → ClassId} (E : LEn p l s m c b0 L xs D ac) {Q : State → Prop} {x9 m9 b9 cn i c0 s0 : Nat} {H : Heap} {locs : List Loc} {ls : Array Slot} (hI : LIv D ac s x9 m9 b9 cn H) (hS : va_S (Lo s) s.heap H locs) (hl : lv_has ls 7 [(0, .ref b0), (1, .ref x9), (2, .ref m9), (3, .ref b9), (4, .int (nI i))]) (hi : i + 5 ≤ L) (hcn : cn + 1 < 1000) (hc : c0 + 8 ≤ room_1.cells) (hs : s0 + 42 ≤ room_1.slots) (K : ∀ (H1 : Heap) (locs1 : List Loc) (ls1 : Array Slot), LIv D ac s x9 m9 b9 (cn + 1) H1 → va_S (Lo s) s.heap H1 locs1 → lv_has ls1 7 [(0, .ref b0), (1, .ref x9), (2, .ref m9), (3, .ref b9), (4, .int (nI i))] → W p l e room_1 s m #[Value.ref b0] below meth c H1 locs1 (c0 + 8) (s0 + 42) Q (F0 m 1900 ls1 [])) : W p l e room_1 s m #[Value.ref b0] below meth c H locs c0 s0 Q (F0 m 1009 ls []) := by
  obtain ⟨hx, hb, hml, hown, hts, hlt, hK, hX, hC, hX0, hbl, hL9⟩ := E
  obtain ⟨N, adr, w, f, adm, sf, af, rfl, rfl, hL, dl, dw, fs, fr, ft, ns, so, hv, nd, du, T, nr, rq, nq, oq, pd, er, no, oc, on_, owd, obf, rb, st, mt, co, py, hd, le, pr, ra, hR, hJ, rfl⟩ := hI
  have hbA : ¬ Lo s b0 := Nat.not_le.mpr hbl
  refine lv_aload_n hx hb dL_law_1009 rfl (lv_at hl 1 rfl) ?_
  refine lv_aload_n hx hb dL_law_1010 rfl (lv_at hl 0 rfl) ?_
  refine lv_iload hx hb dL_law_1011 (lv_at hl 4 rfl) ?_
  refine lv_iconst (v := 1) hx hb dL_law_1013 (by decide) ?_
  refine lv_iadd hx hb dL_law_1014 ?_
  refine m_top (show nI i + 1 = nI (i + 1) from by rw [show (1 : Int32) = nI 1 from rfl, nI_add]) ?_
  refine va_sld hx hb hX0 hbl hbA hS (vp_in_nI (show (i + 1) < L by omega) (by omega)) dL_law_1015 ?_
  refine m_top (show xs (nI (i + 1)).toNatClampNeg = xs (i + 1) from by rw [nI_clamp (by omega)]) ?_
  refine lv_aload_n hx hb dL_law_1016 rfl (lv_at hl 3 rfl) ?_
  refine law_help (vx_runSW (hh := [(0, 9, 12, 13), (0, 9, 15, 15)]) (As := [.ref (adr 0), .int (xs (i + 1)), .ref b9]) (rest := []) ⟨hx, hb, hml, hown, hts⟩ (kL_match l D ac _ (Ax (Lo s) adm) _ adr w b9 f hL.1 hL.2.1 hL.2.2.1 _ _ (xs (i + 1)) _ (hL.1.cel (by omega) hR.1) (k_X7_match l D ac _ hlt (Abt (Ax (Lo s) adm) b9) _ adr w hL.1 dl dw fs fr ft ns so hv nd du T nr rq nq oq pd er no oc on_ owd obf rb st mt co py hd le pr ra hR (Nat.le_refl _) (xs (i + 1)))) (vx_cwSW 3 hts gL_law_L_match rfl rfl rfl (by decide +kernel) ⟨(Nat.le_of_ble_eq_true rfl), (Nat.le_of_ble_eq_true rfl)⟩) (pSL hK ((hX.now hS).narrow (fun q h => h.1)) hC) rfl rfl hl.1 rfl (lv_room (Nat.le_of_ble_eq_true rfl)) dL_law_1017 ⟨by omega, by omega⟩) hL hS (fun r u H locs hp hL hS => ?_)
  rcases hp with ⟨rfl, v, hPx, hv0⟩ | ⟨hr0, hcode, hu⟩
  · obtain ⟨N9, a9, w1, f1⟩ := u
    have hv0 : f1 0 = v.toInt64 := hv0
    obtain ⟨hN9, ha9, hP⟩ := hPx
    have hN8 : N9 = 22 + 6 * no := hN9
    have ha8 : adr = a9 := ha9.symm
    subst ha8
    subst hN8
    refine lv_istore (lv' := [(5, .int 0), (0, .ref b0), (1, .ref (adr 0)), (2, .ref (adm 0)), (3, .ref b9), (4, .int (nI i))]) hx hb dL_law_1020 hl (by decide) rfl (fun ls hl => ?_)
    refine lv_aload_n hx hb dL_law_1022 rfl (lv_at hl 3 rfl) ?_
    refine lv_aload_n hx hb dL_law_1023 rfl (lv_at hl 1 rfl) ?_
    refine lv_iload hx hb dL_law_1024 (lv_at hl 5 rfl) ?_
    refine lv_iconst (v := 1) hx hb dL_law_1026 (by decide) ?_
    refine lv_iadd hx hb dL_law_1027 ?_
    refine m_top (show nI i + 1 = nI (i + 1) from by rw [show (1 : Int32) = nI 1 from rfl, nI_add]) ?_
    refine va_sld hx hb hX0 hbl hbA hS (vp_in_nI (show (i + 1) < L by omega) (by omega)) dL_law_1028 ?_
    refine m_top (show xs (nI (i + 1)).toNatClampNeg = xs (i + 1) from by rw [nI_clamp (by omega)]) ?_
    refine law_mod (va_runV (As := [.int (xs (i + 1))]) (rest := []) ⟨hx, hb, hml, hown, hts⟩ (k_X8_match l D ac _ (Am adm) adm sf af hL.2.2.2.1 no oc on_ owd rb st hJ.2.2.2.1 hd (han_eq hJ.2.2.2.1 hR.hin hJ.2.2.2.2.2.2.2.2.2.2.2.1) obf mt co py hJ.2.2.2.2.1 (xs (i + 1))) (cwV 1 hts gL_law_X8_match rfl rfl rfl (by decide +kernel) ⟨(Nat.le_of_ble_eq_true rfl), (Nat.le_of_ble_eq_true rfl)⟩) (pV hK (ci := 8) rfl (hL.2.2.2.1.cel (by omega) rfl)) rfl rfl hl.1 rfl (lv_room (Nat.le_of_ble_eq_true rfl)) dL_law_1029 ⟨by omega, by omega⟩) hL hS (fun b w9 H locs hq hLm hS => ?_)
    obtain ⟨s1, a1, rfl, hs0, hcase⟩ := hq
    have hL := hLm _ _ rfl
    have hz0 := z_match (b := b) (cn := cn) (a1 := a1) (af := af) (s1 := s1) (sf := sf) hR hP
    rcases hcase with ⟨hne, -⟩ | ⟨-, hN⟩
    · exact absurd hz0 hne
    rw [hz0] at hs0
    obtain ⟨hrb, hJJ⟩ := t_match hR hJ hcn hP hN
    subst hrb
    refine lv_istore (lv' := [(6, .int v), (5, .int 0), (0, .ref b0), (1, .ref (adr 0)), (2, .ref (adm 0)), (3, .ref b9), (4, .int (nI i))]) hx hb dL_law_1032 hl (by decide) rfl (fun ls hl => ?_)
    refine lv_aload_n hx hb dL_law_1034 rfl (lv_at hl 4 rfl) ?_
    refine r_calli (va_runV (As := []) (rest := []) ⟨hx, hb, hml, hown, hts⟩ (k_X8_thrown l D ac _ (Am adm) adm s1 a1 hL.2.2.2.1) (cwV 0 hts gL_law_X8_thrown rfl rfl rfl (by decide +kernel) ⟨(Nat.le_of_ble_eq_true rfl), (Nat.le_of_ble_eq_true rfl)⟩) (pV hK (ci := 8) rfl (hL.2.2.2.1.cel (by omega) rfl)) rfl rfl hl.1 rfl (lv_room (Nat.le_of_ble_eq_true rfl)) dL_law_1035 ⟨by omega, by omega⟩) hS (fun k9 locs hk9 hS => ?_)
    rw [hs0] at hk9
    refine lv_iload hx hb dL_law_1038 (lv_at hl 1 rfl) ?_
    refine lv_icmp_eq (tgt := 1045) hx hb dL_law_1040 (by decide) (fun _ => ?_) (fun cq => absurd (hk9) cq)
    refine lv_iload hx hb dL_law_1045 (lv_at hl 1 rfl) ?_
    refine lv_if_ne (tgt := 1062) hx hb dL_law_1047 (by decide) (fun cq => absurd rfl cq) (fun _ => ?_)
    refine lv_aload_n hx hb dL_law_1050 rfl (lv_at hl 5 rfl) ?_
    refine lv_iconst (v := 0) hx hb dL_law_1051 (by decide) ?_
    refine h_lald hx hb hK hL.2.1 dL_law_1052 ?_
    refine m_topl (show f1 0 = v.toInt64 from hv0) ?_
    refine lv_iload hx hb dL_law_1053 (lv_at hl 0 rfl) ?_
    refine lv_i2l (v := v.toInt64) hx hb dL_law_1055 rfl ?_
    refine W.lcmp hx hb dL_law_1056 ?_
    refine m_top (show lg_cmp v.toInt64 v.toInt64 = 0 from cmp_self) ?_
    refine lv_if_eq (tgt := 1062) hx hb dL_law_1057 (by decide) (fun _ => ?_) (fun cq => absurd rfl cq)
    refine lv_goto (tgt := 1900) hx hb dL_law_1062 (by decide) ?_
    exact W.widen (k := c0 + 8) (n := s0 + 42) (by omega) (by omega) (K _ _ _ (⟨_, _, _, _, _, _, _, rfl, rfl, hL, hJJ⟩) hS (lv_sub hl [2, 3, 4, 5, 6] rfl))
  · subst hu
    refine lv_istore (lv' := [(5, .int r), (0, .ref b0), (1, .ref (adr 0)), (2, .ref (adm 0)), (3, .ref b9), (4, .int (nI i))]) hx hb dL_law_1020 hl (by decide) rfl (fun ls hl => ?_)
    refine lv_aload_n hx hb dL_law_1022 rfl (lv_at hl 3 rfl) ?_
    refine lv_aload_n hx hb dL_law_1023 rfl (lv_at hl 1 rfl) ?_
    refine lv_iload hx hb dL_law_1024 (lv_at hl 5 rfl) ?_
    refine lv_iconst (v := 1) hx hb dL_law_1026 (by decide) ?_
    refine lv_iadd hx hb dL_law_1027 ?_
    refine m_top (show nI i + 1 = nI (i + 1) from by rw [show (1 : Int32) = nI 1 from rfl, nI_add]) ?_
    refine va_sld hx hb hX0 hbl hbA hS (vp_in_nI (show (i + 1) < L by omega) (by omega)) dL_law_1028 ?_
    refine m_top (show xs (nI (i + 1)).toNatClampNeg = xs (i + 1) from by rw [nI_clamp (by omega)]) ?_
    refine law_mod (va_runV (As := [.int (xs (i + 1))]) (rest := []) ⟨hx, hb, hml, hown, hts⟩ (k_X8_match l D ac _ (Am adm) adm sf af hL.2.2.2.1 no oc on_ owd rb st hJ.2.2.2.1 hd (han_eq hJ.2.2.2.1 hR.hin hJ.2.2.2.2.2.2.2.2.2.2.2.1) obf mt co py hJ.2.2.2.2.1 (xs (i + 1))) (cwV 1 hts gL_law_X8_match rfl rfl rfl (by decide +kernel) ⟨(Nat.le_of_ble_eq_true rfl), (Nat.le_of_ble_eq_true rfl)⟩) (pV hK (ci := 8) rfl (hL.2.2.2.1.cel (by omega) rfl)) rfl rfl hl.1 rfl (lv_room (Nat.le_of_ble_eq_true rfl)) dL_law_1029 ⟨by omega, by omega⟩) hL hS (fun b w9 H locs hq hLm hS => ?_)
    obtain ⟨s1, a1, rfl, hs0, hcase⟩ := hq
    have hL := hLm _ _ rfl
    have hS9 := hcase.elim (fun q => q.2) (fun q => absurd q.1 hcode)
    have hJJ : JJ ac (22 + 6 * no) adr w s1 a1 (cn + 1) := ⟨_, _, _, _, _, _, _, _, _, _, _, _, _, _, _, _, _, _, _, _, _, _, _, _, _, _, _, _, _, _, _, hR, hJ.scr hS9 hcn, rfl⟩
    refine lv_istore (lv' := [(6, .int b), (5, .int r), (0, .ref b0), (1, .ref (adr 0)), (2, .ref (adm 0)), (3, .ref b9), (4, .int (nI i))]) hx hb dL_law_1032 hl (by decide) rfl (fun ls hl => ?_)
    refine lv_aload_n hx hb dL_law_1034 rfl (lv_at hl 4 rfl) ?_
    refine r_calli (va_runV (As := []) (rest := []) ⟨hx, hb, hml, hown, hts⟩ (k_X8_thrown l D ac _ (Am adm) adm s1 a1 hL.2.2.2.1) (cwV 0 hts gL_law_X8_thrown rfl rfl rfl (by decide +kernel) ⟨(Nat.le_of_ble_eq_true rfl), (Nat.le_of_ble_eq_true rfl)⟩) (pV hK (ci := 8) rfl (hL.2.2.2.1.cel (by omega) rfl)) rfl rfl hl.1 rfl (lv_room (Nat.le_of_ble_eq_true rfl)) dL_law_1035 ⟨by omega, by omega⟩) hS (fun k9 locs hk9 hS => ?_)
    rw [hs0] at hk9
    refine lv_iload hx hb dL_law_1038 (lv_at hl 1 rfl) ?_
    refine lv_icmp_eq (tgt := 1045) hx hb dL_law_1040 (by decide) (fun _ => ?_) (fun cq => absurd (hk9.trans hr0.symm) cq)
    refine lv_iload hx hb dL_law_1045 (lv_at hl 1 rfl) ?_
    refine lv_if_ne (tgt := 1062) hx hb dL_law_1047 (by decide) (fun _ => ?_) (fun cq => absurd (hr0.symm.trans cq) (code_ne cd2_le hcode))
    refine lv_goto (tgt := 1900) hx hb dL_law_1062 (by decide) ?_
    exact W.widen (k := c0 + 8) (n := s0 + 42) (by omega) (by omega) (K _ _ _ (⟨_, _, _, _, _, _, _, rfl, rfl, hL, hJJ⟩) hS (lv_sub hl [2, 3, 4, 5, 6] rfl))
set_option maxHeartbeats 4000000 in
set_option maxRecDepth 100000 in
/-- the law at a call of waiting -/
theorem lc_waiting {p : Program} {l : Launch} {e : Env} {s : State} {m : MethodId} {below : List Frame} {meth : Method} {c : Code} {b0 L : Nat} {xs : Nat → Int32} {D : va_G} {ac : Nat → ClassId} (E : LEn p l s m c b0 L xs D ac) {Q : State → Prop} {x9 m9 b9 cn i c0 s0 : Nat} {H : Heap} {locs : List Loc} {ls : Array Slot} (hI : LIv D ac s x9 m9 b9 cn H) (hS : va_S (Lo s) s.heap H locs) (hl : lv_has ls 7 [(0, .ref b0), (1, .ref x9), (2, .ref m9), (3, .ref b9), (4, .int (nI i))]) (hi : i + 5 ≤ L) (hcn : cn + 1 < 1000) (hc : c0 + 8 ≤ room_1.cells) (hs : s0 + 42 ≤ room_1.slots) (K : ∀ (H1 : Heap) (locs1 : List Loc) (ls1 : Array Slot), LIv D ac s x9 m9 b9 (cn + 1) H1 → va_S (Lo s) s.heap H1 locs1 → lv_has ls1 7 [(0, .ref b0), (1, .ref x9), (2, .ref m9), (3, .ref b9), (4, .int (nI i))] → W p l e room_1 s m #[Value.ref b0] below meth c H1 locs1 (c0 + 8) (s0 + 42) Q (F0 m 1900 ls1 [])) : W p l e room_1 s m #[Value.ref b0] below meth c H locs c0 s0 Q (F0 m 1065 ls []) := by
  obtain ⟨hx, hb, hml, hown, hts, hlt, hK, hX, hC, hX0, hbl, hL9⟩ := E
  obtain ⟨N, adr, w, f, adm, sf, af, rfl, rfl, hL, dl, dw, fs, fr, ft, ns, so, hv, nd, du, T, nr, rq, nq, oq, pd, er, no, oc, on_, owd, obf, rb, st, mt, co, py, hd, le, pr, ra, hR, hJ, rfl⟩ := hI
  have hbA : ¬ Lo s b0 := Nat.not_le.mpr hbl
  by_cases hz9 : xs (i + 1) = 0
  · refine lv_aload_n hx hb dL_law_1065 rfl (lv_at hl 1 rfl) ?_
    refine lv_aload_n hx hb dL_law_1066 rfl (lv_at hl 0 rfl) ?_
    refine lv_iload hx hb dL_law_1067 (lv_at hl 4 rfl) ?_
    refine lv_iconst (v := 1) hx hb dL_law_1069 (by decide) ?_
    refine lv_iadd hx hb dL_law_1070 ?_
    refine m_top (show nI i + 1 = nI (i + 1) from by rw [show (1 : Int32) = nI 1 from rfl, nI_add]) ?_
    refine va_sld hx hb hX0 hbl hbA hS (vp_in_nI (show (i + 1) < L by omega) (by omega)) dL_law_1071 ?_
    refine m_top (show xs (nI (i + 1)).toNatClampNeg = xs (i + 1) from by rw [nI_clamp (by omega)]) ?_
    refine lv_if_eq (tgt := 1079) hx hb dL_law_1072 (by decide) (fun _ => ?_) (fun cz => absurd hz9 cz)
    refine lv_iconst (v := 0) hx hb dL_law_1079 (by decide) ?_
    refine law_cls (va_runV (As := [.int 0]) (rest := []) ⟨hx, hb, hml, hown, hts⟩ (k_X7_waiting l D ac _ (Abt (Ax (Lo s) adm) b9) _ adr w hL.1 dl dw fs fr ft ns so hv nd du T nr rq nq oq pd er no oc on_ owd obf rb st mt co py hd le pr ra hR (Nat.le_refl _) 0) (cwV 1 hts gL_law_X7_waiting rfl rfl rfl (by decide +kernel) ⟨(Nat.le_of_ble_eq_true rfl), (Nat.le_of_ble_eq_true rfl)⟩) (pV hK (ci := 7) rfl (hL.1.cel (by omega) hR.1)) rfl rfl hl.1 rfl (lv_room (Nat.le_of_ble_eq_true rfl)) dL_law_1080 ⟨by omega, by omega⟩) hL hS (fun r w1 H locs hp hL hS => ?_)
    refine lv_aload_n hx hb dL_law_1083 rfl (lv_at hl 2 rfl) ?_
    refine lv_aload_n hx hb dL_law_1084 rfl (lv_at hl 0 rfl) ?_
    refine lv_iload hx hb dL_law_1085 (lv_at hl 4 rfl) ?_
    refine lv_iconst (v := 1) hx hb dL_law_1087 (by decide) ?_
    refine lv_iadd hx hb dL_law_1088 ?_
    refine m_top (show nI i + 1 = nI (i + 1) from by rw [show (1 : Int32) = nI 1 from rfl, nI_add]) ?_
    refine va_sld hx hb hX0 hbl hbA hS (vp_in_nI (show (i + 1) < L by omega) (by omega)) dL_law_1089 ?_
    refine m_top (show xs (nI (i + 1)).toNatClampNeg = xs (i + 1) from by rw [nI_clamp (by omega)]) ?_
    refine lv_if_eq (tgt := 1097) hx hb dL_law_1090 (by decide) (fun _ => ?_) (fun cz => absurd hz9 cz)
    refine lv_iconst (v := 0) hx hb dL_law_1097 (by decide) ?_
    refine law_mod (va_runV (As := [.int 0]) (rest := [.int r]) ⟨hx, hb, hml, hown, hts⟩ (k_X8_waiting l D ac _ (Am adm) adm sf af hL.2.2.2.1 no oc on_ owd rb st hJ.2.2.2.1 0) (cwV 1 hts gL_law_X8_waiting rfl rfl rfl (by decide +kernel) ⟨(Nat.le_of_ble_eq_true rfl), (Nat.le_of_ble_eq_true rfl)⟩) (pV hK (ci := 8) rfl (hL.2.2.2.1.cel (by omega) rfl)) rfl rfl hl.1 rfl (lv_room (Nat.le_of_ble_eq_true rfl)) dL_law_1098 ⟨by omega, by omega⟩) hL hS (fun b w9 H locs hq hLm hS => ?_)
    obtain ⟨hq0, hq1⟩ := hq
    have hL := hLm _ _ hq1
    obtain ⟨hrb, hJJ⟩ := t_waiting (Or.inl rfl) hR hJ hcn hp ⟨hq0, rfl, rfl⟩
    subst hrb
    refine lv_icmp_eq (tgt := 1900) hx hb dL_law_1101 (by decide) (fun _ => ?_) (fun cq => absurd rfl cq)
    exact W.widen (k := c0 + 8) (n := s0 + 42) (by omega) (by omega) (K _ _ _ (⟨_, _, _, _, _, _, _, rfl, rfl, hL, hJJ⟩) hS (lv_sub hl [0, 1, 2, 3, 4] rfl))
  · refine lv_aload_n hx hb dL_law_1065 rfl (lv_at hl 1 rfl) ?_
    refine lv_aload_n hx hb dL_law_1066 rfl (lv_at hl 0 rfl) ?_
    refine lv_iload hx hb dL_law_1067 (lv_at hl 4 rfl) ?_
    refine lv_iconst (v := 1) hx hb dL_law_1069 (by decide) ?_
    refine lv_iadd hx hb dL_law_1070 ?_
    refine m_top (show nI i + 1 = nI (i + 1) from by rw [show (1 : Int32) = nI 1 from rfl, nI_add]) ?_
    refine va_sld hx hb hX0 hbl hbA hS (vp_in_nI (show (i + 1) < L by omega) (by omega)) dL_law_1071 ?_
    refine m_top (show xs (nI (i + 1)).toNatClampNeg = xs (i + 1) from by rw [nI_clamp (by omega)]) ?_
    refine lv_if_eq (tgt := 1079) hx hb dL_law_1072 (by decide) (fun cz => absurd cz hz9) (fun _ => ?_)
    refine lv_iconst (v := 1) hx hb dL_law_1075 (by decide) ?_
    refine lv_goto (tgt := 1080) hx hb dL_law_1076 (by decide) ?_
    refine law_cls (va_runV (As := [.int 1]) (rest := []) ⟨hx, hb, hml, hown, hts⟩ (k_X7_waiting l D ac _ (Abt (Ax (Lo s) adm) b9) _ adr w hL.1 dl dw fs fr ft ns so hv nd du T nr rq nq oq pd er no oc on_ owd obf rb st mt co py hd le pr ra hR (Nat.le_refl _) 1) (cwV 1 hts gL_law_X7_waiting rfl rfl rfl (by decide +kernel) ⟨(Nat.le_of_ble_eq_true rfl), (Nat.le_of_ble_eq_true rfl)⟩) (pV hK (ci := 7) rfl (hL.1.cel (by omega) hR.1)) rfl rfl hl.1 rfl (lv_room (Nat.le_of_ble_eq_true rfl)) dL_law_1080 ⟨by omega, by omega⟩) hL hS (fun r w1 H locs hp hL hS => ?_)
    refine lv_aload_n hx hb dL_law_1083 rfl (lv_at hl 2 rfl) ?_
    refine lv_aload_n hx hb dL_law_1084 rfl (lv_at hl 0 rfl) ?_
    refine lv_iload hx hb dL_law_1085 (lv_at hl 4 rfl) ?_
    refine lv_iconst (v := 1) hx hb dL_law_1087 (by decide) ?_
    refine lv_iadd hx hb dL_law_1088 ?_
    refine m_top (show nI i + 1 = nI (i + 1) from by rw [show (1 : Int32) = nI 1 from rfl, nI_add]) ?_
    refine va_sld hx hb hX0 hbl hbA hS (vp_in_nI (show (i + 1) < L by omega) (by omega)) dL_law_1089 ?_
    refine m_top (show xs (nI (i + 1)).toNatClampNeg = xs (i + 1) from by rw [nI_clamp (by omega)]) ?_
    refine lv_if_eq (tgt := 1097) hx hb dL_law_1090 (by decide) (fun cz => absurd cz hz9) (fun _ => ?_)
    refine lv_iconst (v := 1) hx hb dL_law_1093 (by decide) ?_
    refine lv_goto (tgt := 1098) hx hb dL_law_1094 (by decide) ?_
    refine law_mod (va_runV (As := [.int 1]) (rest := [.int r]) ⟨hx, hb, hml, hown, hts⟩ (k_X8_waiting l D ac _ (Am adm) adm sf af hL.2.2.2.1 no oc on_ owd rb st hJ.2.2.2.1 1) (cwV 1 hts gL_law_X8_waiting rfl rfl rfl (by decide +kernel) ⟨(Nat.le_of_ble_eq_true rfl), (Nat.le_of_ble_eq_true rfl)⟩) (pV hK (ci := 8) rfl (hL.2.2.2.1.cel (by omega) rfl)) rfl rfl hl.1 rfl (lv_room (Nat.le_of_ble_eq_true rfl)) dL_law_1098 ⟨by omega, by omega⟩) hL hS (fun b w9 H locs hq hLm hS => ?_)
    obtain ⟨hq0, hq1⟩ := hq
    have hL := hLm _ _ hq1
    obtain ⟨hrb, hJJ⟩ := t_waiting (Or.inr rfl) hR hJ hcn hp ⟨hq0, rfl, rfl⟩
    subst hrb
    refine lv_icmp_eq (tgt := 1900) hx hb dL_law_1101 (by decide) (fun _ => ?_) (fun cq => absurd rfl cq)
    exact W.widen (k := c0 + 8) (n := s0 + 42) (by omega) (by omega) (K _ _ _ (⟨_, _, _, _, _, _, _, rfl, rfl, hL, hJJ⟩) hS (lv_sub hl [0, 1, 2, 3, 4] rfl))
