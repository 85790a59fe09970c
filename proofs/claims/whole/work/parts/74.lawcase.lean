set_option maxHeartbeats 4000000 in
set_option maxRecDepth 100000 in
/-- the law at a call of due -/
theorem lc_due {p : Program} {l : Launch} {e : Env} {s : State} {m : MethodId} {below : List Frame} {meth : Method} {c : Code} {b0 L : Nat} {xs : Nat → Int32} {D : va_G} {ac : Nat → ClassId} (E : LEn p l s m c b0 L xs D ac) {Q : State → Prop} {x9 m9 b9 cn i c0 s0 : Nat} {H : Heap} {locs : List Loc} {ls : Array Slot} (hI : LIv D ac s x9 m9 b9 cn H) (hS : va_S (Lo s) s.heap H locs) (hl : lv_has ls 7 [(0, .ref b0), (1, .ref x9), (2, .ref m9), (3, .ref b9), (4, .int (nI i))]) (hi : i + 5 ≤ L) (hcn : cn + 1 < 1000) (hc : c0 + 8 ≤ room_1.cells) (hs : s0 + 42 ≤ room_1.slots) (K : ∀ (H1 : Heap) (locs1 : List Loc) (ls1 : Array Slot), LIv D ac s x9 m9 b9 (cn + 1) H1 → va_S (Lo s) s.heap H1 locs1 → lv_has ls1 7 [(0, .ref b0), (1, .ref x9), (2, .ref m9), (3, .ref b9), (4, .int (nI i))] → W p l e room_1 s m #[Value.ref b0] below meth c H1 locs1 (c0 + 8) (s0 + 42) Q (F0 m 1900 ls1 [])) : W p l e room_1 s m #[Value.ref b0] below meth c H locs c0 s0 Q (F0 m 1590 ls []) := by
  obtain ⟨hx, hb, hml, hown, hts, hlt, hK, hX, hC, hX0, hbl, hL9⟩ := E
  obtain ⟨N, adr, w, f, adm, sf, af, rfl, rfl, hL, dl, dw, fs, fr, ft, ns, so, hv, nd, du, T, nr, rq, nq, oq, pd, er, no, oc, on_, owd, obf, rb, st, mt, co, py, hd, le, pr, ra, hR, hJ, rfl⟩ := hI
  have hbA : ¬ Lo s b0 := Nat.not_le.mpr hbl
  refine lv_aload_n hx hb dL_law_1590 rfl (lv_at hl 1 rfl) ?_
  refine law_cls (va_runV (As := []) (rest := []) ⟨hx, hb, hml, hown, hts⟩ (k_X7_due l D ac _ (Abt (Ax (Lo s) adm) b9) _ adr w hL.1 dl dw fs fr ft ns so hv nd du T nr rq nq oq pd er no oc on_ owd obf rb st mt co py hd le pr ra hR (Nat.le_refl _) ) (cwV 0 hts gL_law_X7_due rfl rfl rfl (by decide +kernel) ⟨(Nat.le_of_ble_eq_true rfl), (Nat.le_of_ble_eq_true rfl)⟩) (pV hK (ci := 7) rfl (hL.1.cel (by omega) hR.1)) rfl rfl hl.1 rfl (lv_room (Nat.le_of_ble_eq_true rfl)) dL_law_1591 ⟨by omega, by omega⟩) hL hS (fun r w1 H locs hp hL hS => ?_)
  refine lv_aload_n hx hb dL_law_1594 rfl (lv_at hl 2 rfl) ?_
  refine law_mod (va_runV (As := []) (rest := [.int r]) ⟨hx, hb, hml, hown, hts⟩ (k_X8_due l D ac _ (Am adm) adm sf af hL.2.2.2.1 ns (fun i => oc (so i)) (fun i => on_ (so i)) (fun i => owd (so i)) (fun i => obf (so i)) hJ.2.2.1 ) (cwV 0 hts gL_law_X8_due rfl rfl rfl (by decide +kernel) ⟨(Nat.le_of_ble_eq_true rfl), (Nat.le_of_ble_eq_true rfl)⟩) (pV hK (ci := 8) rfl (hL.2.2.2.1.cel (by omega) rfl)) rfl rfl hl.1 rfl (lv_room (Nat.le_of_ble_eq_true rfl)) dL_law_1595 ⟨by omega, by omega⟩) hL hS (fun b w9 H locs hq hLm hS => ?_)
  obtain ⟨hq0, hq1⟩ := hq
  have hL := hLm _ _ hq1
  obtain ⟨hrb, hJJ⟩ := t_due  hR hJ hcn hp ⟨hq0, rfl, rfl⟩
  subst hrb
  refine lv_icmp_eq (tgt := 1900) hx hb dL_law_1598 (by decide) (fun _ => ?_) (fun cq => absurd rfl cq)
  exact W.widen (k := c0 + 8) (n := s0 + 42) (by omega) (by omega) (K _ _ _ (⟨_, _, _, _, _, _, _, rfl, rfl, hL, hJJ⟩) hS (lv_sub hl [0, 1, 2, 3, 4] rfl))
set_option maxHeartbeats 4000000 in
set_option maxRecDepth 100000 in
/-- the law at a call of dueAt -/
theorem lc_dueAt {p : Program} {l : Launch} {e : Env} {s : State} {m : MethodId} {below : List Frame} {meth : Method} {c : Code} {b0 L : Nat} {xs : Nat → Int32} {D : va_G} {ac : Nat → ClassId} (E : LEn p l s m c b0 L xs D ac) {Q : State → Prop} {x9 m9 b9 cn i c0 s0 : Nat} {H : Heap} {locs : List Loc} {ls : Array Slot} (hI : LIv D ac s x9 m9 b9 cn H) (hS : va_S (Lo s) s.heap H locs) (hl : lv_has ls 7 [(0, .ref b0), (1, .ref x9), (2, .ref m9), (3, .ref b9), (4, .int (nI i))]) (hi : i + 5 ≤ L) (hcn : cn + 1 < 1000) (hc : c0 + 8 ≤ room_1.cells) (hs : s0 + 42 ≤ room_1.slots) (K : ∀ (H1 : Heap) (locs1 : List Loc) (ls1 : Array Slot), LIv D ac s x9 m9 b9 (cn + 1) H1 → va_S (Lo s) s.heap H1 locs1 → lv_has ls1 7 [(0, .ref b0), (1, .ref x9), (2, .ref m9), (3, .ref b9), (4, .int (nI i))] → W p l e room_1 s m #[Value.ref b0] below meth c H1 locs1 (c0 + 8) (s0 + 42) Q (F0 m 1900 ls1 [])) : W p l e room_1 s m #[Value.ref b0] below meth c H locs c0 s0 Q (F0 m 1603 ls []) := by
  obtain ⟨hx, hb, hml, hown, hts, hlt, hK, hX, hC, hX0, hbl, hL9⟩ := E
  obtain ⟨N, adr, w, f, adm, sf, af, rfl, rfl, hL, dl, dw, fs, fr, ft, ns, so, hv, nd, du, T, nr, rq, nq, oq, pd, er, no, oc, on_, owd, obf, rb, st, mt, co, py, hd, le, pr, ra, hR, hJ, rfl⟩ := hI
  have hbA : ¬ Lo s b0 := Nat.not_le.mpr hbl
  obtain ⟨cc9, -, hLs⟩ := hJ.2.2.2.2.2.2.2.1
  refine lv_aload_n hx hb dL_law_1603 rfl (lv_at hl 1 rfl) ?_
  refine lv_aload_n hx hb dL_law_1604 rfl (lv_at hl 0 rfl) ?_
  refine lv_iload hx hb dL_law_1605 (lv_at hl 4 rfl) ?_
  refine lv_iconst (v := 1) hx hb dL_law_1607 (by decide) ?_
  refine lv_iadd hx hb dL_law_1608 ?_
  refine m_top (show nI i + 1 = nI (i + 1) from by rw [show (1 : Int32) = nI 1 from rfl, nI_add]) ?_
  refine va_sld hx hb hX0 hbl hbA hS (vp_in_nI (show (i + 1) < L by omega) (by omega)) dL_law_1609 ?_
  refine m_top (show xs (nI (i + 1)).toNatClampNeg = xs (i + 1) from by rw [nI_clamp (by omega)]) ?_
  refine lv_aload_n hx hb dL_law_1610 rfl (lv_at hl 3 rfl) ?_
  refine law_help (vx_runSW (hh := [(0, 9, 12, 20)]) (As := [.ref (adr 0), .int (xs (i + 1)), .ref b9]) (rest := []) ⟨hx, hb, hml, hown, hts⟩ (kL_dueAt l D ac _ (Ax (Lo s) adm) _ adr w b9 f hL.1 hL.2.1 hL.2.2.1 _ _ (xs (i + 1)) _ (hL.1.cel (by omega) hR.1) (k_X7_dueAt l D ac _ hlt (Abt (Ax (Lo s) adm) b9) _ adr w hL.1 dl dw fs fr ft ns so hv nd du T nr rq nq oq pd er no oc on_ owd obf rb st mt co py hd le pr ra hR (Nat.le_refl _) (xs (i + 1)))) (vx_cwSW 3 hts gL_law_L_dueAt rfl rfl rfl (by decide +kernel) ⟨(Nat.le_of_ble_eq_true rfl), (Nat.le_of_ble_eq_true rfl)⟩) (pSL hK ((hX.now hS).narrow (fun q h => h.1)) hC) rfl rfl hl.1 rfl (lv_room (Nat.le_of_ble_eq_true rfl)) dL_law_1611 ⟨by omega, by omega⟩) hL hS (fun r u H locs hp hL hS => ?_)
  rcases hp with ⟨rfl, v, hPx, hv0⟩ | ⟨hr0, hcode, hu⟩
  · obtain ⟨N9, a9, w1, f1⟩ := u
    have hv0 : f1 0 = v.toInt64 := hv0
    obtain ⟨hN9, ha9, hP⟩ := hPx
    have hN8 : N9 = 22 + 6 * no := hN9
    have ha8 : adr = a9 := ha9.symm
    subst ha8
    subst hN8
    refine lv_istore (lv' := [(5, .int 0), (0, .ref b0), (1, .ref (adr 0)), (2, .ref (adm 0)), (3, .ref b9), (4, .int (nI i))]) hx hb dL_law_1614 hl (by decide) rfl (fun ls hl => ?_)
    refine lv_aload_n hx hb dL_law_1616 rfl (lv_at hl 3 rfl) ?_
    refine lv_aload_n hx hb dL_law_1617 rfl (lv_at hl 1 rfl) ?_
    refine lv_iload hx hb dL_law_1618 (lv_at hl 5 rfl) ?_
    refine lv_iconst (v := 1) hx hb dL_law_1620 (by decide) ?_
    refine lv_iadd hx hb dL_law_1621 ?_
    refine m_top (show nI i + 1 = nI (i + 1) from by rw [show (1 : Int32) = nI 1 from rfl, nI_add]) ?_
    refine va_sld hx hb hX0 hbl hbA hS (vp_in_nI (show (i + 1) < L by omega) (by omega)) dL_law_1622 ?_
    refine m_top (show xs (nI (i + 1)).toNatClampNeg = xs (i + 1) from by rw [nI_clamp (by omega)]) ?_
    refine law_mod (va_runV (As := [.int (xs (i + 1))]) (rest := []) ⟨hx, hb, hml, hown, hts⟩ (k_X8_dueAt l D ac _ (Am adm) adm sf af hL.2.2.2.1 ns (fun i => oc (so i)) (fun i => on_ (so i)) (fun i => owd (so i)) (fun i => obf (so i)) hJ.2.2.1 nd (dn_eq hLs hR.hin.2.1.1 hR.hin.2.1.2) hR.d40 (xs (i + 1))) (cwV 1 hts gL_law_X8_dueAt rfl rfl rfl (by decide +kernel) ⟨(Nat.le_of_ble_eq_true rfl), (Nat.le_of_ble_eq_true rfl)⟩) (pV hK (ci := 8) rfl (hL.2.2.2.1.cel (by omega) rfl)) rfl rfl hl.1 rfl (lv_room (Nat.le_of_ble_eq_true rfl)) dL_law_1623 ⟨by omega, by omega⟩) hL hS (fun b w9 H locs hq hLm hS => ?_)
    obtain ⟨s1, a1, rfl, hs0, hcase⟩ := hq
    have hL := hLm _ _ rfl
    have hz0 := z_dueAt (b := b) (cn := cn) (a1 := a1) (af := af) (s1 := s1) (sf := sf) hR hP
    rcases hcase with ⟨hne, -⟩ | ⟨-, hN⟩
    · exact absurd hz0 hne
    rw [hz0] at hs0
    obtain ⟨hrb, hJJ⟩ := t_dueAt hR hJ hcn hP hN
    subst hrb
    refine lv_istore (lv' := [(6, .int v), (5, .int 0), (0, .ref b0), (1, .ref (adr 0)), (2, .ref (adm 0)), (3, .ref b9), (4, .int (nI i))]) hx hb dL_law_1626 hl (by decide) rfl (fun ls hl => ?_)
    refine lv_aload_n hx hb dL_law_1628 rfl (lv_at hl 4 rfl) ?_
    refine r_calli (va_runV (As := []) (rest := []) ⟨hx, hb, hml, hown, hts⟩ (k_X8_thrown l D ac _ (Am adm) adm s1 a1 hL.2.2.2.1) (cwV 0 hts gL_law_X8_thrown rfl rfl rfl (by decide +kernel) ⟨(Nat.le_of_ble_eq_true rfl), (Nat.le_of_ble_eq_true rfl)⟩) (pV hK (ci := 8) rfl (hL.2.2.2.1.cel (by omega) rfl)) rfl rfl hl.1 rfl (lv_room (Nat.le_of_ble_eq_true rfl)) dL_law_1629 ⟨by omega, by omega⟩) hS (fun k9 locs hk9 hS => ?_)
    rw [hs0] at hk9
    refine lv_iload hx hb dL_law_1632 (lv_at hl 1 rfl) ?_
    refine lv_icmp_eq (tgt := 1639) hx hb dL_law_1634 (by decide) (fun _ => ?_) (fun cq => absurd (hk9) cq)
    refine lv_iload hx hb dL_law_1639 (lv_at hl 1 rfl) ?_
    refine lv_if_ne (tgt := 1656) hx hb dL_law_1641 (by decide) (fun cq => absurd rfl cq) (fun _ => ?_)
    refine lv_aload_n hx hb dL_law_1644 rfl (lv_at hl 5 rfl) ?_
    refine lv_iconst (v := 0) hx hb dL_law_1645 (by decide) ?_
    refine h_lald hx hb hK hL.2.1 dL_law_1646 ?_
    refine m_topl (show f1 0 = v.toInt64 from hv0) ?_
    refine lv_iload hx hb dL_law_1647 (lv_at hl 0 rfl) ?_
    refine lv_i2l (v := v.toInt64) hx hb dL_law_1649 rfl ?_
    refine W.lcmp hx hb dL_law_1650 ?_
    refine m_top (show lg_cmp v.toInt64 v.toInt64 = 0 from cmp_self) ?_
    refine lv_if_eq (tgt := 1656) hx hb dL_law_1651 (by decide) (fun _ => ?_) (fun cq => absurd rfl cq)
    refine lv_goto (tgt := 1900) hx hb dL_law_1656 (by decide) ?_
    exact W.widen (k := c0 + 8) (n := s0 + 42) (by omega) (by omega) (K _ _ _ (⟨_, _, _, _, _, _, _, rfl, rfl, hL, hJJ⟩) hS (lv_sub hl [2, 3, 4, 5, 6] rfl))
  · subst hu
    refine lv_istore (lv' := [(5, .int r), (0, .ref b0), (1, .ref (adr 0)), (2, .ref (adm 0)), (3, .ref b9), (4, .int (nI i))]) hx hb dL_law_1614 hl (by decide) rfl (fun ls hl => ?_)
    refine lv_aload_n hx hb dL_law_1616 rfl (lv_at hl 3 rfl) ?_
    refine lv_aload_n hx hb dL_law_1617 rfl (lv_at hl 1 rfl) ?_
    refine lv_iload hx hb dL_law_1618 (lv_at hl 5 rfl) ?_
    refine lv_iconst (v := 1) hx hb dL_law_1620 (by decide) ?_
    refine lv_iadd hx hb dL_law_1621 ?_
    refine m_top (show nI i + 1 = nI (i + 1) from by rw [show (1 : Int32) = nI 1 from rfl, nI_add]) ?_
    refine va_sld hx hb hX0 hbl hbA hS (vp_in_nI (show (i + 1) < L by omega) (by omega)) dL_law_1622 ?_
    refine m_top (show xs (nI (i + 1)).toNatClampNeg = xs (i + 1) from by rw [nI_clamp (by omega)]) ?_
    refine law_mod (va_runV (As := [.int (xs (i + 1))]) (rest := []) ⟨hx, hb, hml, hown, hts⟩ (k_X8_dueAt l D ac _ (Am adm) adm sf af hL.2.2.2.1 ns (fun i => oc (so i)) (fun i => on_ (so i)) (fun i => owd (so i)) (fun i => obf (so i)) hJ.2.2.1 nd (dn_eq hLs hR.hin.2.1.1 hR.hin.2.1.2) hR.d40 (xs (i + 1))) (cwV 1 hts gL_law_X8_dueAt rfl rfl rfl (by decide +kernel) ⟨(Nat.le_of_ble_eq_true rfl), (Nat.le_of_ble_eq_true rfl)⟩) (pV hK (ci := 8) rfl (hL.2.2.2.1.cel (by omega) rfl)) rfl rfl hl.1 rfl (lv_room (Nat.le_of_ble_eq_true rfl)) dL_law_1623 ⟨by omega, by omega⟩) hL hS (fun b w9 H locs hq hLm hS => ?_)
    obtain ⟨s1, a1, rfl, hs0, hcase⟩ := hq
    have hL := hLm _ _ rfl
    have hS9 := hcase.elim (fun q => q.2) (fun q => absurd q.1 hcode)
    have hJJ : JJ ac (22 + 6 * no) adr w s1 a1 (cn + 1) := ⟨_, _, _, _, _, _, _, _, _, _, _, _, _, _, _, _, _, _, _, _, _, _, _, _, _, _, _, _, _, _, _, hR, hJ.scr hS9 hcn, rfl⟩
    refine lv_istore (lv' := [(6, .int b), (5, .int r), (0, .ref b0), (1, .ref (adr 0)), (2, .ref (adm 0)), (3, .ref b9), (4, .int (nI i))]) hx hb dL_law_1626 hl (by decide) rfl (fun ls hl => ?_)
    refine lv_aload_n hx hb dL_law_1628 rfl (lv_at hl 4 rfl) ?_
    refine r_calli (va_runV (As := []) (rest := []) ⟨hx, hb, hml, hown, hts⟩ (k_X8_thrown l D ac _ (Am adm) adm s1 a1 hL.2.2.2.1) (cwV 0 hts gL_law_X8_thrown rfl rfl rfl (by decide +kernel) ⟨(Nat.le_of_ble_eq_true rfl), (Nat.le_of_ble_eq_true rfl)⟩) (pV hK (ci := 8) rfl (hL.2.2.2.1.cel (by omega) rfl)) rfl rfl hl.1 rfl (lv_room (Nat.le_of_ble_eq_true rfl)) dL_law_1629 ⟨by omega, by omega⟩) hS (fun k9 locs hk9 hS => ?_)
    rw [hs0] at hk9
    refine lv_iload hx hb dL_law_1632 (lv_at hl 1 rfl) ?_
    refine lv_icmp_eq (tgt := 1639) hx hb dL_law_1634 (by decide) (fun _ => ?_) (fun cq => absurd (hk9.trans hr0.symm) cq)
    refine lv_iload hx hb dL_law_1639 (lv_at hl 1 rfl) ?_
    refine lv_if_ne (tgt := 1656) hx hb dL_law_1641 (by decide) (fun _ => ?_) (fun cq => absurd (hr0.symm.trans cq) (code_ne cd1_le hcode))
    refine lv_goto (tgt := 1900) hx hb dL_law_1656 (by decide) ?_
    exact W.widen (k := c0 + 8) (n := s0 + 42) (by omega) (by omega) (K _ _ _ (⟨_, _, _, _, _, _, _, rfl, rfl, hL, hJJ⟩) hS (lv_sub hl [2, 3, 4, 5, 6] rfl))
set_option maxHeartbeats 4000000 in
set_option maxRecDepth 100000 in
/-- the law at a call of mend -/
theorem lc_mend {p : Program} {l : Launch} {e : Env} {s : State} {m : MethodId} {below : List Frame} {meth : Method} {c : Code} {b0 L : Nat} {xs : Nat → Int32} {D : va_G} {ac : Nat → ClassId} (E : LEn p l s m c b0 L xs D ac) {Q : State → Prop} {x9 m9 b9 cn i c0 s0 : Nat} {H : Heap} {locs : List Loc} {ls : Array Slot} (hI : LIv D ac s x9 m9 b9 cn H) (hS : va_S (Lo s) s.heap H locs) (hl : lv_has ls 7 [(0, .ref b0), (1, .ref x9), (2, .ref m9), (3, .ref b9), (4, .int (nI i))]) (hi : i + 5 ≤ L) (hcn : cn + 1 < 1000) (hc : c0 + 8 ≤ room_1.cells) (hs : s0 + 42 ≤ room_1.slots) (K : ∀ (H1 : Heap) (locs1 : List Loc) (ls1 : Array Slot), LIv D ac s x9 m9 b9 (cn + 1) H1 → va_S (Lo s) s.heap H1 locs1 → lv_has ls1 7 [(0, .ref b0), (1, .ref x9), (2, .ref m9), (3, .ref b9), (4, .int (nI i))] → W p l e room_1 s m #[Value.ref b0] below meth c H1 locs1 (c0 + 8) (s0 + 42) Q (F0 m 1900 ls1 [])) : W p l e room_1 s m #[Value.ref b0] below meth c H locs c0 s0 Q (F0 m 1659 ls []) := by
  obtain ⟨hx, hb, hml, hown, hts, hlt, hK, hX, hC, hX0, hbl, hL9⟩ := E
  obtain ⟨N, adr, w, f, adm, sf, af, rfl, rfl, hL, dl, dw, fs, fr, ft, ns, so, hv, nd, du, T, nr, rq, nq, oq, pd, er, no, oc, on_, owd, obf, rb, st, mt, co, py, hd, le, pr, ra, hR, hJ, rfl⟩ := hI
  have hbA : ¬ Lo s b0 := Nat.not_le.mpr hbl
  refine lv_aload_n hx hb dL_law_1659 rfl (lv_at hl 1 rfl) ?_
  refine lv_aload_n hx hb dL_law_1660 rfl (lv_at hl 0 rfl) ?_
  refine lv_iload hx hb dL_law_1661 (lv_at hl 4 rfl) ?_
  refine lv_iconst (v := 1) hx hb dL_law_1663 (by decide) ?_
  refine lv_iadd hx hb dL_law_1664 ?_
  refine m_top (show nI i + 1 = nI (i + 1) from by rw [show (1 : Int32) = nI 1 from rfl, nI_add]) ?_
  refine va_sld hx hb hX0 hbl hbA hS (vp_in_nI (show (i + 1) < L by omega) (by omega)) dL_law_1665 ?_
  refine m_top (show xs (nI (i + 1)).toNatClampNeg = xs (i + 1) from by rw [nI_clamp (by omega)]) ?_
  refine lv_aload_n hx hb dL_law_1666 rfl (lv_at hl 3 rfl) ?_
  refine law_help (vx_runSW (hh := [(0, 9, 12, 20), (0, 9, 15, 15)]) (As := [.ref (adr 0), .int (xs (i + 1)), .ref b9]) (rest := []) ⟨hx, hb, hml, hown, hts⟩ (kL_mend l D ac _ (Ax (Lo s) adm) _ adr w b9 f hL.1 hL.2.1 hL.2.2.1 _ _ (xs (i + 1)) _ (hL.1.cel (by omega) hR.1) (k_X7_mend l D ac _ hlt (Abt (Ax (Lo s) adm) b9) _ adr w hL.1 dl dw fs fr ft ns so hv nd du T nr rq nq oq pd er no oc on_ owd obf rb st mt co py hd le pr ra hR (Nat.le_refl _) (xs (i + 1)))) (vx_cwSW 3 hts gL_law_L_mend rfl rfl rfl (by decide +kernel) ⟨(Nat.le_of_ble_eq_true rfl), (Nat.le_of_ble_eq_true rfl)⟩) (pSL hK ((hX.now hS).narrow (fun q h => h.1)) hC) rfl rfl hl.1 rfl (lv_room (Nat.le_of_ble_eq_true rfl)) dL_law_1667 ⟨by omega, by omega⟩) hL hS (fun r u H locs hp hL hS => ?_)
  rcases hp with ⟨rfl, v, hPx, hv0⟩ | ⟨hr0, hcode, hu⟩
  · obtain ⟨N9, a9, w1, f1⟩ := u
    have hv0 : f1 0 = v.toInt64 := hv0
    obtain ⟨hN9, ha9, hP⟩ := hPx
    have hN8 : N9 = 22 + 6 * no := hN9
    have ha8 : adr = a9 := ha9.symm
    subst ha8
    subst hN8
    refine lv_istore (lv' := [(5, .int 0), (0, .ref b0), (1, .ref (adr 0)), (2, .ref (adm 0)), (3, .ref b9), (4, .int (nI i))]) hx hb dL_law_1670 hl (by decide) rfl (fun ls hl => ?_)
    refine lv_aload_n hx hb dL_law_1672 rfl (lv_at hl 3 rfl) ?_
    refine lv_aload_n hx hb dL_law_1673 rfl (lv_at hl 1 rfl) ?_
    refine lv_iload hx hb dL_law_1674 (lv_at hl 5 rfl) ?_
    refine lv_iconst (v := 1) hx hb dL_law_1676 (by decide) ?_
    refine lv_iadd hx hb dL_law_1677 ?_
    refine m_top (show nI i + 1 = nI (i + 1) from by rw [show (1 : Int32) = nI 1 from rfl, nI_add]) ?_
    refine va_sld hx hb hX0 hbl hbA hS (vp_in_nI (show (i + 1) < L by omega) (by omega)) dL_law_1678 ?_
    refine m_top (show xs (nI (i + 1)).toNatClampNeg = xs (i + 1) from by rw [nI_clamp (by omega)]) ?_
    refine law_mod (va_runV (As := [.int (xs (i + 1))]) (rest := []) ⟨hx, hb, hml, hown, hts⟩ (k_X8_mend l D ac _ (Am adm) adm sf af hL.2.2.2.1 fs fr hJ.2.1 ns (fun i => oc (so i)) (fun i => on_ (so i)) (fun i => owd (so i)) (fun i => obf (so i)) hJ.2.2.1 ft hJ.2.2.2.2.2.2.1.1 (xs (i + 1))) (cwV 1 hts gL_law_X8_mend rfl rfl rfl (by decide +kernel) ⟨(Nat.le_of_ble_eq_true rfl), (Nat.le_of_ble_eq_true rfl)⟩) (pV hK (ci := 8) rfl (hL.2.2.2.1.cel (by omega) rfl)) rfl rfl hl.1 rfl (lv_room (Nat.le_of_ble_eq_true rfl)) dL_law_1679 ⟨by omega, by omega⟩) hL hS (fun b w9 H locs hq hLm hS => ?_)
    obtain ⟨s1, a1, rfl, hs0, hcase⟩ := hq
    have hL := hLm _ _ rfl
    have hz0 := z_mend (b := b) (cn := cn) (a1 := a1) (af := af) (s1 := s1) (sf := sf) hR hP
    rcases hcase with ⟨hne, -⟩ | ⟨-, hN⟩
    · exact absurd hz0 hne
    rw [hz0] at hs0
    obtain ⟨hrb, hJJ⟩ := t_mend hR hJ hcn hP hN
    subst hrb
    refine lv_istore (lv' := [(6, .int v), (5, .int 0), (0, .ref b0), (1, .ref (adr 0)), (2, .ref (adm 0)), (3, .ref b9), (4, .int (nI i))]) hx hb dL_law_1682 hl (by decide) rfl (fun ls hl => ?_)
    refine lv_aload_n hx hb dL_law_1684 rfl (lv_at hl 4 rfl) ?_
    refine r_calli (va_runV (As := []) (rest := []) ⟨hx, hb, hml, hown, hts⟩ (k_X8_thrown l D ac _ (Am adm) adm s1 a1 hL.2.2.2.1) (cwV 0 hts gL_law_X8_thrown rfl rfl rfl (by decide +kernel) ⟨(Nat.le_of_ble_eq_true rfl), (Nat.le_of_ble_eq_true rfl)⟩) (pV hK (ci := 8) rfl (hL.2.2.2.1.cel (by omega) rfl)) rfl rfl hl.1 rfl (lv_room (Nat.le_of_ble_eq_true rfl)) dL_law_1685 ⟨by omega, by omega⟩) hS (fun k9 locs hk9 hS => ?_)
    rw [hs0] at hk9
    refine lv_iload hx hb dL_law_1688 (lv_at hl 1 rfl) ?_
    refine lv_icmp_eq (tgt := 1695) hx hb dL_law_1690 (by decide) (fun _ => ?_) (fun cq => absurd (hk9) cq)
    refine lv_iload hx hb dL_law_1695 (lv_at hl 1 rfl) ?_
    refine lv_if_ne (tgt := 1712) hx hb dL_law_1697 (by decide) (fun cq => absurd rfl cq) (fun _ => ?_)
    refine lv_aload_n hx hb dL_law_1700 rfl (lv_at hl 5 rfl) ?_
    refine lv_iconst (v := 0) hx hb dL_law_1701 (by decide) ?_
    refine h_lald hx hb hK hL.2.1 dL_law_1702 ?_
    refine m_topl (show f1 0 = v.toInt64 from hv0) ?_
    refine lv_iload hx hb dL_law_1703 (lv_at hl 0 rfl) ?_
    refine lv_i2l (v := v.toInt64) hx hb dL_law_1705 rfl ?_
    refine W.lcmp hx hb dL_law_1706 ?_
    refine m_top (show lg_cmp v.toInt64 v.toInt64 = 0 from cmp_self) ?_
    refine lv_if_eq (tgt := 1712) hx hb dL_law_1707 (by decide) (fun _ => ?_) (fun cq => absurd rfl cq)
    refine lv_goto (tgt := 1900) hx hb dL_law_1712 (by decide) ?_
    exact W.widen (k := c0 + 8) (n := s0 + 42) (by omega) (by omega) (K _ _ _ (⟨_, _, _, _, _, _, _, rfl, rfl, hL, hJJ⟩) hS (lv_sub hl [2, 3, 4, 5, 6] rfl))
  · subst hu
    refine lv_istore (lv' := [(5, .int r), (0, .ref b0), (1, .ref (adr 0)), (2, .ref (adm 0)), (3, .ref b9), (4, .int (nI i))]) hx hb dL_law_1670 hl (by decide) rfl (fun ls hl => ?_)
    refine lv_aload_n hx hb dL_law_1672 rfl (lv_at hl 3 rfl) ?_
    refine lv_aload_n hx hb dL_law_1673 rfl (lv_at hl 1 rfl) ?_
    refine lv_iload hx hb dL_law_1674 (lv_at hl 5 rfl) ?_
    refine lv_iconst (v := 1) hx hb dL_law_1676 (by decide) ?_
    refine lv_iadd hx hb dL_law_1677 ?_
    refine m_top (show nI i + 1 = nI (i + 1) from by rw [show (1 : Int32) = nI 1 from rfl, nI_add]) ?_
    refine va_sld hx hb hX0 hbl hbA hS (vp_in_nI (show (i + 1) < L by omega) (by omega)) dL_law_1678 ?_
    refine m_top (show xs (nI (i + 1)).toNatClampNeg = xs (i + 1) from by rw [nI_clamp (by omega)]) ?_
    refine law_mod (va_runV (As := [.int (xs (i + 1))]) (rest := []) ⟨hx, hb, hml, hown, hts⟩ (k_X8_mend l D ac _ (Am adm) adm sf af hL.2.2.2.1 fs fr hJ.2.1 ns (fun i => oc (so i)) (fun i => on_ (so i)) (fun i => owd (so i)) (fun i => obf (so i)) hJ.2.2.1 ft hJ.2.2.2.2.2.2.1.1 (xs (i + 1))) (cwV 1 hts gL_law_X8_mend rfl rfl rfl (by decide +kernel) ⟨(Nat.le_of_ble_eq_true rfl), (Nat.le_of_ble_eq_true rfl)⟩) (pV hK (ci := 8) rfl (hL.2.2.2.1.cel (by omega) rfl)) rfl rfl hl.1 rfl (lv_room (Nat.le_of_ble_eq_true rfl)) dL_law_1679 ⟨by omega, by omega⟩) hL hS (fun b w9 H locs hq hLm hS => ?_)
    obtain ⟨s1, a1, rfl, hs0, hcase⟩ := hq
    have hL := hLm _ _ rfl
    have hS9 := hcase.elim (fun q => q.2) (fun q => absurd q.1 hcode)
    have hJJ : JJ ac (22 + 6 * no) adr w s1 a1 (cn + 1) := ⟨_, _, _, _, _, _, _, _, _, _, _, _, _, _, _, _, _, _, _, _, _, _, _, _, _, _, _, _, _, _, _, hR, hJ.scr hS9 hcn, rfl⟩
    refine lv_istore (lv' := [(6, .int b), (5, .int r), (0, .ref b0), (1, .ref (adr 0)), (2, .ref (adm 0)), (3, .ref b9), (4, .int (nI i))]) hx hb dL_law_1682 hl (by decide) rfl (fun ls hl => ?_)
    refine lv_aload_n hx hb dL_law_1684 rfl (lv_at hl 4 rfl) ?_
    refine r_calli (va_runV (As := []) (rest := []) ⟨hx, hb, hml, hown, hts⟩ (k_X8_thrown l D ac _ (Am adm) adm s1 a1 hL.2.2.2.1) (cwV 0 hts gL_law_X8_thrown rfl rfl rfl (by decide +kernel) ⟨(Nat.le_of_ble_eq_true rfl), (Nat.le_of_ble_eq_true rfl)⟩) (pV hK (ci := 8) rfl (hL.2.2.2.1.cel (by omega) rfl)) rfl rfl hl.1 rfl (lv_room (Nat.le_of_ble_eq_true rfl)) dL_law_1685 ⟨by omega, by omega⟩) hS (fun k9 locs hk9 hS => ?_)
    rw [hs0] at hk9
    refine lv_iload hx hb dL_law_1688 (lv_at hl 1 rfl) ?_
    refine lv_icmp_eq (tgt := 1695) hx hb dL_law_1690 (by decide) (fun _ => ?_) (fun cq => absurd (hk9.trans hr0.symm) cq)
    refine lv_iload hx hb dL_law_1695 (lv_at hl 1 rfl) ?_
    refine lv_if_ne (tgt := 1712) hx hb dL_law_1697 (by decide) (fun _ => ?_) (fun cq => absurd (hr0.symm.trans cq) (code_ne cd2_le hcode))
    refine lv_goto (tgt := 1900) hx hb dL_law_1712 (by decide) ?_
    exact W.widen (k := c0 + 8) (n := s0 + 42) (by omega) (by omega) (K _ _ _ (⟨_, _, _, _, _, _, _, rfl, rfl, hL, hJJ⟩) hS (lv_sub hl [2, 3, 4, 5, 6] rfl))
set_option maxHeartbeats 4000000 in
set_option maxRecDepth 100000 in
/-- the law at a call of setPrices -/
theorem lc_setPrices {p : Program} {l : Launch} {e : Env} {s : State} {m : MethodId} {below : List Frame} {meth : Method} {c : Code} {b0 L : Nat} {xs : Nat → Int32} {D : va_G} {ac : Nat → ClassId} (E : LEn p l s m c b0 L xs D ac) {Q : State → Prop} {x9 m9 b9 cn i c0 s0 : Nat} {H : Heap} {locs : List Loc} {ls : Array Slot} (hI : LIv D ac s x9 m9 b9 cn H) (hS : va_S (Lo s) s.heap H locs) (hl : lv_has ls 7 [(0, .ref b0), (1, .ref x9), (2, .ref m9), (3, .ref b9), (4, .int (nI i))]) (hi : i + 5 ≤ L) (hcn : cn + 1 < 1000) (hc : c0 + 8 ≤ room_1.cells) (hs : s0 + 42 ≤ room_1.slots) (K : ∀ (H1 : Heap) (locs1 : List Loc) (ls1 : Array Slot), LIv D ac s x9 m9 b9 (cn + 1) H1 → va_S (Lo s) s.heap H1 locs1 → lv_has ls1 7 [(0, .ref b0), (1, .ref x9), (2, .ref m9), (3, .ref b9), (4, .int (nI i))] → W p l e room_1 s m #[Value.ref b0] below meth c H1 locs1 (c0 + 8) (s0 + 42) Q (F0 m 1900 ls1 [])) : W p l e room_1 s m #[Value.ref b0] below meth c H locs c0 s0 Q (F0 m 1715 ls []) := by
  obtain ⟨hx, hb, hml, hown, hts, hlt, hK, hX, hC, hX0, hbl, hL9⟩ := E
  obtain ⟨N, adr, w, f, adm, sf, af, rfl, rfl, hL, dl, dw, fs, fr, ft, ns, so, hv, nd, du, T, nr, rq, nq, oq, pd, er, no, oc, on_, owd, obf, rb, st, mt, co, py, hd, le, pr, ra, hR, hJ, rfl⟩ := hI
  have hbA : ¬ Lo s b0 := Nat.not_le.mpr hbl
  refine lv_aload_n hx hb dL_law_1715 rfl (lv_at hl 1 rfl) ?_
  refine lv_aload_n hx hb dL_law_1716 rfl (lv_at hl 0 rfl) ?_
  refine lv_iload hx hb dL_law_1717 (lv_at hl 4 rfl) ?_
  refine lv_iconst (v := 1) hx hb dL_law_1719 (by decide) ?_
  refine lv_iadd hx hb dL_law_1720 ?_
  refine m_top (show nI i + 1 = nI (i + 1) from by rw [show (1 : Int32) = nI 1 from rfl, nI_add]) ?_
  refine va_sld hx hb hX0 hbl hbA hS (vp_in_nI (show (i + 1) < L by omega) (by omega)) dL_law_1721 ?_
  refine m_top (show xs (nI (i + 1)).toNatClampNeg = xs (i + 1) from by rw [nI_clamp (by omega)]) ?_
  refine lv_aload_n hx hb dL_law_1722 rfl (lv_at hl 0 rfl) ?_
  refine lv_iload hx hb dL_law_1723 (lv_at hl 4 rfl) ?_
  refine lv_iconst (v := 2) hx hb dL_law_1725 (by decide) ?_
  refine lv_iadd hx hb dL_law_1726 ?_
  refine m_top (show nI i + 2 = nI (i + 2) from by rw [show (2 : Int32) = nI 2 from rfl, nI_add]) ?_
  refine va_sld hx hb hX0 hbl hbA hS (vp_in_nI (show (i + 2) < L by omega) (by omega)) dL_law_1727 ?_
  refine m_top (show xs (nI (i + 2)).toNatClampNeg = xs (i + 2) from by rw [nI_clamp (by omega)]) ?_
  refine lv_aload_n hx hb dL_law_1728 rfl (lv_at hl 0 rfl) ?_
  refine lv_iload hx hb dL_law_1729 (lv_at hl 4 rfl) ?_
  refine lv_iconst (v := 3) hx hb dL_law_1731 (by decide) ?_
  refine lv_iadd hx hb dL_law_1732 ?_
  refine m_top (show nI i + 3 = nI (i + 3) from by rw [show (3 : Int32) = nI 3 from rfl, nI_add]) ?_
  refine va_sld hx hb hX0 hbl hbA hS (vp_in_nI (show (i + 3) < L by omega) (by omega)) dL_law_1733 ?_
  refine m_top (show xs (nI (i + 3)).toNatClampNeg = xs (i + 3) from by rw [nI_clamp (by omega)]) ?_
  refine law_help (vx_runSW (hh := [(0, 7, 10, 13)]) (As := [.ref (adr 0), .int (xs (i + 1)), .int (xs (i + 2)), .int (xs (i + 3))]) (rest := []) ⟨hx, hb, hml, hown, hts⟩ (kL_setPrices l D ac _ (Ax (Lo s) adm) _ adr w b9 f hL.1 hL.2.1 hL.2.2.1 _ _ (xs (i + 1)) (xs (i + 2)) (xs (i + 3)) _ (hL.1.cel (by omega) hR.1) (k_X7_setPrices l D ac _ hlt (Abt (Ax (Lo s) adm) b9) _ adr w hL.1 dl dw fs fr ft ns so hv nd du T nr rq nq oq pd er no oc on_ owd obf rb st mt co py hd le pr ra hR (Nat.le_refl _) (xs (i + 1)) (xs (i + 2)) (xs (i + 3)))) (vx_cwSW 4 hts gL_law_L_setPrices rfl rfl rfl (by decide +kernel) ⟨(Nat.le_of_ble_eq_true rfl), (Nat.le_of_ble_eq_true rfl)⟩) (pSL hK ((hX.now hS).narrow (fun q h => h.1)) hC) rfl rfl hl.1 rfl (lv_room (Nat.le_of_ble_eq_true rfl)) dL_law_1734 ⟨by omega, by omega⟩) hL hS (fun r u H locs hp hL hS => ?_)
  rcases hp with ⟨rfl, hN0, ha0, hP0⟩ | ⟨hr0, hcode, hu⟩
  · obtain ⟨N9, a9, w1, f1⟩ := u
    have hN8 : N9 = 22 + 6 * no := hN0
    have ha8 : adr = a9 := ha0.symm
    subst ha8
    subst hN8
    have hP := hP0
    refine lv_istore (lv' := [(5, .int 0), (0, .ref b0), (1, .ref (adr 0)), (2, .ref (adm 0)), (3, .ref b9), (4, .int (nI i))]) hx hb dL_law_1737 hl (by decide) rfl (fun ls hl => ?_)
    refine lv_aload_n hx hb dL_law_1739 rfl (lv_at hl 3 rfl) ?_
    refine lv_aload_n hx hb dL_law_1740 rfl (lv_at hl 1 rfl) ?_
    refine lv_iload hx hb dL_law_1741 (lv_at hl 5 rfl) ?_
    refine lv_iconst (v := 1) hx hb dL_law_1743 (by decide) ?_
    refine lv_iadd hx hb dL_law_1744 ?_
    refine m_top (show nI i + 1 = nI (i + 1) from by rw [show (1 : Int32) = nI 1 from rfl, nI_add]) ?_
    refine va_sld hx hb hX0 hbl hbA hS (vp_in_nI (show (i + 1) < L by omega) (by omega)) dL_law_1745 ?_
    refine m_top (show xs (nI (i + 1)).toNatClampNeg = xs (i + 1) from by rw [nI_clamp (by omega)]) ?_
    refine lv_aload_n hx hb dL_law_1746 rfl (lv_at hl 1 rfl) ?_
    refine lv_iload hx hb dL_law_1747 (lv_at hl 5 rfl) ?_
    refine lv_iconst (v := 2) hx hb dL_law_1749 (by decide) ?_
    refine lv_iadd hx hb dL_law_1750 ?_
    refine m_top (show nI i + 2 = nI (i + 2) from by rw [show (2 : Int32) = nI 2 from rfl, nI_add]) ?_
    refine va_sld hx hb hX0 hbl hbA hS (vp_in_nI (show (i + 2) < L by omega) (by omega)) dL_law_1751 ?_
    refine m_top (show xs (nI (i + 2)).toNatClampNeg = xs (i + 2) from by rw [nI_clamp (by omega)]) ?_
    refine lv_aload_n hx hb dL_law_1752 rfl (lv_at hl 1 rfl) ?_
    refine lv_iload hx hb dL_law_1753 (lv_at hl 5 rfl) ?_
    refine lv_iconst (v := 3) hx hb dL_law_1755 (by decide) ?_
    refine lv_iadd hx hb dL_law_1756 ?_
    refine m_top (show nI i + 3 = nI (i + 3) from by rw [show (3 : Int32) = nI 3 from rfl, nI_add]) ?_
    refine va_sld hx hb hX0 hbl hbA hS (vp_in_nI (show (i + 3) < L by omega) (by omega)) dL_law_1757 ?_
    refine m_top (show xs (nI (i + 3)).toNatClampNeg = xs (i + 3) from by rw [nI_clamp (by omega)]) ?_
    refine law_modv (va_runV (As := [.int (xs (i + 1)), .int (xs (i + 2)), .int (xs (i + 3))]) (rest := []) ⟨hx, hb, hml, hown, hts⟩ (k_X8_setPrices l D ac _ (Am adm) adm sf af hL.2.2.2.1  (xs (i + 1)) (xs (i + 2)) (xs (i + 3))) (cwV 3 hts gL_law_X8_setPrices rfl rfl rfl (by decide +kernel) ⟨(Nat.le_of_ble_eq_true rfl), (Nat.le_of_ble_eq_true rfl)⟩) (pV hK (ci := 8) rfl (hL.2.2.2.1.cel (by omega) rfl)) rfl rfl hl.1 rfl (lv_room (Nat.le_of_ble_eq_true rfl)) dL_law_1758 ⟨by omega, by omega⟩) hL hS (fun w9 H locs hq hLm hS => ?_)
    obtain ⟨s1, a1, rfl, hs0, hcase⟩ := hq
    have hL := hLm _ _ rfl
    have hz0 := hP.1
    rcases hcase with ⟨hne, -⟩ | ⟨-, hN⟩
    · exact absurd hz0 hne
    rw [hz0] at hs0
    have hJJ := t_setPrices hR hJ hcn hP hN
    refine lv_aload_n hx hb dL_law_1761 rfl (lv_at hl 3 rfl) ?_
    refine r_calli (va_runV (As := []) (rest := []) ⟨hx, hb, hml, hown, hts⟩ (k_X8_thrown l D ac _ (Am adm) adm s1 a1 hL.2.2.2.1) (cwV 0 hts gL_law_X8_thrown rfl rfl rfl (by decide +kernel) ⟨(Nat.le_of_ble_eq_true rfl), (Nat.le_of_ble_eq_true rfl)⟩) (pV hK (ci := 8) rfl (hL.2.2.2.1.cel (by omega) rfl)) rfl rfl hl.1 rfl (lv_room (Nat.le_of_ble_eq_true rfl)) dL_law_1762 ⟨by omega, by omega⟩) hS (fun k9 locs hk9 hS => ?_)
    rw [hs0] at hk9
    refine lv_iload hx hb dL_law_1765 (lv_at hl 0 rfl) ?_
    refine lv_icmp_eq (tgt := 1772) hx hb dL_law_1767 (by decide) (fun _ => ?_) (fun cq => absurd (hk9) cq)
    refine lv_goto (tgt := 1900) hx hb dL_law_1772 (by decide) ?_
    exact W.widen (k := c0 + 8) (n := s0 + 42) (by omega) (by omega) (K _ _ _ (⟨_, _, _, _, _, _, _, rfl, rfl, hL, hJJ⟩) hS (lv_sub hl [1, 2, 3, 4, 5] rfl))
  · subst hu
    refine lv_istore (lv' := [(5, .int r), (0, .ref b0), (1, .ref (adr 0)), (2, .ref (adm 0)), (3, .ref b9), (4, .int (nI i))]) hx hb dL_law_1737 hl (by decide) rfl (fun ls hl => ?_)
    refine lv_aload_n hx hb dL_law_1739 rfl (lv_at hl 3 rfl) ?_
    refine lv_aload_n hx hb dL_law_1740 rfl (lv_at hl 1 rfl) ?_
    refine lv_iload hx hb dL_law_1741 (lv_at hl 5 rfl) ?_
    refine lv_iconst (v := 1) hx hb dL_law_1743 (by decide) ?_
    refine lv_iadd hx hb dL_law_1744 ?_
    refine m_top (show nI i + 1 = nI (i + 1) from by rw [show (1 : Int32) = nI 1 from rfl, nI_add]) ?_
    refine va_sld hx hb hX0 hbl hbA hS (vp_in_nI (show (i + 1) < L by omega) (by omega)) dL_law_1745 ?_
    refine m_top (show xs (nI (i + 1)).toNatClampNeg = xs (i + 1) from by rw [nI_clamp (by omega)]) ?_
    refine lv_aload_n hx hb dL_law_1746 rfl (lv_at hl 1 rfl) ?_
    refine lv_iload hx hb dL_law_1747 (lv_at hl 5 rfl) ?_
    refine lv_iconst (v := 2) hx hb dL_law_1749 (by decide) ?_
    refine lv_iadd hx hb dL_law_1750 ?_
    refine m_top (show nI i + 2 = nI (i + 2) from by rw [show (2 : Int32) = nI 2 from rfl, nI_add]) ?_
    refine va_sld hx hb hX0 hbl hbA hS (vp_in_nI (show (i + 2) < L by omega) (by omega)) dL_law_1751 ?_
    refine m_top (show xs (nI (i + 2)).toNatClampNeg = xs (i + 2) from by rw [nI_clamp (by omega)]) ?_
    refine lv_aload_n hx hb dL_law_1752 rfl (lv_at hl 1 rfl) ?_
    refine lv_iload hx hb dL_law_1753 (lv_at hl 5 rfl) ?_
    refine lv_iconst (v := 3) hx hb dL_law_1755 (by decide) ?_
    refine lv_iadd hx hb dL_law_1756 ?_
    refine m_top (show nI i + 3 = nI (i + 3) from by rw [show (3 : Int32) = nI 3 from rfl, nI_add]) ?_
    refine va_sld hx hb hX0 hbl hbA hS (vp_in_nI (show (i + 3) < L by omega) (by omega)) dL_law_1757 ?_
    refine m_top (show xs (nI (i + 3)).toNatClampNeg = xs (i + 3) from by rw [nI_clamp (by omega)]) ?_
    refine law_modv (va_runV (As := [.int (xs (i + 1)), .int (xs (i + 2)), .int (xs (i + 3))]) (rest := []) ⟨hx, hb, hml, hown, hts⟩ (k_X8_setPrices l D ac _ (Am adm) adm sf af hL.2.2.2.1  (xs (i + 1)) (xs (i + 2)) (xs (i + 3))) (cwV 3 hts gL_law_X8_setPrices rfl rfl rfl (by decide +kernel) ⟨(Nat.le_of_ble_eq_true rfl), (Nat.le_of_ble_eq_true rfl)⟩) (pV hK (ci := 8) rfl (hL.2.2.2.1.cel (by omega) rfl)) rfl rfl hl.1 rfl (lv_room (Nat.le_of_ble_eq_true rfl)) dL_law_1758 ⟨by omega, by omega⟩) hL hS (fun w9 H locs hq hLm hS => ?_)
    obtain ⟨s1, a1, rfl, hs0, hcase⟩ := hq
    have hL := hLm _ _ rfl
    have hS9 := hcase.elim (fun q => q.2) (fun q => absurd q.1 hcode)
    have hJJ : JJ ac (22 + 6 * no) adr w s1 a1 (cn + 1) := ⟨_, _, _, _, _, _, _, _, _, _, _, _, _, _, _, _, _, _, _, _, _, _, _, _, _, _, _, _, _, _, _, hR, hJ.scr hS9 hcn, rfl⟩
    refine lv_aload_n hx hb dL_law_1761 rfl (lv_at hl 3 rfl) ?_
    refine r_calli (va_runV (As := []) (rest := []) ⟨hx, hb, hml, hown, hts⟩ (k_X8_thrown l D ac _ (Am adm) adm s1 a1 hL.2.2.2.1) (cwV 0 hts gL_law_X8_thrown rfl rfl rfl (by decide +kernel) ⟨(Nat.le_of_ble_eq_true rfl), (Nat.le_of_ble_eq_true rfl)⟩) (pV hK (ci := 8) rfl (hL.2.2.2.1.cel (by omega) rfl)) rfl rfl hl.1 rfl (lv_room (Nat.le_of_ble_eq_true rfl)) dL_law_1762 ⟨by omega, by omega⟩) hS (fun k9 locs hk9 hS => ?_)
    rw [hs0] at hk9
    refine lv_iload hx hb dL_law_1765 (lv_at hl 0 rfl) ?_
    refine lv_icmp_eq (tgt := 1772) hx hb dL_law_1767 (by decide) (fun _ => ?_) (fun cq => absurd (hk9.trans hr0.symm) cq)
    refine lv_goto (tgt := 1900) hx hb dL_law_1772 (by decide) ?_
    exact W.widen (k := c0 + 8) (n := s0 + 42) (by omega) (by omega) (K _ _ _ (⟨_, _, _, _, _, _, _, rfl, rfl, hL, hJJ⟩) hS (lv_sub hl [1, 2, 3, 4, 5] rfl))
set_option maxHeartbeats 4000000 in
set_option maxRecDepth 100000 in
/-- the law at a call of paid -/
theorem lc_paid {p : Program} {l : Launch} {e : Env} {s : State} {m : MethodId} {below : List Frame} {meth : Method} {c : Code} {b0 L : Nat} {xs : Nat → Int32} {D : va_G} {ac : Nat → ClassId} (E : LEn p l s m c b0 L xs D ac) {Q : State → Prop} {x9 m9 b9 cn i c0 s0 : Nat} {H : Heap} {locs : List Loc} {ls : Array Slot} (hI : LIv D ac s x9 m9 b9 cn H) (hS : va_S (Lo s) s.heap H locs) (hl : lv_has ls 7 [(0, .ref b0), (1, .ref x9), (2, .ref m9), (3, .ref b9), (4, .int (nI i))]) (hi : i + 5 ≤ L) (hcn : cn + 1 < 1000) (hc : c0 + 8 ≤ room_1.cells) (hs : s0 + 42 ≤ room_1.slots) (K : ∀ (H1 : Heap) (locs1 : List Loc) (ls1 : Array Slot), LIv D ac s x9 m9 b9 (cn + 1) H1 → va_S (Lo s) s.heap H1 locs1 → lv_has ls1 7 [(0, .ref b0), (1, .ref x9), (2, .ref m9), (3, .ref b9), (4, .int (nI i))] → W p l e room_1 s m #[Value.ref b0] below meth c H1 locs1 (c0 + 8) (s0 + 42) Q (F0 m 1900 ls1 [])) : W p l e room_1 s m #[Value.ref b0] below meth c H locs c0 s0 Q (F0 m 1775 ls []) := by
  obtain ⟨hx, hb, hml, hown, hts, hlt, hK, hX, hC, hX0, hbl, hL9⟩ := E
  obtain ⟨N, adr, w, f, adm, sf, af, rfl, rfl, hL, dl, dw, fs, fr, ft, ns, so, hv, nd, du, T, nr, rq, nq, oq, pd, er, no, oc, on_, owd, obf, rb, st, mt, co, py, hd, le, pr, ra, hR, hJ, rfl⟩ := hI
  have hbA : ¬ Lo s b0 := Nat.not_le.mpr hbl
  refine lv_aload_n hx hb dL_law_1775 rfl (lv_at hl 1 rfl) ?_
  refine lv_aload_n hx hb dL_law_1776 rfl (lv_at hl 0 rfl) ?_
  refine lv_iload hx hb dL_law_1777 (lv_at hl 4 rfl) ?_
  refine lv_iconst (v := 1) hx hb dL_law_1779 (by decide) ?_
  refine lv_iadd hx hb dL_law_1780 ?_
  refine m_top (show nI i + 1 = nI (i + 1) from by rw [show (1 : Int32) = nI 1 from rfl, nI_add]) ?_
  refine va_sld hx hb hX0 hbl hbA hS (vp_in_nI (show (i + 1) < L by omega) (by omega)) dL_law_1781 ?_
  refine m_top (show xs (nI (i + 1)).toNatClampNeg = xs (i + 1) from by rw [nI_clamp (by omega)]) ?_
  refine lv_aload_n hx hb dL_law_1782 rfl (lv_at hl 3 rfl) ?_
  refine law_help (vx_runSW (hh := [(0, 9, 12, 13)]) (As := [.ref (adr 0), .int (xs (i + 1)), .ref b9]) (rest := []) ⟨hx, hb, hml, hown, hts⟩ (kL_paid l D ac _ (Ax (Lo s) adm) _ adr w b9 f hL.1 hL.2.1 hL.2.2.1 _ _ (xs (i + 1)) _ (hL.1.cel (by omega) hR.1) (k_X7_paid l D ac _ hlt (Abt (Ax (Lo s) adm) b9) _ adr w hL.1 dl dw fs fr ft ns so hv nd du T nr rq nq oq pd er no oc on_ owd obf rb st mt co py hd le pr ra hR (Nat.le_refl _) (xs (i + 1)))) (vx_cwSW 3 hts gL_law_L_paid rfl rfl rfl (by decide +kernel) ⟨(Nat.le_of_ble_eq_true rfl), (Nat.le_of_ble_eq_true rfl)⟩) (pSL hK ((hX.now hS).narrow (fun q h => h.1)) hC) rfl rfl hl.1 rfl (lv_room (Nat.le_of_ble_eq_true rfl)) dL_law_1783 ⟨by omega, by omega⟩) hL hS (fun r u H locs hp hL hS => ?_)
  rcases hp with ⟨rfl, v, hPx, hv0⟩ | ⟨hr0, hcode, hu⟩
  · obtain ⟨N9, a9, w1, f1⟩ := u
    have hv0 : f1 0 = v.toInt64 := hv0
    obtain ⟨hN9, ha9, hP⟩ := hPx
    have hN8 : N9 = 22 + 6 * no := hN9
    have ha8 : adr = a9 := ha9.symm
    subst ha8
    subst hN8
    refine lv_istore (lv' := [(5, .int 0), (0, .ref b0), (1, .ref (adr 0)), (2, .ref (adm 0)), (3, .ref b9), (4, .int (nI i))]) hx hb dL_law_1786 hl (by decide) rfl (fun ls hl => ?_)
    refine lv_aload_n hx hb dL_law_1788 rfl (lv_at hl 3 rfl) ?_
    refine lv_aload_n hx hb dL_law_1789 rfl (lv_at hl 1 rfl) ?_
    refine lv_iload hx hb dL_law_1790 (lv_at hl 5 rfl) ?_
    refine lv_iconst (v := 1) hx hb dL_law_1792 (by decide) ?_
    refine lv_iadd hx hb dL_law_1793 ?_
    refine m_top (show nI i + 1 = nI (i + 1) from by rw [show (1 : Int32) = nI 1 from rfl, nI_add]) ?_
    refine va_sld hx hb hX0 hbl hbA hS (vp_in_nI (show (i + 1) < L by omega) (by omega)) dL_law_1794 ?_
    refine m_top (show xs (nI (i + 1)).toNatClampNeg = xs (i + 1) from by rw [nI_clamp (by omega)]) ?_
    refine law_mod (va_runV (As := [.int (xs (i + 1))]) (rest := []) ⟨hx, hb, hml, hown, hts⟩ (k_X8_paid l D ac _ (Am adm) adm sf af hL.2.2.2.1  (xs (i + 1))) (cwV 1 hts gL_law_X8_paid rfl rfl rfl (by decide +kernel) ⟨(Nat.le_of_ble_eq_true rfl), (Nat.le_of_ble_eq_true rfl)⟩) (pV hK (ci := 8) rfl (hL.2.2.2.1.cel (by omega) rfl)) rfl rfl hl.1 rfl (lv_room (Nat.le_of_ble_eq_true rfl)) dL_law_1795 ⟨by omega, by omega⟩) hL hS (fun b w9 H locs hq hLm hS => ?_)
    obtain ⟨s1, a1, rfl, hs0, hcase⟩ := hq
    have hL := hLm _ _ rfl
    have hz0 := z_paid (b := b) (cn := cn) (a1 := a1) (af := af) (s1 := s1) (sf := sf) hR hP
    rcases hcase with ⟨hne, -⟩ | ⟨-, hN⟩
    · exact absurd hz0 hne
    rw [hz0] at hs0
    obtain ⟨hrb, hJJ⟩ := t_paid hR hJ hcn hP hN
    subst hrb
    refine lv_istore (lv' := [(6, .int v), (5, .int 0), (0, .ref b0), (1, .ref (adr 0)), (2, .ref (adm 0)), (3, .ref b9), (4, .int (nI i))]) hx hb dL_law_1798 hl (by decide) rfl (fun ls hl => ?_)
    refine lv_aload_n hx hb dL_law_1800 rfl (lv_at hl 4 rfl) ?_
    refine r_calli (va_runV (As := []) (rest := []) ⟨hx, hb, hml, hown, hts⟩ (k_X8_thrown l D ac _ (Am adm) adm s1 a1 hL.2.2.2.1) (cwV 0 hts gL_law_X8_thrown rfl rfl rfl (by decide +kernel) ⟨(Nat.le_of_ble_eq_true rfl), (Nat.le_of_ble_eq_true rfl)⟩) (pV hK (ci := 8) rfl (hL.2.2.2.1.cel (by omega) rfl)) rfl rfl hl.1 rfl (lv_room (Nat.le_of_ble_eq_true rfl)) dL_law_1801 ⟨by omega, by omega⟩) hS (fun k9 locs hk9 hS => ?_)
    rw [hs0] at hk9
    refine lv_iload hx hb dL_law_1804 (lv_at hl 1 rfl) ?_
    refine lv_icmp_eq (tgt := 1811) hx hb dL_law_1806 (by decide) (fun _ => ?_) (fun cq => absurd (hk9) cq)
    refine lv_iload hx hb dL_law_1811 (lv_at hl 1 rfl) ?_
    refine lv_if_ne (tgt := 1828) hx hb dL_law_1813 (by decide) (fun cq => absurd rfl cq) (fun _ => ?_)
    refine lv_aload_n hx hb dL_law_1816 rfl (lv_at hl 5 rfl) ?_
    refine lv_iconst (v := 0) hx hb dL_law_1817 (by decide) ?_
    refine h_lald hx hb hK hL.2.1 dL_law_1818 ?_
    refine m_topl (show f1 0 = v.toInt64 from hv0) ?_
    refine lv_iload hx hb dL_law_1819 (lv_at hl 0 rfl) ?_
    refine lv_i2l (v := v.toInt64) hx hb dL_law_1821 rfl ?_
    refine W.lcmp hx hb dL_law_1822 ?_
    refine m_top (show lg_cmp v.toInt64 v.toInt64 = 0 from cmp_self) ?_
    refine lv_if_eq (tgt := 1828) hx hb dL_law_1823 (by decide) (fun _ => ?_) (fun cq => absurd rfl cq)
    refine lv_goto (tgt := 1900) hx hb dL_law_1828 (by decide) ?_
    exact W.widen (k := c0 + 8) (n := s0 + 42) (by omega) (by omega) (K _ _ _ (⟨_, _, _, _, _, _, _, rfl, rfl, hL, hJJ⟩) hS (lv_sub hl [2, 3, 4, 5, 6] rfl))
  · subst hu
    refine lv_istore (lv' := [(5, .int r), (0, .ref b0), (1, .ref (adr 0)), (2, .ref (adm 0)), (3, .ref b9), (4, .int (nI i))]) hx hb dL_law_1786 hl (by decide) rfl (fun ls hl => ?_)
    refine lv_aload_n hx hb dL_law_1788 rfl (lv_at hl 3 rfl) ?_
    refine lv_aload_n hx hb dL_law_1789 rfl (lv_at hl 1 rfl) ?_
    refine lv_iload hx hb dL_law_1790 (lv_at hl 5 rfl) ?_
    refine lv_iconst (v := 1) hx hb dL_law_1792 (by decide) ?_
    refine lv_iadd hx hb dL_law_1793 ?_
    refine m_top (show nI i + 1 = nI (i + 1) from by rw [show (1 : Int32) = nI 1 from rfl, nI_add]) ?_
    refine va_sld hx hb hX0 hbl hbA hS (vp_in_nI (show (i + 1) < L by omega) (by omega)) dL_law_1794 ?_
    refine m_top (show xs (nI (i + 1)).toNatClampNeg = xs (i + 1) from by rw [nI_clamp (by omega)]) ?_
    refine law_mod (va_runV (As := [.int (xs (i + 1))]) (rest := []) ⟨hx, hb, hml, hown, hts⟩ (k_X8_paid l D ac _ (Am adm) adm sf af hL.2.2.2.1  (xs (i + 1))) (cwV 1 hts gL_law_X8_paid rfl rfl rfl (by decide +kernel) ⟨(Nat.le_of_ble_eq_true rfl), (Nat.le_of_ble_eq_true rfl)⟩) (pV hK (ci := 8) rfl (hL.2.2.2.1.cel (by omega) rfl)) rfl rfl hl.1 rfl (lv_room (Nat.le_of_ble_eq_true rfl)) dL_law_1795 ⟨by omega, by omega⟩) hL hS (fun b w9 H locs hq hLm hS => ?_)
    obtain ⟨s1, a1, rfl, hs0, hcase⟩ := hq
    have hL := hLm _ _ rfl
    have hS9 := hcase.elim (fun q => q.2) (fun q => absurd q.1 hcode)
    have hJJ : JJ ac (22 + 6 * no) adr w s1 a1 (cn + 1) := ⟨_, _, _, _, _, _, _, _, _, _, _, _, _, _, _, _, _, _, _, _, _, _, _, _, _, _, _, _, _, _, _, hR, hJ.scr hS9 hcn, rfl⟩
    refine lv_istore (lv' := [(6, .int b), (5, .int r), (0, .ref b0), (1, .ref (adr 0)), (2, .ref (adm 0)), (3, .ref b9), (4, .int (nI i))]) hx hb dL_law_1798 hl (by decide) rfl (fun ls hl => ?_)
    refine lv_aload_n hx hb dL_law_1800 rfl (lv_at hl 4 rfl) ?_
    refine r_calli (va_runV (As := []) (rest := []) ⟨hx, hb, hml, hown, hts⟩ (k_X8_thrown l D ac _ (Am adm) adm s1 a1 hL.2.2.2.1) (cwV 0 hts gL_law_X8_thrown rfl rfl rfl (by decide +kernel) ⟨(Nat.le_of_ble_eq_true rfl), (Nat.le_of_ble_eq_true rfl)⟩) (pV hK (ci := 8) rfl (hL.2.2.2.1.cel (by omega) rfl)) rfl rfl hl.1 rfl (lv_room (Nat.le_of_ble_eq_true rfl)) dL_law_1801 ⟨by omega, by omega⟩) hS (fun k9 locs hk9 hS => ?_)
    rw [hs0] at hk9
    refine lv_iload hx hb dL_law_1804 (lv_at hl 1 rfl) ?_
    refine lv_icmp_eq (tgt := 1811) hx hb dL_law_1806 (by decide) (fun _ => ?_) (fun cq => absurd (hk9.trans hr0.symm) cq)
    refine lv_iload hx hb dL_law_1811 (lv_at hl 1 rfl) ?_
    refine lv_if_ne (tgt := 1828) hx hb dL_law_1813 (by decide) (fun _ => ?_) (fun cq => absurd (hr0.symm.trans cq) (code_ne cd1_le hcode))
    refine lv_goto (tgt := 1900) hx hb dL_law_1828 (by decide) ?_
    exact W.widen (k := c0 + 8) (n := s0 + 42) (by omega) (by omega) (K _ _ _ (⟨_, _, _, _, _, _, _, rfl, rfl, hL, hJJ⟩) hS (lv_sub hl [2, 3, 4, 5, 6] rfl))
set_option maxHeartbeats 4000000 in
set_option maxRecDepth 100000 in
/-- the law at a call of earned -/
theorem lc_earned {p : Program} {l : Launch} {e : Env} {s : State} {m : MethodId} {below : List Frame} {meth : Method} {c : Code} {b0 L : Nat} {xs : Nat → Int32} {D : va_G} {ac : Nat → ClassId} (E : LEn p l s m c b0 L xs D ac) {Q : State → Prop} {x9 m9 b9 cn i c0 s0 : Nat} {H : Heap} {locs : List Loc} {ls : Array Slot} (hI : LIv D ac s x9 m9 b9 cn H) (hS : va_S (Lo s) s.heap H locs) (hl : lv_has ls 7 [(0, .ref b0), (1, .ref x9), (2, .ref m9), (3, .ref b9), (4, .int (nI i))]) (hi : i + 5 ≤ L) (hcn : cn + 1 < 1000) (hc : c0 + 8 ≤ room_1.cells) (hs : s0 + 42 ≤ room_1.slots) (K : ∀ (H1 : Heap) (locs1 : List Loc) (ls1 : Array Slot), LIv D ac s x9 m9 b9 (cn + 1) H1 → va_S (Lo s) s.heap H1 locs1 → lv_has ls1 7 [(0, .ref b0), (1, .ref x9), (2, .ref m9), (3, .ref b9), (4, .int (nI i))] → W p l e room_1 s m #[Value.ref b0] below meth c H1 locs1 (c0 + 8) (s0 + 42) Q (F0 m 1900 ls1 [])) : W p l e room_1 s m #[Value.ref b0] below meth c H locs c0 s0 Q (F0 m 1831 ls []) := by
  obtain ⟨hx, hb, hml, hown, hts, hlt, hK, hX, hC, hX0, hbl, hL9⟩ := E
  obtain ⟨N, adr, w, f, adm, sf, af, rfl, rfl, hL, dl, dw, fs, fr, ft, ns, so, hv, nd, du, T, nr, rq, nq, oq, pd, er, no, oc, on_, owd, obf, rb, st, mt, co, py, hd, le, pr, ra, hR, hJ, rfl⟩ := hI
  have hbA : ¬ Lo s b0 := Nat.not_le.mpr hbl
  refine lv_aload_n hx hb dL_law_1831 rfl (lv_at hl 1 rfl) ?_
  refine lv_aload_n hx hb dL_law_1832 rfl (lv_at hl 0 rfl) ?_
  refine lv_iload hx hb dL_law_1833 (lv_at hl 4 rfl) ?_
  refine lv_iconst (v := 1) hx hb dL_law_1835 (by decide) ?_
  refine lv_iadd hx hb dL_law_1836 ?_
  refine m_top (show nI i + 1 = nI (i + 1) from by rw [show (1 : Int32) = nI 1 from rfl, nI_add]) ?_
  refine va_sld hx hb hX0 hbl hbA hS (vp_in_nI (show (i + 1) < L by omega) (by omega)) dL_law_1837 ?_
  refine m_top (show xs (nI (i + 1)).toNatClampNeg = xs (i + 1) from by rw [nI_clamp (by omega)]) ?_
  refine lv_aload_n hx hb dL_law_1838 rfl (lv_at hl 3 rfl) ?_
  refine law_help (vx_runSW (hh := [(0, 9, 12, 13)]) (As := [.ref (adr 0), .int (xs (i + 1)), .ref b9]) (rest := []) ⟨hx, hb, hml, hown, hts⟩ (kL_earned l D ac _ (Ax (Lo s) adm) _ adr w b9 f hL.1 hL.2.1 hL.2.2.1 _ _ (xs (i + 1)) _ (hL.1.cel (by omega) hR.1) (k_X7_earned l D ac _ hlt (Abt (Ax (Lo s) adm) b9) _ adr w hL.1 dl dw fs fr ft ns so hv nd du T nr rq nq oq pd er no oc on_ owd obf rb st mt co py hd le pr ra hR (Nat.le_refl _) (xs (i + 1)))) (vx_cwSW 3 hts gL_law_L_earned rfl rfl rfl (by decide +kernel) ⟨(Nat.le_of_ble_eq_true rfl), (Nat.le_of_ble_eq_true rfl)⟩) (pSL hK ((hX.now hS).narrow (fun q h => h.1)) hC) rfl rfl hl.1 rfl (lv_room (Nat.le_of_ble_eq_true rfl)) dL_law_1839 ⟨by omega, by omega⟩) hL hS (fun r u H locs hp hL hS => ?_)
  rcases hp with ⟨rfl, v, hPx, hv0⟩ | ⟨hr0, hcode, hu⟩
  · obtain ⟨N9, a9, w1, f1⟩ := u
    have hv0 : f1 0 = v.toInt64 := hv0
    obtain ⟨hN9, ha9, hP⟩ := hPx
    have hN8 : N9 = 22 + 6 * no := hN9
    have ha8 : adr = a9 := ha9.symm
    subst ha8
    subst hN8
    refine lv_istore (lv' := [(5, .int 0), (0, .ref b0), (1, .ref (adr 0)), (2, .ref (adm 0)), (3, .ref b9), (4, .int (nI i))]) hx hb dL_law_1842 hl (by decide) rfl (fun ls hl => ?_)
    refine lv_aload_n hx hb dL_law_1844 rfl (lv_at hl 3 rfl) ?_
    refine lv_aload_n hx hb dL_law_1845 rfl (lv_at hl 1 rfl) ?_
    refine lv_iload hx hb dL_law_1846 (lv_at hl 5 rfl) ?_
    refine lv_iconst (v := 1) hx hb dL_law_1848 (by decide) ?_
    refine lv_iadd hx hb dL_law_1849 ?_
    refine m_top (show nI i + 1 = nI (i + 1) from by rw [show (1 : Int32) = nI 1 from rfl, nI_add]) ?_
    refine va_sld hx hb hX0 hbl hbA hS (vp_in_nI (show (i + 1) < L by omega) (by omega)) dL_law_1850 ?_
    refine m_top (show xs (nI (i + 1)).toNatClampNeg = xs (i + 1) from by rw [nI_clamp (by omega)]) ?_
    refine law_mod (va_runV (As := [.int (xs (i + 1))]) (rest := []) ⟨hx, hb, hml, hown, hts⟩ (k_X8_earned l D ac _ (Am adm) adm sf af hL.2.2.2.1  (xs (i + 1))) (cwV 1 hts gL_law_X8_earned rfl rfl rfl (by decide +kernel) ⟨(Nat.le_of_ble_eq_true rfl), (Nat.le_of_ble_eq_true rfl)⟩) (pV hK (ci := 8) rfl (hL.2.2.2.1.cel (by omega) rfl)) rfl rfl hl.1 rfl (lv_room (Nat.le_of_ble_eq_true rfl)) dL_law_1851 ⟨by omega, by omega⟩) hL hS (fun b w9 H locs hq hLm hS => ?_)
    obtain ⟨s1, a1, rfl, hs0, hcase⟩ := hq
    have hL := hLm _ _ rfl
    have hz0 := z_earned (b := b) (cn := cn) (a1 := a1) (af := af) (s1 := s1) (sf := sf) hR hP
    rcases hcase with ⟨hne, -⟩ | ⟨-, hN⟩
    · exact absurd hz0 hne
    rw [hz0] at hs0
    obtain ⟨hrb, hJJ⟩ := t_earned hR hJ hcn hP hN
    subst hrb
    refine lv_istore (lv' := [(6, .int v), (5, .int 0), (0, .ref b0), (1, .ref (adr 0)), (2, .ref (adm 0)), (3, .ref b9), (4, .int (nI i))]) hx hb dL_law_1854 hl (by decide) rfl (fun ls hl => ?_)
    refine lv_aload_n hx hb dL_law_1856 rfl (lv_at hl 4 rfl) ?_
    refine r_calli (va_runV (As := []) (rest := []) ⟨hx, hb, hml, hown, hts⟩ (k_X8_thrown l D ac _ (Am adm) adm s1 a1 hL.2.2.2.1) (cwV 0 hts gL_law_X8_thrown rfl rfl rfl (by decide +kernel) ⟨(Nat.le_of_ble_eq_true rfl), (Nat.le_of_ble_eq_true rfl)⟩) (pV hK (ci := 8) rfl (hL.2.2.2.1.cel (by omega) rfl)) rfl rfl hl.1 rfl (lv_room (Nat.le_of_ble_eq_true rfl)) dL_law_1857 ⟨by omega, by omega⟩) hS (fun k9 locs hk9 hS => ?_)
    rw [hs0] at hk9
    refine lv_iload hx hb dL_law_1860 (lv_at hl 1 rfl) ?_
    refine lv_icmp_eq (tgt := 1867) hx hb dL_law_1862 (by decide) (fun _ => ?_) (fun cq => absurd (hk9) cq)
    refine lv_iload hx hb dL_law_1867 (lv_at hl 1 rfl) ?_
    refine lv_if_ne (tgt := 1884) hx hb dL_law_1869 (by decide) (fun cq => absurd rfl cq) (fun _ => ?_)
    refine lv_aload_n hx hb dL_law_1872 rfl (lv_at hl 5 rfl) ?_
    refine lv_iconst (v := 0) hx hb dL_law_1873 (by decide) ?_
    refine h_lald hx hb hK hL.2.1 dL_law_1874 ?_
    refine m_topl (show f1 0 = v.toInt64 from hv0) ?_
    refine lv_iload hx hb dL_law_1875 (lv_at hl 0 rfl) ?_
    refine lv_i2l (v := v.toInt64) hx hb dL_law_1877 rfl ?_
    refine W.lcmp hx hb dL_law_1878 ?_
    refine m_top (show lg_cmp v.toInt64 v.toInt64 = 0 from cmp_self) ?_
    refine lv_if_eq (tgt := 1884) hx hb dL_law_1879 (by decide) (fun _ => ?_) (fun cq => absurd rfl cq)
    refine lv_goto (tgt := 1900) hx hb dL_law_1884 (by decide) ?_
    exact W.widen (k := c0 + 8) (n := s0 + 42) (by omega) (by omega) (K _ _ _ (⟨_, _, _, _, _, _, _, rfl, rfl, hL, hJJ⟩) hS (lv_sub hl [2, 3, 4, 5, 6] rfl))
  · subst hu
    refine lv_istore (lv' := [(5, .int r), (0, .ref b0), (1, .ref (adr 0)), (2, .ref (adm 0)), (3, .ref b9), (4, .int (nI i))]) hx hb dL_law_1842 hl (by decide) rfl (fun ls hl => ?_)
    refine lv_aload_n hx hb dL_law_1844 rfl (lv_at hl 3 rfl) ?_
    refine lv_aload_n hx hb dL_law_1845 rfl (lv_at hl 1 rfl) ?_
    refine lv_iload hx hb dL_law_1846 (lv_at hl 5 rfl) ?_
    refine lv_iconst (v := 1) hx hb dL_law_1848 (by decide) ?_
    refine lv_iadd hx hb dL_law_1849 ?_
    refine m_top (show nI i + 1 = nI (i + 1) from by rw [show (1 : Int32) = nI 1 from rfl, nI_add]) ?_
    refine va_sld hx hb hX0 hbl hbA hS (vp_in_nI (show (i + 1) < L by omega) (by omega)) dL_law_1850 ?_
    refine m_top (show xs (nI (i + 1)).toNatClampNeg = xs (i + 1) from by rw [nI_clamp (by omega)]) ?_
    refine law_mod (va_runV (As := [.int (xs (i + 1))]) (rest := []) ⟨hx, hb, hml, hown, hts⟩ (k_X8_earned l D ac _ (Am adm) adm sf af hL.2.2.2.1  (xs (i + 1))) (cwV 1 hts gL_law_X8_earned rfl rfl rfl (by decide +kernel) ⟨(Nat.le_of_ble_eq_true rfl), (Nat.le_of_ble_eq_true rfl)⟩) (pV hK (ci := 8) rfl (hL.2.2.2.1.cel (by omega) rfl)) rfl rfl hl.1 rfl (lv_room (Nat.le_of_ble_eq_true rfl)) dL_law_1851 ⟨by omega, by omega⟩) hL hS (fun b w9 H locs hq hLm hS => ?_)
    obtain ⟨s1, a1, rfl, hs0, hcase⟩ := hq
    have hL := hLm _ _ rfl
    have hS9 := hcase.elim (fun q => q.2) (fun q => absurd q.1 hcode)
    have hJJ : JJ ac (22 + 6 * no) adr w s1 a1 (cn + 1) := ⟨_, _, _, _, _, _, _, _, _, _, _, _, _, _, _, _, _, _, _, _, _, _, _, _, _, _, _, _, _, _, _, hR, hJ.scr hS9 hcn, rfl⟩
    refine lv_istore (lv' := [(6, .int b), (5, .int r), (0, .ref b0), (1, .ref (adr 0)), (2, .ref (adm 0)), (3, .ref b9), (4, .int (nI i))]) hx hb dL_law_1854 hl (by decide) rfl (fun ls hl => ?_)
    refine lv_aload_n hx hb dL_law_1856 rfl (lv_at hl 4 rfl) ?_
    refine r_calli (va_runV (As := []) (rest := []) ⟨hx, hb, hml, hown, hts⟩ (k_X8_thrown l D ac _ (Am adm) adm s1 a1 hL.2.2.2.1) (cwV 0 hts gL_law_X8_thrown rfl rfl rfl (by decide +kernel) ⟨(Nat.le_of_ble_eq_true rfl), (Nat.le_of_ble_eq_true rfl)⟩) (pV hK (ci := 8) rfl (hL.2.2.2.1.cel (by omega) rfl)) rfl rfl hl.1 rfl (lv_room (Nat.le_of_ble_eq_true rfl)) dL_law_1857 ⟨by omega, by omega⟩) hS (fun k9 locs hk9 hS => ?_)
    rw [hs0] at hk9
    refine lv_iload hx hb dL_law_1860 (lv_at hl 1 rfl) ?_
    refine lv_icmp_eq (tgt := 1867) hx hb dL_law_1862 (by decide) (fun _ => ?_) (fun cq => absurd (hk9.trans hr0.symm) cq)
    refine lv_iload hx hb dL_law_1867 (lv_at hl 1 rfl) ?_
    refine lv_if_ne (tgt := 1884) hx hb dL_law_1869 (by decide) (fun _ => ?_) (fun cq => absurd (hr0.symm.trans cq) (code_ne cd1_le hcode))
    refine lv_goto (tgt := 1900) hx hb dL_law_1884 (by decide) ?_
    exact W.widen (k := c0 + 8) (n := s0 + 42) (by omega) (by omega) (K _ _ _ (⟨_, _, _, _, _, _, _, rfl, rfl, hL, hJJ⟩) hS (lv_sub hl [2, 3, 4, 5, 6] rfl))
set_option maxHeartbeats 4000000 in
set_option maxRecDepth 100000 in
/-- the law at a call of purse -/
theorem lc_purse {p : Program} {l : Launch} {e : Env} {s : State} {m : MethodId} {below : List Frame} {meth : Method} {c : Code} {b0 L : Nat} {xs : Nat → Int32} {D : va_G} {ac : Nat → ClassId} (E : LEn p l s m c b0 L xs D ac) {Q : State → Prop} {x9 m9 b9 cn i c0 s0 : Nat} {H : Heap} {locs : List Loc} {ls : Array Slot} (hI : LIv D ac s x9 m9 b9 cn H) (hS : va_S (Lo s) s.heap H locs) (hl : lv_has ls 7 [(0, .ref b0), (1, .ref x9), (2, .ref m9), (3, .ref b9), (4, .int (nI i))]) (hi : i + 5 ≤ L) (hcn : cn + 1 < 1000) (hc : c0 + 8 ≤ room_1.cells) (hs : s0 + 42 ≤ room_1.slots) (K : ∀ (H1 : Heap) (locs1 : List Loc) (ls1 : Array Slot), LIv D ac s x9 m9 b9 (cn + 1) H1 → va_S (Lo s) s.heap H1 locs1 → lv_has ls1 7 [(0, .ref b0), (1, .ref x9), (2, .ref m9), (3, .ref b9), (4, .int (nI i))] → W p l e room_1 s m #[Value.ref b0] below meth c H1 locs1 (c0 + 8) (s0 + 42) Q (F0 m 1900 ls1 [])) : W p l e room_1 s m #[Value.ref b0] below meth c H locs c0 s0 Q (F0 m 1887 ls []) := by
  obtain ⟨hx, hb, hml, hown, hts, hlt, hK, hX, hC, hX0, hbl, hL9⟩ := E
  obtain ⟨N, adr, w, f, adm, sf, af, rfl, rfl, hL, dl, dw, fs, fr, ft, ns, so, hv, nd, du, T, nr, rq, nq, oq, pd, er, no, oc, on_, owd, obf, rb, st, mt, co, py, hd, le, pr, ra, hR, hJ, rfl⟩ := hI
  have hbA : ¬ Lo s b0 := Nat.not_le.mpr hbl
  refine lv_aload_n hx hb dL_law_1887 rfl (lv_at hl 1 rfl) ?_
  refine law_cls (va_runV (As := []) (rest := []) ⟨hx, hb, hml, hown, hts⟩ (k_X7_purse l D ac _ (Abt (Ax (Lo s) adm) b9) _ adr w hL.1 dl dw fs fr ft ns so hv nd du T nr rq nq oq pd er no oc on_ owd obf rb st mt co py hd le pr ra hR (Nat.le_refl _) ) (cwV 0 hts gL_law_X7_purse rfl rfl rfl (by decide +kernel) ⟨(Nat.le_of_ble_eq_true rfl), (Nat.le_of_ble_eq_true rfl)⟩) (pV hK (ci := 7) rfl (hL.1.cel (by omega) hR.1)) rfl rfl hl.1 rfl (lv_room (Nat.le_of_ble_eq_true rfl)) dL_law_1888 ⟨by omega, by omega⟩) hL hS (fun r w1 H locs hp hL hS => ?_)
  refine lv_aload_n hx hb dL_law_1891 rfl (lv_at hl 2 rfl) ?_
  refine law_mod (va_runV (As := []) (rest := [.int r]) ⟨hx, hb, hml, hown, hts⟩ (k_X8_purse l D ac _ (Am adm) adm sf af hL.2.2.2.1  ) (cwV 0 hts gL_law_X8_purse rfl rfl rfl (by decide +kernel) ⟨(Nat.le_of_ble_eq_true rfl), (Nat.le_of_ble_eq_true rfl)⟩) (pV hK (ci := 8) rfl (hL.2.2.2.1.cel (by omega) rfl)) rfl rfl hl.1 rfl (lv_room (Nat.le_of_ble_eq_true rfl)) dL_law_1892 ⟨by omega, by omega⟩) hL hS (fun b w9 H locs hq hLm hS => ?_)
  obtain ⟨hq0, hq1⟩ := hq
  have hL := hLm _ _ hq1
  obtain ⟨hrb, hJJ⟩ := t_purse  hR hJ hcn hp ⟨hq0, rfl, rfl⟩
  subst hrb
  refine lv_icmp_eq (tgt := 1900) hx hb dL_law_1895 (by decide) (fun _ => ?_) (fun cq => absurd rfl cq)
  exact W.widen (k := c0 + 8) (n := s0 + 42) (by omega) (by omega) (K _ _ _ (⟨_, _, _, _, _, _, _, rfl, rfl, hL, hJJ⟩) hS (lv_sub hl [0, 1, 2, 3, 4] rfl))
