set_option maxHeartbeats 4000000 in
set_option maxRecDepth 100000 in
/-- the law at a call of orderAt -/
theorem lc_orderAt {p : Program} {l : Launch} {e : Env} {s : State} {m : MethodId} {below : List Frame} {meth : Method} {c : Code} {b0 L : Nat} {xs : Nat → Int32} {D : va_G} {ac : Nat → ClassId} (E : LEn p l s m c b0 L xs D ac) {Q : State → Prop} {x9 m9 b9 cn i c0 s0 : Nat} {H : Heap} {locs : List Loc} {ls : Array Slot} (hI : LIv D ac s x9 m9 b9 cn H) (hS : va_S (Lo s) s.heap H locs) (hl : lv_has ls 7 [(0, .ref b0), (1, .ref x9), (2, .ref m9), (3, .ref b9), (4, .int (nI i))]) (hi : i + 5 ≤ L) (hcn : cn + 1 < 1000) (hc : c0 + 8 ≤ room_1.cells) (hs : s0 + 42 ≤ room_1.slots) (K : ∀ (H1 : Heap) (locs1 : List Loc) (ls1 : Array Slot), LIv D ac s x9 m9 b9 (cn + 1) H1 → va_S (Lo s) s.heap H1 locs1 → lv_has ls1 7 [(0, .ref b0), (1, .ref x9), (2, .ref m9), (3, .ref b9), (4, .int (nI i))] → W p l e room_1 s m #[Value.ref b0] below meth c H1 locs1 (c0 + 8) (s0 + 42) Q (F0 m 1900 ls1 [])) : W p l e room_1 s m #[Value.ref b0] below meth c H locs c0 s0 Q (F0 m 1106 ls []) := by
  obtain ⟨hx, hb, hml, hown, hts, hlt, hK, hX, hC, hX0, hbl, hL9⟩ := E
  obtain ⟨N, adr, w, f, adm, sf, af, rfl, rfl, hL, dl, dw, fs, fr, ft, ns, so, hv, nd, du, T, nr, rq, nq, oq, pd, er, no, oc, on_, owd, obf, rb, st, mt, co, py, hd, le, pr, ra, hR, hJ, rfl⟩ := hI
  have hbA : ¬ Lo s b0 := Nat.not_le.mpr hbl
  refine lv_aload_n hx hb dL_law_1106 rfl (lv_at hl 1 rfl) ?_
  refine lv_aload_n hx hb dL_law_1107 rfl (lv_at hl 0 rfl) ?_
  refine lv_iload hx hb dL_law_1108 (lv_at hl 4 rfl) ?_
  refine lv_iconst (v := 1) hx hb dL_law_1110 (by decide) ?_
  refine lv_iadd hx hb dL_law_1111 ?_
  refine m_top (show nI i + 1 = nI (i + 1) from by rw [show (1 : Int32) = nI 1 from rfl, nI_add]) ?_
  refine va_sld hx hb hX0 hbl hbA hS (vp_in_nI (show (i + 1) < L by omega) (by omega)) dL_law_1112 ?_
  refine m_top (show xs (nI (i + 1)).toNatClampNeg = xs (i + 1) from by rw [nI_clamp (by omega)]) ?_
  refine lv_aload_n hx hb dL_law_1113 rfl (lv_at hl 3 rfl) ?_
  refine law_help (vx_runSW (hh := [(0, 9, 12, 20)]) (As := [.ref (adr 0), .int (xs (i + 1)), .ref b9]) (rest := []) ⟨hx, hb, hml, hown, hts⟩ (kL_orderAt l D ac _ (Ax (Lo s) adm) _ adr w b9 f hL.1 hL.2.1 hL.2.2.1 _ _ (xs (i + 1)) _ (hL.1.cel (by omega) hR.1) (k_X7_orderAt l D ac _ hlt (Abt (Ax (Lo s) adm) b9) _ adr w hL.1 dl dw fs fr ft ns so hv nd du T nr rq nq oq pd er no oc on_ owd obf rb st mt co py hd le pr ra hR (Nat.le_refl _) (xs (i + 1)))) (vx_cwSW 3 hts gL_law_L_orderAt rfl rfl rfl (by decide +kernel) ⟨(Nat.le_of_ble_eq_true rfl), (Nat.le_of_ble_eq_true rfl)⟩) (pSL hK ((hX.now hS).narrow (fun q h => h.1)) hC) rfl rfl hl.1 rfl (lv_room (Nat.le_of_ble_eq_true rfl)) dL_law_1114 ⟨by omega, by omega⟩) hL hS (fun r u H locs hp hL hS => ?_)
  rcases hp with ⟨rfl, v, hPx, hv0⟩ | ⟨hr0, hcode, hu⟩
  · obtain ⟨N9, a9, w1, f1⟩ := u
    have hv0 : f1 0 = v.toInt64 := hv0
    obtain ⟨hN9, ha9, hP⟩ := hPx
    have hN8 : N9 = 22 + 6 * no := hN9
    have ha8 : adr = a9 := ha9.symm
    subst ha8
    subst hN8
    refine lv_istore (lv' := [(5, .int 0), (0, .ref b0), (1, .ref (adr 0)), (2, .ref (adm 0)), (3, .ref b9), (4, .int (nI i))]) hx hb dL_law_1117 hl (by decide) rfl (fun ls hl => ?_)
    refine lv_aload_n hx hb dL_law_1119 rfl (lv_at hl 3 rfl) ?_
    refine lv_aload_n hx hb dL_law_1120 rfl (lv_at hl 1 rfl) ?_
    refine lv_iload hx hb dL_law_1121 (lv_at hl 5 rfl) ?_
    refine lv_iconst (v := 1) hx hb dL_law_1123 (by decide) ?_
    refine lv_iadd hx hb dL_law_1124 ?_
    refine m_top (show nI i + 1 = nI (i + 1) from by rw [show (1 : Int32) = nI 1 from rfl, nI_add]) ?_
    refine va_sld hx hb hX0 hbl hbA hS (vp_in_nI (show (i + 1) < L by omega) (by omega)) dL_law_1125 ?_
    refine m_top (show xs (nI (i + 1)).toNatClampNeg = xs (i + 1) from by rw [nI_clamp (by omega)]) ?_
    refine law_mod (va_runV (As := [.int (xs (i + 1))]) (rest := []) ⟨hx, hb, hml, hown, hts⟩ (k_X8_orderAt l D ac _ (Am adm) adm sf af hL.2.2.2.1 no oc on_ owd rb st hJ.2.2.2.1 (xs (i + 1))) (cwV 1 hts gL_law_X8_orderAt rfl rfl rfl (by decide +kernel) ⟨(Nat.le_of_ble_eq_true rfl), (Nat.le_of_ble_eq_true rfl)⟩) (pV hK (ci := 8) rfl (hL.2.2.2.1.cel (by omega) rfl)) rfl rfl hl.1 rfl (lv_room (Nat.le_of_ble_eq_true rfl)) dL_law_1126 ⟨by omega, by omega⟩) hL hS (fun b w9 H locs hq hLm hS => ?_)
    obtain ⟨s1, a1, rfl, hs0, hcase⟩ := hq
    have hL := hLm _ _ rfl
    have hz0 := z_orderAt (b := b) (cn := cn) (a1 := a1) (af := af) (s1 := s1) (sf := sf) hR hP
    rcases hcase with ⟨hne, -⟩ | ⟨-, hN⟩
    · exact absurd hz0 hne
    rw [hz0] at hs0
    obtain ⟨hrb, hJJ⟩ := t_orderAt hR hJ hcn hP hN
    subst hrb
    refine lv_istore (lv' := [(6, .int v), (5, .int 0), (0, .ref b0), (1, .ref (adr 0)), (2, .ref (adm 0)), (3, .ref b9), (4, .int (nI i))]) hx hb dL_law_1129 hl (by decide) rfl (fun ls hl => ?_)
    refine lv_aload_n hx hb dL_law_1131 rfl (lv_at hl 4 rfl) ?_
    refine r_calli (va_runV (As := []) (rest := []) ⟨hx, hb, hml, hown, hts⟩ (k_X8_thrown l D ac _ (Am adm) adm s1 a1 hL.2.2.2.1) (cwV 0 hts gL_law_X8_thrown rfl rfl rfl (by decide +kernel) ⟨(Nat.le_of_ble_eq_true rfl), (Nat.le_of_ble_eq_true rfl)⟩) (pV hK (ci := 8) rfl (hL.2.2.2.1.cel (by omega) rfl)) rfl rfl hl.1 rfl (lv_room (Nat.le_of_ble_eq_true rfl)) dL_law_1132 ⟨by omega, by omega⟩) hS (fun k9 locs hk9 hS => ?_)
    rw [hs0] at hk9
    refine lv_iload hx hb dL_law_1135 (lv_at hl 1 rfl) ?_
    refine lv_icmp_eq (tgt := 1142) hx hb dL_law_1137 (by decide) (fun _ => ?_) (fun cq => absurd (hk9) cq)
    refine lv_iload hx hb dL_law_1142 (lv_at hl 1 rfl) ?_
    refine lv_if_ne (tgt := 1159) hx hb dL_law_1144 (by decide) (fun cq => absurd rfl cq) (fun _ => ?_)
    refine lv_aload_n hx hb dL_law_1147 rfl (lv_at hl 5 rfl) ?_
    refine lv_iconst (v := 0) hx hb dL_law_1148 (by decide) ?_
    refine h_lald hx hb hK hL.2.1 dL_law_1149 ?_
    refine m_topl (show f1 0 = v.toInt64 from hv0) ?_
    refine lv_iload hx hb dL_law_1150 (lv_at hl 0 rfl) ?_
    refine lv_i2l (v := v.toInt64) hx hb dL_law_1152 rfl ?_
    refine W.lcmp hx hb dL_law_1153 ?_
    refine m_top (show lg_cmp v.toInt64 v.toInt64 = 0 from cmp_self) ?_
    refine lv_if_eq (tgt := 1159) hx hb dL_law_1154 (by decide) (fun _ => ?_) (fun cq => absurd rfl cq)
    refine lv_goto (tgt := 1900) hx hb dL_law_1159 (by decide) ?_
    exact W.widen (k := c0 + 8) (n := s0 + 42) (by omega) (by omega) (K _ _ _ (⟨_, _, _, _, _, _, _, rfl, rfl, hL, hJJ⟩) hS (lv_sub hl [2, 3, 4, 5, 6] rfl))
  · subst hu
    refine lv_istore (lv' := [(5, .int r), (0, .ref b0), (1, .ref (adr 0)), (2, .ref (adm 0)), (3, .ref b9), (4, .int (nI i))]) hx hb dL_law_1117 hl (by decide) rfl (fun ls hl => ?_)
    refine lv_aload_n hx hb dL_law_1119 rfl (lv_at hl 3 rfl) ?_
    refine lv_aload_n hx hb dL_law_1120 rfl (lv_at hl 1 rfl) ?_
    refine lv_iload hx hb dL_law_1121 (lv_at hl 5 rfl) ?_
    refine lv_iconst (v := 1) hx hb dL_law_1123 (by decide) ?_
    refine lv_iadd hx hb dL_law_1124 ?_
    refine m_top (show nI i + 1 = nI (i + 1) from by rw [show (1 : Int32) = nI 1 from rfl, nI_add]) ?_
    refine va_sld hx hb hX0 hbl hbA hS (vp_in_nI (show (i + 1) < L by omega) (by omega)) dL_law_1125 ?_
    refine m_top (show xs (nI (i + 1)).toNatClampNeg = xs (i + 1) from by rw [nI_clamp (by omega)]) ?_
    refine law_mod (va_runV (As := [.int (xs (i + 1))]) (rest := []) ⟨hx, hb, hml, hown, hts⟩ (k_X8_orderAt l D ac _ (Am adm) adm sf af hL.2.2.2.1 no oc on_ owd rb st hJ.2.2.2.1 (xs (i + 1))) (cwV 1 hts gL_law_X8_orderAt rfl rfl rfl (by decide +kernel) ⟨(Nat.le_of_ble_eq_true rfl), (Nat.le_of_ble_eq_true rfl)⟩) (pV hK (ci := 8) rfl (hL.2.2.2.1.cel (by omega) rfl)) rfl rfl hl.1 rfl (lv_room (Nat.le_of_ble_eq_true rfl)) dL_law_1126 ⟨by omega, by omega⟩) hL hS (fun b w9 H locs hq hLm hS => ?_)
    obtain ⟨s1, a1, rfl, hs0, hcase⟩ := hq
    have hL := hLm _ _ rfl
    have hS9 := hcase.elim (fun q => q.2) (fun q => absurd q.1 hcode)
    have hJJ : JJ ac (22 + 6 * no) adr w s1 a1 (cn + 1) := ⟨_, _, _, _, _, _, _, _, _, _, _, _, _, _, _, _, _, _, _, _, _, _, _, _, _, _, _, _, _, _, _, hR, hJ.scr hS9 hcn, rfl⟩
    refine lv_istore (lv' := [(6, .int b), (5, .int r), (0, .ref b0), (1, .ref (adr 0)), (2, .ref (adm 0)), (3, .ref b9), (4, .int (nI i))]) hx hb dL_law_1129 hl (by decide) rfl (fun ls hl => ?_)
    refine lv_aload_n hx hb dL_law_1131 rfl (lv_at hl 4 rfl) ?_
    refine r_calli (va_runV (As := []) (rest := []) ⟨hx, hb, hml, hown, hts⟩ (k_X8_thrown l D ac _ (Am adm) adm s1 a1 hL.2.2.2.1) (cwV 0 hts gL_law_X8_thrown rfl rfl rfl (by decide +kernel) ⟨(Nat.le_of_ble_eq_true rfl), (Nat.le_of_ble_eq_true rfl)⟩) (pV hK (ci := 8) rfl (hL.2.2.2.1.cel (by omega) rfl)) rfl rfl hl.1 rfl (lv_room (Nat.le_of_ble_eq_true rfl)) dL_law_1132 ⟨by omega, by omega⟩) hS (fun k9 locs hk9 hS => ?_)
    rw [hs0] at hk9
    refine lv_iload hx hb dL_law_1135 (lv_at hl 1 rfl) ?_
    refine lv_icmp_eq (tgt := 1142) hx hb dL_law_1137 (by decide) (fun _ => ?_) (fun cq => absurd (hk9.trans hr0.symm) cq)
    refine lv_iload hx hb dL_law_1142 (lv_at hl 1 rfl) ?_
    refine lv_if_ne (tgt := 1159) hx hb dL_law_1144 (by decide) (fun _ => ?_) (fun cq => absurd (hr0.symm.trans cq) (code_ne cd1_le hcode))
    refine lv_goto (tgt := 1900) hx hb dL_law_1159 (by decide) ?_
    exact W.widen (k := c0 + 8) (n := s0 + 42) (by omega) (by omega) (K _ _ _ (⟨_, _, _, _, _, _, _, rfl, rfl, hL, hJJ⟩) hS (lv_sub hl [2, 3, 4, 5, 6] rfl))
set_option maxHeartbeats 4000000 in
set_option maxRecDepth 100000 in
/-- the law at a call of say -/
theorem lc_say {p : Program} {l : Launch} {e : Env} {s : State} {m : MethodId} {below : List Frame} {meth : Method} {c : Code} {b0 L : Nat} {xs : Nat → Int32} {D : va_G} {ac : Nat → ClassId} (E : LEn p l s m c b0 L xs D ac) {Q : State → Prop} {x9 m9 b9 cn i c0 s0 : Nat} {H : Heap} {locs : List Loc} {ls : Array Slot} (hI : LIv D ac s x9 m9 b9 cn H) (hS : va_S (Lo s) s.heap H locs) (hl : lv_has ls 7 [(0, .ref b0), (1, .ref x9), (2, .ref m9), (3, .ref b9), (4, .int (nI i))]) (hi : i + 5 ≤ L) (hcn : cn + 1 < 1000) (hc : c0 + 8 ≤ room_1.cells) (hs : s0 + 42 ≤ room_1.slots) (K : ∀ (H1 : Heap) (locs1 : List Loc) (ls1 : Array Slot), LIv D ac s x9 m9 b9 (cn + 1) H1 → va_S (Lo s) s.heap H1 locs1 → lv_has ls1 7 [(0, .ref b0), (1, .ref x9), (2, .ref m9), (3, .ref b9), (4, .int (nI i))] → W p l e room_1 s m #[Value.ref b0] below meth c H1 locs1 (c0 + 8) (s0 + 42) Q (F0 m 1900 ls1 [])) : W p l e room_1 s m #[Value.ref b0] below meth c H locs c0 s0 Q (F0 m 1162 ls []) := by
  obtain ⟨hx, hb, hml, hown, hts, hlt, hK, hX, hC, hX0, hbl, hL9⟩ := E
  obtain ⟨N, adr, w, f, adm, sf, af, rfl, rfl, hL, dl, dw, fs, fr, ft, ns, so, hv, nd, du, T, nr, rq, nq, oq, pd, er, no, oc, on_, owd, obf, rb, st, mt, co, py, hd, le, pr, ra, hR, hJ, rfl⟩ := hI
  have hbA : ¬ Lo s b0 := Nat.not_le.mpr hbl
  refine lv_aload_n hx hb dL_law_1162 rfl (lv_at hl 1 rfl) ?_
  refine lv_aload_n hx hb dL_law_1163 rfl (lv_at hl 0 rfl) ?_
  refine lv_iload hx hb dL_law_1164 (lv_at hl 4 rfl) ?_
  refine lv_iconst (v := 1) hx hb dL_law_1166 (by decide) ?_
  refine lv_iadd hx hb dL_law_1167 ?_
  refine m_top (show nI i + 1 = nI (i + 1) from by rw [show (1 : Int32) = nI 1 from rfl, nI_add]) ?_
  refine va_sld hx hb hX0 hbl hbA hS (vp_in_nI (show (i + 1) < L by omega) (by omega)) dL_law_1168 ?_
  refine m_top (show xs (nI (i + 1)).toNatClampNeg = xs (i + 1) from by rw [nI_clamp (by omega)]) ?_
  refine lv_aload_n hx hb dL_law_1169 rfl (lv_at hl 0 rfl) ?_
  refine lv_iload hx hb dL_law_1170 (lv_at hl 4 rfl) ?_
  refine lv_iconst (v := 2) hx hb dL_law_1172 (by decide) ?_
  refine lv_iadd hx hb dL_law_1173 ?_
  refine m_top (show nI i + 2 = nI (i + 2) from by rw [show (2 : Int32) = nI 2 from rfl, nI_add]) ?_
  refine va_sld hx hb hX0 hbl hbA hS (vp_in_nI (show (i + 2) < L by omega) (by omega)) dL_law_1174 ?_
  refine m_top (show xs (nI (i + 2)).toNatClampNeg = xs (i + 2) from by rw [nI_clamp (by omega)]) ?_
  refine lv_aload_n hx hb dL_law_1175 rfl (lv_at hl 0 rfl) ?_
  refine lv_iload hx hb dL_law_1176 (lv_at hl 4 rfl) ?_
  refine lv_iconst (v := 3) hx hb dL_law_1178 (by decide) ?_
  refine lv_iadd hx hb dL_law_1179 ?_
  refine m_top (show nI i + 3 = nI (i + 3) from by rw [show (3 : Int32) = nI 3 from rfl, nI_add]) ?_
  refine va_sld hx hb hX0 hbl hbA hS (vp_in_nI (show (i + 3) < L by omega) (by omega)) dL_law_1180 ?_
  refine m_top (show xs (nI (i + 3)).toNatClampNeg = xs (i + 3) from by rw [nI_clamp (by omega)]) ?_
  refine lv_aload_n hx hb dL_law_1181 rfl (lv_at hl 0 rfl) ?_
  refine lv_iload hx hb dL_law_1182 (lv_at hl 4 rfl) ?_
  refine lv_iconst (v := 4) hx hb dL_law_1184 (by decide) ?_
  refine lv_iadd hx hb dL_law_1185 ?_
  refine m_top (show nI i + 4 = nI (i + 4) from by rw [show (4 : Int32) = nI 4 from rfl, nI_add]) ?_
  refine va_sld hx hb hX0 hbl hbA hS (vp_in_nI (show (i + 4) < L by omega) (by omega)) dL_law_1186 ?_
  refine m_top (show xs (nI (i + 4)).toNatClampNeg = xs (i + 4) from by rw [nI_clamp (by omega)]) ?_
  refine lv_aload_n hx hb dL_law_1187 rfl (lv_at hl 3 rfl) ?_
  refine law_help (vx_runSW (hh := [(0, 14, 17, 13)]) (As := [.ref (adr 0), .int (xs (i + 1)), .int (xs (i + 2)), .int (xs (i + 3)), .int (xs (i + 4)), .ref b9]) (rest := []) ⟨hx, hb, hml, hown, hts⟩ (kL_say l D ac _ (Ax (Lo s) adm) _ adr w b9 f hL.1 hL.2.1 hL.2.2.1 _ _ (xs (i + 1)) (xs (i + 2)) (xs (i + 3)) (xs (i + 4)) _ (hL.1.cel (by omega) hR.1) (k_X7_say l D ac _ hlt (Abt (Ax (Lo s) adm) b9) _ adr w hL.1 dl dw fs fr ft ns so hv nd du T nr rq nq oq pd er no oc on_ owd obf rb st mt co py hd le pr ra hR (Nat.le_refl _) (xs (i + 1)) (xs (i + 2)) (xs (i + 3)) (xs (i + 4)))) (vx_cwSW 6 hts gL_law_L_say rfl rfl rfl (by decide +kernel) ⟨(Nat.le_of_ble_eq_true rfl), (Nat.le_of_ble_eq_true rfl)⟩) (pSL hK ((hX.now hS).narrow (fun q h => h.1)) hC) rfl rfl hl.1 rfl (lv_room (Nat.le_of_ble_eq_true rfl)) dL_law_1188 ⟨by omega, by omega⟩) hL hS (fun r u H locs hp hL hS => ?_)
  rcases hp with ⟨rfl, v, hPx, hv0⟩ | ⟨hr0, hcode, hu⟩
  · obtain ⟨N9, a9, w1, f1⟩ := u
    have hv0 : f1 0 = v.toInt64 := hv0
    obtain ⟨hN9, ha9, hP⟩ := hPx
    have hN8 : N9 = 22 + 6 * no := hN9
    have ha8 : adr = a9 := ha9.symm
    subst ha8
    subst hN8
    refine lv_istore (lv' := [(5, .int 0), (0, .ref b0), (1, .ref (adr 0)), (2, .ref (adm 0)), (3, .ref b9), (4, .int (nI i))]) hx hb dL_law_1191 hl (by decide) rfl (fun ls hl => ?_)
    refine lv_aload_n hx hb dL_law_1193 rfl (lv_at hl 3 rfl) ?_
    refine lv_aload_n hx hb dL_law_1194 rfl (lv_at hl 1 rfl) ?_
    refine lv_iload hx hb dL_law_1195 (lv_at hl 5 rfl) ?_
    refine lv_iconst (v := 1) hx hb dL_law_1197 (by decide) ?_
    refine lv_iadd hx hb dL_law_1198 ?_
    refine m_top (show nI i + 1 = nI (i + 1) from by rw [show (1 : Int32) = nI 1 from rfl, nI_add]) ?_
    refine va_sld hx hb hX0 hbl hbA hS (vp_in_nI (show (i + 1) < L by omega) (by omega)) dL_law_1199 ?_
    refine m_top (show xs (nI (i + 1)).toNatClampNeg = xs (i + 1) from by rw [nI_clamp (by omega)]) ?_
    refine lv_aload_n hx hb dL_law_1200 rfl (lv_at hl 1 rfl) ?_
    refine lv_iload hx hb dL_law_1201 (lv_at hl 5 rfl) ?_
    refine lv_iconst (v := 2) hx hb dL_law_1203 (by decide) ?_
    refine lv_iadd hx hb dL_law_1204 ?_
    refine m_top (show nI i + 2 = nI (i + 2) from by rw [show (2 : Int32) = nI 2 from rfl, nI_add]) ?_
    refine va_sld hx hb hX0 hbl hbA hS (vp_in_nI (show (i + 2) < L by omega) (by omega)) dL_law_1205 ?_
    refine m_top (show xs (nI (i + 2)).toNatClampNeg = xs (i + 2) from by rw [nI_clamp (by omega)]) ?_
    refine lv_aload_n hx hb dL_law_1206 rfl (lv_at hl 1 rfl) ?_
    refine lv_iload hx hb dL_law_1207 (lv_at hl 5 rfl) ?_
    refine lv_iconst (v := 3) hx hb dL_law_1209 (by decide) ?_
    refine lv_iadd hx hb dL_law_1210 ?_
    refine m_top (show nI i + 3 = nI (i + 3) from by rw [show (3 : Int32) = nI 3 from rfl, nI_add]) ?_
    refine va_sld hx hb hX0 hbl hbA hS (vp_in_nI (show (i + 3) < L by omega) (by omega)) dL_law_1211 ?_
    refine m_top (show xs (nI (i + 3)).toNatClampNeg = xs (i + 3) from by rw [nI_clamp (by omega)]) ?_
    refine lv_aload_n hx hb dL_law_1212 rfl (lv_at hl 1 rfl) ?_
    refine lv_iload hx hb dL_law_1213 (lv_at hl 5 rfl) ?_
    refine lv_iconst (v := 4) hx hb dL_law_1215 (by decide) ?_
    refine lv_iadd hx hb dL_law_1216 ?_
    refine m_top (show nI i + 4 = nI (i + 4) from by rw [show (4 : Int32) = nI 4 from rfl, nI_add]) ?_
    refine va_sld hx hb hX0 hbl hbA hS (vp_in_nI (show (i + 4) < L by omega) (by omega)) dL_law_1217 ?_
    refine m_top (show xs (nI (i + 4)).toNatClampNeg = xs (i + 4) from by rw [nI_clamp (by omega)]) ?_
    refine law_mod (va_runV (As := [.int (xs (i + 1)), .int (xs (i + 2)), .int (xs (i + 3)), .int (xs (i + 4))]) (rest := []) ⟨hx, hb, hml, hown, hts⟩ (k_X8_say l D ac _ (Am adm) adm sf af hL.2.2.2.1 fs fr hJ.2.1 ns (fun i => oc (so i)) (fun i => on_ (so i)) (fun i => owd (so i)) (fun i => obf (so i)) hJ.2.2.1 (xs (i + 1)) (xs (i + 2)) (xs (i + 3)) (xs (i + 4))) (cwV 4 hts gL_law_X8_say rfl rfl rfl (by decide +kernel) ⟨(Nat.le_of_ble_eq_true rfl), (Nat.le_of_ble_eq_true rfl)⟩) (pV hK (ci := 8) rfl (hL.2.2.2.1.cel (by omega) rfl)) rfl rfl hl.1 rfl (lv_room (Nat.le_of_ble_eq_true rfl)) dL_law_1218 ⟨by omega, by omega⟩) hL hS (fun b w9 H locs hq hLm hS => ?_)
    obtain ⟨s1, a1, rfl, hs0, hcase⟩ := hq
    have hL := hLm _ _ rfl
    have hz0 := z_say (b := b) (cn := cn) (a1 := a1) (af := af) (s1 := s1) (sf := sf) hR hP
    rcases hcase with ⟨hne, -⟩ | ⟨-, hN⟩
    · exact absurd hz0 hne
    rw [hz0] at hs0
    obtain ⟨hrb, hJJ⟩ := t_say hR hJ hcn hP hN
    subst hrb
    refine lv_istore (lv' := [(6, .int v), (5, .int 0), (0, .ref b0), (1, .ref (adr 0)), (2, .ref (adm 0)), (3, .ref b9), (4, .int (nI i))]) hx hb dL_law_1221 hl (by decide) rfl (fun ls hl => ?_)
    refine lv_aload_n hx hb dL_law_1223 rfl (lv_at hl 4 rfl) ?_
    refine r_calli (va_runV (As := []) (rest := []) ⟨hx, hb, hml, hown, hts⟩ (k_X8_thrown l D ac _ (Am adm) adm s1 a1 hL.2.2.2.1) (cwV 0 hts gL_law_X8_thrown rfl rfl rfl (by decide +kernel) ⟨(Nat.le_of_ble_eq_true rfl), (Nat.le_of_ble_eq_true rfl)⟩) (pV hK (ci := 8) rfl (hL.2.2.2.1.cel (by omega) rfl)) rfl rfl hl.1 rfl (lv_room (Nat.le_of_ble_eq_true rfl)) dL_law_1224 ⟨by omega, by omega⟩) hS (fun k9 locs hk9 hS => ?_)
    rw [hs0] at hk9
    refine lv_iload hx hb dL_law_1227 (lv_at hl 1 rfl) ?_
    refine lv_icmp_eq (tgt := 1234) hx hb dL_law_1229 (by decide) (fun _ => ?_) (fun cq => absurd (hk9) cq)
    refine lv_iload hx hb dL_law_1234 (lv_at hl 1 rfl) ?_
    refine lv_if_ne (tgt := 1251) hx hb dL_law_1236 (by decide) (fun cq => absurd rfl cq) (fun _ => ?_)
    refine lv_aload_n hx hb dL_law_1239 rfl (lv_at hl 5 rfl) ?_
    refine lv_iconst (v := 0) hx hb dL_law_1240 (by decide) ?_
    refine h_lald hx hb hK hL.2.1 dL_law_1241 ?_
    refine m_topl (show f1 0 = v.toInt64 from hv0) ?_
    refine lv_iload hx hb dL_law_1242 (lv_at hl 0 rfl) ?_
    refine lv_i2l (v := v.toInt64) hx hb dL_law_1244 rfl ?_
    refine W.lcmp hx hb dL_law_1245 ?_
    refine m_top (show lg_cmp v.toInt64 v.toInt64 = 0 from cmp_self) ?_
    refine lv_if_eq (tgt := 1251) hx hb dL_law_1246 (by decide) (fun _ => ?_) (fun cq => absurd rfl cq)
    refine lv_goto (tgt := 1900) hx hb dL_law_1251 (by decide) ?_
    exact W.widen (k := c0 + 8) (n := s0 + 42) (by omega) (by omega) (K _ _ _ (⟨_, _, _, _, _, _, _, rfl, rfl, hL, hJJ⟩) hS (lv_sub hl [2, 3, 4, 5, 6] rfl))
  · subst hu
    refine lv_istore (lv' := [(5, .int r), (0, .ref b0), (1, .ref (adr 0)), (2, .ref (adm 0)), (3, .ref b9), (4, .int (nI i))]) hx hb dL_law_1191 hl (by decide) rfl (fun ls hl => ?_)
    refine lv_aload_n hx hb dL_law_1193 rfl (lv_at hl 3 rfl) ?_
    refine lv_aload_n hx hb dL_law_1194 rfl (lv_at hl 1 rfl) ?_
    refine lv_iload hx hb dL_law_1195 (lv_at hl 5 rfl) ?_
    refine lv_iconst (v := 1) hx hb dL_law_1197 (by decide) ?_
    refine lv_iadd hx hb dL_law_1198 ?_
    refine m_top (show nI i + 1 = nI (i + 1) from by rw [show (1 : Int32) = nI 1 from rfl, nI_add]) ?_
    refine va_sld hx hb hX0 hbl hbA hS (vp_in_nI (show (i + 1) < L by omega) (by omega)) dL_law_1199 ?_
    refine m_top (show xs (nI (i + 1)).toNatClampNeg = xs (i + 1) from by rw [nI_clamp (by omega)]) ?_
    refine lv_aload_n hx hb dL_law_1200 rfl (lv_at hl 1 rfl) ?_
    refine lv_iload hx hb dL_law_1201 (lv_at hl 5 rfl) ?_
    refine lv_iconst (v := 2) hx hb dL_law_1203 (by decide) ?_
    refine lv_iadd hx hb dL_law_1204 ?_
    refine m_top (show nI i + 2 = nI (i + 2) from by rw [show (2 : Int32) = nI 2 from rfl, nI_add]) ?_
    refine va_sld hx hb hX0 hbl hbA hS (vp_in_nI (show (i + 2) < L by omega) (by omega)) dL_law_1205 ?_
    refine m_top (show xs (nI (i + 2)).toNatClampNeg = xs (i + 2) from by rw [nI_clamp (by omega)]) ?_
    refine lv_aload_n hx hb dL_law_1206 rfl (lv_at hl 1 rfl) ?_
    refine lv_iload hx hb dL_law_1207 (lv_at hl 5 rfl) ?_
    refine lv_iconst (v := 3) hx hb dL_law_1209 (by decide) ?_
    refine lv_iadd hx hb dL_law_1210 ?_
    refine m_top (show nI i + 3 = nI (i + 3) from by rw [show (3 : Int32) = nI 3 from rfl, nI_add]) ?_
    refine va_sld hx hb hX0 hbl hbA hS (vp_in_nI (show (i + 3) < L by omega) (by omega)) dL_law_1211 ?_
    refine m_top (show xs (nI (i + 3)).toNatClampNeg = xs (i + 3) from by rw [nI_clamp (by omega)]) ?_
    refine lv_aload_n hx hb dL_law_1212 rfl (lv_at hl 1 rfl) ?_
    refine lv_iload hx hb dL_law_1213 (lv_at hl 5 rfl) ?_
    refine lv_iconst (v := 4) hx hb dL_law_1215 (by decide) ?_
    refine lv_iadd hx hb dL_law_1216 ?_
    refine m_top (show nI i + 4 = nI (i + 4) from by rw [show (4 : Int32) = nI 4 from rfl, nI_add]) ?_
    refine va_sld hx hb hX0 hbl hbA hS (vp_in_nI (show (i + 4) < L by omega) (by omega)) dL_law_1217 ?_
    refine m_top (show xs (nI (i + 4)).toNatClampNeg = xs (i + 4) from by rw [nI_clamp (by omega)]) ?_
    refine law_mod (va_runV (As := [.int (xs (i + 1)), .int (xs (i + 2)), .int (xs (i + 3)), .int (xs (i + 4))]) (rest := []) ⟨hx, hb, hml, hown, hts⟩ (k_X8_say l D ac _ (Am adm) adm sf af hL.2.2.2.1 fs fr hJ.2.1 ns (fun i => oc (so i)) (fun i => on_ (so i)) (fun i => owd (so i)) (fun i => obf (so i)) hJ.2.2.1 (xs (i + 1)) (xs (i + 2)) (xs (i + 3)) (xs (i + 4))) (cwV 4 hts gL_law_X8_say rfl rfl rfl (by decide +kernel) ⟨(Nat.le_of_ble_eq_true rfl), (Nat.le_of_ble_eq_true rfl)⟩) (pV hK (ci := 8) rfl (hL.2.2.2.1.cel (by omega) rfl)) rfl rfl hl.1 rfl (lv_room (Nat.le_of_ble_eq_true rfl)) dL_law_1218 ⟨by omega, by omega⟩) hL hS (fun b w9 H locs hq hLm hS => ?_)
    obtain ⟨s1, a1, rfl, hs0, hcase⟩ := hq
    have hL := hLm _ _ rfl
    have hS9 := hcase.elim (fun q => q.2) (fun q => absurd q.1 hcode)
    have hJJ : JJ ac (22 + 6 * no) adr w s1 a1 (cn + 1) := ⟨_, _, _, _, _, _, _, _, _, _, _, _, _, _, _, _, _, _, _, _, _, _, _, _, _, _, _, _, _, _, _, hR, hJ.scr hS9 hcn, rfl⟩
    refine lv_istore (lv' := [(6, .int b), (5, .int r), (0, .ref b0), (1, .ref (adr 0)), (2, .ref (adm 0)), (3, .ref b9), (4, .int (nI i))]) hx hb dL_law_1221 hl (by decide) rfl (fun ls hl => ?_)
    refine lv_aload_n hx hb dL_law_1223 rfl (lv_at hl 4 rfl) ?_
    refine r_calli (va_runV (As := []) (rest := []) ⟨hx, hb, hml, hown, hts⟩ (k_X8_thrown l D ac _ (Am adm) adm s1 a1 hL.2.2.2.1) (cwV 0 hts gL_law_X8_thrown rfl rfl rfl (by decide +kernel) ⟨(Nat.le_of_ble_eq_true rfl), (Nat.le_of_ble_eq_true rfl)⟩) (pV hK (ci := 8) rfl (hL.2.2.2.1.cel (by omega) rfl)) rfl rfl hl.1 rfl (lv_room (Nat.le_of_ble_eq_true rfl)) dL_law_1224 ⟨by omega, by omega⟩) hS (fun k9 locs hk9 hS => ?_)
    rw [hs0] at hk9
    refine lv_iload hx hb dL_law_1227 (lv_at hl 1 rfl) ?_
    refine lv_icmp_eq (tgt := 1234) hx hb dL_law_1229 (by decide) (fun _ => ?_) (fun cq => absurd (hk9.trans hr0.symm) cq)
    refine lv_iload hx hb dL_law_1234 (lv_at hl 1 rfl) ?_
    refine lv_if_ne (tgt := 1251) hx hb dL_law_1236 (by decide) (fun _ => ?_) (fun cq => absurd (hr0.symm.trans cq) (code_ne cd1_le hcode))
    refine lv_goto (tgt := 1900) hx hb dL_law_1251 (by decide) ?_
    exact W.widen (k := c0 + 8) (n := s0 + 42) (by omega) (by omega) (K _ _ _ (⟨_, _, _, _, _, _, _, rfl, rfl, hL, hJJ⟩) hS (lv_sub hl [2, 3, 4, 5, 6] rfl))
set_option maxHeartbeats 4000000 in
set_option maxRecDepth 100000 in
/-- the law at a call of ruling -/
theorem lc_ruling {p : Program} {l : Launch} {e : Env} {s : State} {m : MethodId} {below : List Frame} {meth : Method} {c : Code} {b0 L : Nat} {xs : Nat → Int32} {D : va_G} {ac : Nat → ClassId} (E : LEn p l s m c b0 L xs D ac) {Q : State → Prop} {x9 m9 b9 cn i c0 s0 : Nat} {H : Heap} {locs : List Loc} {ls : Array Slot} (hI : LIv D ac s x9 m9 b9 cn H) (hS : va_S (Lo s) s.heap H locs) (hl : lv_has ls 7 [(0, .ref b0), (1, .ref x9), (2, .ref m9), (3, .ref b9), (4, .int (nI i))]) (hi : i + 5 ≤ L) (hcn : cn + 1 < 1000) (hc : c0 + 8 ≤ room_1.cells) (hs : s0 + 42 ≤ room_1.slots) (K : ∀ (H1 : Heap) (locs1 : List Loc) (ls1 : Array Slot), LIv D ac s x9 m9 b9 (cn + 1) H1 → va_S (Lo s) s.heap H1 locs1 → lv_has ls1 7 [(0, .ref b0), (1, .ref x9), (2, .ref m9), (3, .ref b9), (4, .int (nI i))] → W p l e room_1 s m #[Value.ref b0] below meth c H1 locs1 (c0 + 8) (s0 + 42) Q (F0 m 1900 ls1 [])) : W p l e room_1 s m #[Value.ref b0] below meth c H locs c0 s0 Q (F0 m 1254 ls []) := by
  obtain ⟨hx, hb, hml, hown, hts, hlt, hK, hX, hC, hX0, hbl, hL9⟩ := E
  obtain ⟨N, adr, w, f, adm, sf, af, rfl, rfl, hL, dl, dw, fs, fr, ft, ns, so, hv, nd, du, T, nr, rq, nq, oq, pd, er, no, oc, on_, owd, obf, rb, st, mt, co, py, hd, le, pr, ra, hR, hJ, rfl⟩ := hI
  have hbA : ¬ Lo s b0 := Nat.not_le.mpr hbl
  refine lv_aload_n hx hb dL_law_1254 rfl (lv_at hl 1 rfl) ?_
  refine lv_aload_n hx hb dL_law_1255 rfl (lv_at hl 0 rfl) ?_
  refine lv_iload hx hb dL_law_1256 (lv_at hl 4 rfl) ?_
  refine lv_iconst (v := 1) hx hb dL_law_1258 (by decide) ?_
  refine lv_iadd hx hb dL_law_1259 ?_
  refine m_top (show nI i + 1 = nI (i + 1) from by rw [show (1 : Int32) = nI 1 from rfl, nI_add]) ?_
  refine va_sld hx hb hX0 hbl hbA hS (vp_in_nI (show (i + 1) < L by omega) (by omega)) dL_law_1260 ?_
  refine m_top (show xs (nI (i + 1)).toNatClampNeg = xs (i + 1) from by rw [nI_clamp (by omega)]) ?_
  refine lv_aload_n hx hb dL_law_1261 rfl (lv_at hl 0 rfl) ?_
  refine lv_iload hx hb dL_law_1262 (lv_at hl 4 rfl) ?_
  refine lv_iconst (v := 2) hx hb dL_law_1264 (by decide) ?_
  refine lv_iadd hx hb dL_law_1265 ?_
  refine m_top (show nI i + 2 = nI (i + 2) from by rw [show (2 : Int32) = nI 2 from rfl, nI_add]) ?_
  refine va_sld hx hb hX0 hbl hbA hS (vp_in_nI (show (i + 2) < L by omega) (by omega)) dL_law_1266 ?_
  refine m_top (show xs (nI (i + 2)).toNatClampNeg = xs (i + 2) from by rw [nI_clamp (by omega)]) ?_
  refine lv_aload_n hx hb dL_law_1267 rfl (lv_at hl 3 rfl) ?_
  refine law_help (vx_runSW (hh := [(0, 10, 13, 13)]) (As := [.ref (adr 0), .int (xs (i + 1)), .int (xs (i + 2)), .ref b9]) (rest := []) ⟨hx, hb, hml, hown, hts⟩ (kL_ruling l D ac _ (Ax (Lo s) adm) _ adr w b9 f hL.1 hL.2.1 hL.2.2.1 _ _ (xs (i + 1)) (xs (i + 2)) _ (hL.1.cel (by omega) hR.1) (k_X7_ruling l D ac _ hlt (Abt (Ax (Lo s) adm) b9) _ adr w hL.1 dl dw fs fr ft ns so hv nd du T nr rq nq oq pd er no oc on_ owd obf rb st mt co py hd le pr ra hR (Nat.le_refl _) (xs (i + 1)) (xs (i + 2)))) (vx_cwSW 4 hts gL_law_L_ruling rfl rfl rfl (by decide +kernel) ⟨(Nat.le_of_ble_eq_true rfl), (Nat.le_of_ble_eq_true rfl)⟩) (pSL hK ((hX.now hS).narrow (fun q h => h.1)) hC) rfl rfl hl.1 rfl (lv_room (Nat.le_of_ble_eq_true rfl)) dL_law_1268 ⟨by omega, by omega⟩) hL hS (fun r u H locs hp hL hS => ?_)
  rcases hp with ⟨rfl, v, hPx, hv0⟩ | ⟨hr0, hcode, hu⟩
  · obtain ⟨N9, a9, w1, f1⟩ := u
    have hv0 : f1 0 = v.toInt64 := hv0
    obtain ⟨hN9, ha9, hP⟩ := hPx
    have hN8 : N9 = 22 + 6 * no := hN9
    have ha8 : adr = a9 := ha9.symm
    subst ha8
    subst hN8
    refine lv_istore (lv' := [(5, .int 0), (0, .ref b0), (1, .ref (adr 0)), (2, .ref (adm 0)), (3, .ref b9), (4, .int (nI i))]) hx hb dL_law_1271 hl (by decide) rfl (fun ls hl => ?_)
    refine lv_aload_n hx hb dL_law_1273 rfl (lv_at hl 3 rfl) ?_
    refine lv_aload_n hx hb dL_law_1274 rfl (lv_at hl 1 rfl) ?_
    refine lv_iload hx hb dL_law_1275 (lv_at hl 5 rfl) ?_
    refine lv_iconst (v := 1) hx hb dL_law_1277 (by decide) ?_
    refine lv_iadd hx hb dL_law_1278 ?_
    refine m_top (show nI i + 1 = nI (i + 1) from by rw [show (1 : Int32) = nI 1 from rfl, nI_add]) ?_
    refine va_sld hx hb hX0 hbl hbA hS (vp_in_nI (show (i + 1) < L by omega) (by omega)) dL_law_1279 ?_
    refine m_top (show xs (nI (i + 1)).toNatClampNeg = xs (i + 1) from by rw [nI_clamp (by omega)]) ?_
    refine lv_aload_n hx hb dL_law_1280 rfl (lv_at hl 1 rfl) ?_
    refine lv_iload hx hb dL_law_1281 (lv_at hl 5 rfl) ?_
    refine lv_iconst (v := 2) hx hb dL_law_1283 (by decide) ?_
    refine lv_iadd hx hb dL_law_1284 ?_
    refine m_top (show nI i + 2 = nI (i + 2) from by rw [show (2 : Int32) = nI 2 from rfl, nI_add]) ?_
    refine va_sld hx hb hX0 hbl hbA hS (vp_in_nI (show (i + 2) < L by omega) (by omega)) dL_law_1285 ?_
    refine m_top (show xs (nI (i + 2)).toNatClampNeg = xs (i + 2) from by rw [nI_clamp (by omega)]) ?_
    refine law_mod (va_runV (As := [.int (xs (i + 1)), .int (xs (i + 2))]) (rest := []) ⟨hx, hb, hml, hown, hts⟩ (k_X8_ruling l D ac _ (Am adm) adm sf af hL.2.2.2.1 fs fr hJ.2.1 (xs (i + 1)) (xs (i + 2))) (cwV 2 hts gL_law_X8_ruling rfl rfl rfl (by decide +kernel) ⟨(Nat.le_of_ble_eq_true rfl), (Nat.le_of_ble_eq_true rfl)⟩) (pV hK (ci := 8) rfl (hL.2.2.2.1.cel (by omega) rfl)) rfl rfl hl.1 rfl (lv_room (Nat.le_of_ble_eq_true rfl)) dL_law_1286 ⟨by omega, by omega⟩) hL hS (fun b w9 H locs hq hLm hS => ?_)
    obtain ⟨s1, a1, rfl, hs0, hcase⟩ := hq
    have hL := hLm _ _ rfl
    have hz0 := z_ruling (b := b) (cn := cn) (a1 := a1) (af := af) (s1 := s1) (sf := sf) hR hP
    rcases hcase with ⟨hne, -⟩ | ⟨-, hN⟩
    · exact absurd hz0 hne
    rw [hz0] at hs0
    obtain ⟨hrb, hJJ⟩ := t_ruling hR hJ hcn hP hN
    subst hrb
    refine lv_istore (lv' := [(6, .int v), (5, .int 0), (0, .ref b0), (1, .ref (adr 0)), (2, .ref (adm 0)), (3, .ref b9), (4, .int (nI i))]) hx hb dL_law_1289 hl (by decide) rfl (fun ls hl => ?_)
    refine lv_aload_n hx hb dL_law_1291 rfl (lv_at hl 4 rfl) ?_
    refine r_calli (va_runV (As := []) (rest := []) ⟨hx, hb, hml, hown, hts⟩ (k_X8_thrown l D ac _ (Am adm) adm s1 a1 hL.2.2.2.1) (cwV 0 hts gL_law_X8_thrown rfl rfl rfl (by decide +kernel) ⟨(Nat.le_of_ble_eq_true rfl), (Nat.le_of_ble_eq_true rfl)⟩) (pV hK (ci := 8) rfl (hL.2.2.2.1.cel (by omega) rfl)) rfl rfl hl.1 rfl (lv_room (Nat.le_of_ble_eq_true rfl)) dL_law_1292 ⟨by omega, by omega⟩) hS (fun k9 locs hk9 hS => ?_)
    rw [hs0] at hk9
    refine lv_iload hx hb dL_law_1295 (lv_at hl 1 rfl) ?_
    refine lv_icmp_eq (tgt := 1302) hx hb dL_law_1297 (by decide) (fun _ => ?_) (fun cq => absurd (hk9) cq)
    refine lv_iload hx hb dL_law_1302 (lv_at hl 1 rfl) ?_
    refine lv_if_ne (tgt := 1319) hx hb dL_law_1304 (by decide) (fun cq => absurd rfl cq) (fun _ => ?_)
    refine lv_aload_n hx hb dL_law_1307 rfl (lv_at hl 5 rfl) ?_
    refine lv_iconst (v := 0) hx hb dL_law_1308 (by decide) ?_
    refine h_lald hx hb hK hL.2.1 dL_law_1309 ?_
    refine m_topl (show f1 0 = v.toInt64 from hv0) ?_
    refine lv_iload hx hb dL_law_1310 (lv_at hl 0 rfl) ?_
    refine lv_i2l (v := v.toInt64) hx hb dL_law_1312 rfl ?_
    refine W.lcmp hx hb dL_law_1313 ?_
    refine m_top (show lg_cmp v.toInt64 v.toInt64 = 0 from cmp_self) ?_
    refine lv_if_eq (tgt := 1319) hx hb dL_law_1314 (by decide) (fun _ => ?_) (fun cq => absurd rfl cq)
    refine lv_goto (tgt := 1900) hx hb dL_law_1319 (by decide) ?_
    exact W.widen (k := c0 + 8) (n := s0 + 42) (by omega) (by omega) (K _ _ _ (⟨_, _, _, _, _, _, _, rfl, rfl, hL, hJJ⟩) hS (lv_sub hl [2, 3, 4, 5, 6] rfl))
  · subst hu
    refine lv_istore (lv' := [(5, .int r), (0, .ref b0), (1, .ref (adr 0)), (2, .ref (adm 0)), (3, .ref b9), (4, .int (nI i))]) hx hb dL_law_1271 hl (by decide) rfl (fun ls hl => ?_)
    refine lv_aload_n hx hb dL_law_1273 rfl (lv_at hl 3 rfl) ?_
    refine lv_aload_n hx hb dL_law_1274 rfl (lv_at hl 1 rfl) ?_
    refine lv_iload hx hb dL_law_1275 (lv_at hl 5 rfl) ?_
    refine lv_iconst (v := 1) hx hb dL_law_1277 (by decide) ?_
    refine lv_iadd hx hb dL_law_1278 ?_
    refine m_top (show nI i + 1 = nI (i + 1) from by rw [show (1 : Int32) = nI 1 from rfl, nI_add]) ?_
    refine va_sld hx hb hX0 hbl hbA hS (vp_in_nI (show (i + 1) < L by omega) (by omega)) dL_law_1279 ?_
    refine m_top (show xs (nI (i + 1)).toNatClampNeg = xs (i + 1) from by rw [nI_clamp (by omega)]) ?_
    refine lv_aload_n hx hb dL_law_1280 rfl (lv_at hl 1 rfl) ?_
    refine lv_iload hx hb dL_law_1281 (lv_at hl 5 rfl) ?_
    refine lv_iconst (v := 2) hx hb dL_law_1283 (by decide) ?_
    refine lv_iadd hx hb dL_law_1284 ?_
    refine m_top (show nI i + 2 = nI (i + 2) from by rw [show (2 : Int32) = nI 2 from rfl, nI_add]) ?_
    refine va_sld hx hb hX0 hbl hbA hS (vp_in_nI (show (i + 2) < L by omega) (by omega)) dL_law_1285 ?_
    refine m_top (show xs (nI (i + 2)).toNatClampNeg = xs (i + 2) from by rw [nI_clamp (by omega)]) ?_
    refine law_mod (va_runV (As := [.int (xs (i + 1)), .int (xs (i + 2))]) (rest := []) ⟨hx, hb, hml, hown, hts⟩ (k_X8_ruling l D ac _ (Am adm) adm sf af hL.2.2.2.1 fs fr hJ.2.1 (xs (i + 1)) (xs (i + 2))) (cwV 2 hts gL_law_X8_ruling rfl rfl rfl (by decide +kernel) ⟨(Nat.le_of_ble_eq_true rfl), (Nat.le_of_ble_eq_true rfl)⟩) (pV hK (ci := 8) rfl (hL.2.2.2.1.cel (by omega) rfl)) rfl rfl hl.1 rfl (lv_room (Nat.le_of_ble_eq_true rfl)) dL_law_1286 ⟨by omega, by omega⟩) hL hS (fun b w9 H locs hq hLm hS => ?_)
    obtain ⟨s1, a1, rfl, hs0, hcase⟩ := hq
    have hL := hLm _ _ rfl
    have hS9 := hcase.elim (fun q => q.2) (fun q => absurd q.1 hcode)
    have hJJ : JJ ac (22 + 6 * no) adr w s1 a1 (cn + 1) := ⟨_, _, _, _, _, _, _, _, _, _, _, _, _, _, _, _, _, _, _, _, _, _, _, _, _, _, _, _, _, _, _, hR, hJ.scr hS9 hcn, rfl⟩
    refine lv_istore (lv' := [(6, .int b), (5, .int r), (0, .ref b0), (1, .ref (adr 0)), (2, .ref (adm 0)), (3, .ref b9), (4, .int (nI i))]) hx hb dL_law_1289 hl (by decide) rfl (fun ls hl => ?_)
    refine lv_aload_n hx hb dL_law_1291 rfl (lv_at hl 4 rfl) ?_
    refine r_calli (va_runV (As := []) (rest := []) ⟨hx, hb, hml, hown, hts⟩ (k_X8_thrown l D ac _ (Am adm) adm s1 a1 hL.2.2.2.1) (cwV 0 hts gL_law_X8_thrown rfl rfl rfl (by decide +kernel) ⟨(Nat.le_of_ble_eq_true rfl), (Nat.le_of_ble_eq_true rfl)⟩) (pV hK (ci := 8) rfl (hL.2.2.2.1.cel (by omega) rfl)) rfl rfl hl.1 rfl (lv_room (Nat.le_of_ble_eq_true rfl)) dL_law_1292 ⟨by omega, by omega⟩) hS (fun k9 locs hk9 hS => ?_)
    rw [hs0] at hk9
    refine lv_iload hx hb dL_law_1295 (lv_at hl 1 rfl) ?_
    refine lv_icmp_eq (tgt := 1302) hx hb dL_law_1297 (by decide) (fun _ => ?_) (fun cq => absurd (hk9.trans hr0.symm) cq)
    refine lv_iload hx hb dL_law_1302 (lv_at hl 1 rfl) ?_
    refine lv_if_ne (tgt := 1319) hx hb dL_law_1304 (by decide) (fun _ => ?_) (fun cq => absurd (hr0.symm.trans cq) (code_ne cd1_le hcode))
    refine lv_goto (tgt := 1900) hx hb dL_law_1319 (by decide) ?_
    exact W.widen (k := c0 + 8) (n := s0 + 42) (by omega) (by omega) (K _ _ _ (⟨_, _, _, _, _, _, _, rfl, rfl, hL, hJJ⟩) hS (lv_sub hl [2, 3, 4, 5, 6] rfl))
set_option maxHeartbeats 4000000 in
set_option maxRecDepth 100000 in
/-- the law at a call of sold -/
theorem lc_sold {p : Program} {l : Launch} {e : Env} {s : State} {m : MethodId} {below : List Frame} {meth : Method} {c : Code} {b0 L : Nat} {xs : Nat → Int32} {D : va_G} {ac : Nat → ClassId} (E : LEn p l s m c b0 L xs D ac) {Q : State → Prop} {x9 m9 b9 cn i c0 s0 : Nat} {H : Heap} {locs : List Loc} {ls : Array Slot} (hI : LIv D ac s x9 m9 b9 cn H) (hS : va_S (Lo s) s.heap H locs) (hl : lv_has ls 7 [(0, .ref b0), (1, .ref x9), (2, .ref m9), (3, .ref b9), (4, .int (nI i))]) (hi : i + 5 ≤ L) (hcn : cn + 1 < 1000) (hc : c0 + 8 ≤ room_1.cells) (hs : s0 + 42 ≤ room_1.slots) (K : ∀ (H1 : Heap) (locs1 : List Loc) (ls1 : Array Slot), LIv D ac s x9 m9 b9 (cn + 1) H1 → va_S (Lo s) s.heap H1 locs1 → lv_has ls1 7 [(0, .ref b0), (1, .ref x9), (2, .ref m9), (3, .ref b9), (4, .int (nI i))] → W p l e room_1 s m #[Value.ref b0] below meth c H1 locs1 (c0 + 8) (s0 + 42) Q (F0 m 1900 ls1 [])) : W p l e room_1 s m #[Value.ref b0] below meth c H locs c0 s0 Q (F0 m 1322 ls []) := by
  obtain ⟨hx, hb, hml, hown, hts, hlt, hK, hX, hC, hX0, hbl, hL9⟩ := E
  obtain ⟨N, adr, w, f, adm, sf, af, rfl, rfl, hL, dl, dw, fs, fr, ft, ns, so, hv, nd, du, T, nr, rq, nq, oq, pd, er, no, oc, on_, owd, obf, rb, st, mt, co, py, hd, le, pr, ra, hR, hJ, rfl⟩ := hI
  have hbA : ¬ Lo s b0 := Nat.not_le.mpr hbl
  refine lv_aload_n hx hb dL_law_1322 rfl (lv_at hl 1 rfl) ?_
  refine law_cls (va_runV (As := []) (rest := []) ⟨hx, hb, hml, hown, hts⟩ (k_X7_sold l D ac _ (Abt (Ax (Lo s) adm) b9) _ adr w hL.1 dl dw fs fr ft ns so hv nd du T nr rq nq oq pd er no oc on_ owd obf rb st mt co py hd le pr ra hR (Nat.le_refl _) ) (cwV 0 hts gL_law_X7_sold rfl rfl rfl (by decide +kernel) ⟨(Nat.le_of_ble_eq_true rfl), (Nat.le_of_ble_eq_true rfl)⟩) (pV hK (ci := 7) rfl (hL.1.cel (by omega) hR.1)) rfl rfl hl.1 rfl (lv_room (Nat.le_of_ble_eq_true rfl)) dL_law_1323 ⟨by omega, by omega⟩) hL hS (fun r w1 H locs hp hL hS => ?_)
  refine lv_aload_n hx hb dL_law_1326 rfl (lv_at hl 2 rfl) ?_
  refine law_mod (va_runV (As := []) (rest := [.int r]) ⟨hx, hb, hml, hown, hts⟩ (k_X8_sold l D ac _ (Am adm) adm sf af hL.2.2.2.1 ns (fun i => oc (so i)) (fun i => on_ (so i)) (fun i => owd (so i)) (fun i => obf (so i)) hJ.2.2.1 ) (cwV 0 hts gL_law_X8_sold rfl rfl rfl (by decide +kernel) ⟨(Nat.le_of_ble_eq_true rfl), (Nat.le_of_ble_eq_true rfl)⟩) (pV hK (ci := 8) rfl (hL.2.2.2.1.cel (by omega) rfl)) rfl rfl hl.1 rfl (lv_room (Nat.le_of_ble_eq_true rfl)) dL_law_1327 ⟨by omega, by omega⟩) hL hS (fun b w9 H locs hq hLm hS => ?_)
  obtain ⟨hq0, hq1⟩ := hq
  have hL := hLm _ _ hq1
  obtain ⟨hrb, hJJ⟩ := t_sold  hR hJ hcn hp ⟨hq0, rfl, rfl⟩
  subst hrb
  refine lv_icmp_eq (tgt := 1900) hx hb dL_law_1330 (by decide) (fun _ => ?_) (fun cq => absurd rfl cq)
  exact W.widen (k := c0 + 8) (n := s0 + 42) (by omega) (by omega) (K _ _ _ (⟨_, _, _, _, _, _, _, rfl, rfl, hL, hJJ⟩) hS (lv_sub hl [0, 1, 2, 3, 4] rfl))
set_option maxHeartbeats 4000000 in
set_option maxRecDepth 100000 in
/-- the law at a call of clientOf -/
theorem lc_clientOf {p : Program} {l : Launch} {e : Env} {s : State} {m : MethodId} {below : List Frame} {meth : Method} {c : Code} {b0 L : Nat} {xs : Nat → Int32} {D : va_G} {ac : Nat → ClassId} (E : LEn p l s m c b0 L xs D ac) {Q : State → Prop} {x9 m9 b9 cn i c0 s0 : Nat} {H : Heap} {locs : List Loc} {ls : Array Slot} (hI : LIv D ac s x9 m9 b9 cn H) (hS : va_S (Lo s) s.heap H locs) (hl : lv_has ls 7 [(0, .ref b0), (1, .ref x9), (2, .ref m9), (3, .ref b9), (4, .int (nI i))]) (hi : i + 5 ≤ L) (hcn : cn + 1 < 1000) (hc : c0 + 8 ≤ room_1.cells) (hs : s0 + 42 ≤ room_1.slots) (K : ∀ (H1 : Heap) (locs1 : List Loc) (ls1 : Array Slot), LIv D ac s x9 m9 b9 (cn + 1) H1 → va_S (Lo s) s.heap H1 locs1 → lv_has ls1 7 [(0, .ref b0), (1, .ref x9), (2, .ref m9), (3, .ref b9), (4, .int (nI i))] → W p l e room_1 s m #[Value.ref b0] below meth c H1 locs1 (c0 + 8) (s0 + 42) Q (F0 m 1900 ls1 [])) : W p l e room_1 s m #[Value.ref b0] below meth c H locs c0 s0 Q (F0 m 1335 ls []) := by
  obtain ⟨hx, hb, hml, hown, hts, hlt, hK, hX, hC, hX0, hbl, hL9⟩ := E
  obtain ⟨N, adr, w, f, adm, sf, af, rfl, rfl, hL, dl, dw, fs, fr, ft, ns, so, hv, nd, du, T, nr, rq, nq, oq, pd, er, no, oc, on_, owd, obf, rb, st, mt, co, py, hd, le, pr, ra, hR, hJ, rfl⟩ := hI
  have hbA : ¬ Lo s b0 := Nat.not_le.mpr hbl
  refine lv_aload_n hx hb dL_law_1335 rfl (lv_at hl 1 rfl) ?_
  refine lv_aload_n hx hb dL_law_1336 rfl (lv_at hl 0 rfl) ?_
  refine lv_iload hx hb dL_law_1337 (lv_at hl 4 rfl) ?_
  refine lv_iconst (v := 1) hx hb dL_law_1339 (by decide) ?_
  refine lv_iadd hx hb dL_law_1340 ?_
  refine m_top (show nI i + 1 = nI (i + 1) from by rw [show (1 : Int32) = nI 1 from rfl, nI_add]) ?_
  refine va_sld hx hb hX0 hbl hbA hS (vp_in_nI (show (i + 1) < L by omega) (by omega)) dL_law_1341 ?_
  refine m_top (show xs (nI (i + 1)).toNatClampNeg = xs (i + 1) from by rw [nI_clamp (by omega)]) ?_
  refine lv_aload_n hx hb dL_law_1342 rfl (lv_at hl 3 rfl) ?_
  refine law_help (vx_runSW (hh := [(0, 9, 12, 20)]) (As := [.ref (adr 0), .int (xs (i + 1)), .ref b9]) (rest := []) ⟨hx, hb, hml, hown, hts⟩ (kL_clientOf l D ac _ (Ax (Lo s) adm) _ adr w b9 f hL.1 hL.2.1 hL.2.2.1 _ _ (xs (i + 1)) _ (hL.1.cel (by omega) hR.1) (k_X7_clientOf l D ac _ hlt (Abt (Ax (Lo s) adm) b9) _ adr w hL.1 dl dw fs fr ft ns so hv nd du T nr rq nq oq pd er no oc on_ owd obf rb st mt co py hd le pr ra hR (Nat.le_refl _) (xs (i + 1)))) (vx_cwSW 3 hts gL_law_L_clientOf rfl rfl rfl (by decide +kernel) ⟨(Nat.le_of_ble_eq_true rfl), (Nat.le_of_ble_eq_true rfl)⟩) (pSL hK ((hX.now hS).narrow (fun q h => h.1)) hC) rfl rfl hl.1 rfl (lv_room (Nat.le_of_ble_eq_true rfl)) dL_law_1343 ⟨by omega, by omega⟩) hL hS (fun r u H locs hp hL hS => ?_)
  rcases hp with ⟨rfl, v, hPx, hv0⟩ | ⟨hr0, hcode, hu⟩
  · obtain ⟨N9, a9, w1, f1⟩ := u
    have hv0 : f1 0 = v.toInt64 := hv0
    obtain ⟨hN9, ha9, hP⟩ := hPx
    have hN8 : N9 = 22 + 6 * no := hN9
    have ha8 : adr = a9 := ha9.symm
    subst ha8
    subst hN8
    refine lv_istore (lv' := [(5, .int 0), (0, .ref b0), (1, .ref (adr 0)), (2, .ref (adm 0)), (3, .ref b9), (4, .int (nI i))]) hx hb dL_law_1346 hl (by decide) rfl (fun ls hl => ?_)
    refine lv_aload_n hx hb dL_law_1348 rfl (lv_at hl 3 rfl) ?_
    refine lv_aload_n hx hb dL_law_1349 rfl (lv_at hl 1 rfl) ?_
    refine lv_iload hx hb dL_law_1350 (lv_at hl 5 rfl) ?_
    refine lv_iconst (v := 1) hx hb dL_law_1352 (by decide) ?_
    refine lv_iadd hx hb dL_law_1353 ?_
    refine m_top (show nI i + 1 = nI (i + 1) from by rw [show (1 : Int32) = nI 1 from rfl, nI_add]) ?_
    refine va_sld hx hb hX0 hbl hbA hS (vp_in_nI (show (i + 1) < L by omega) (by omega)) dL_law_1354 ?_
    refine m_top (show xs (nI (i + 1)).toNatClampNeg = xs (i + 1) from by rw [nI_clamp (by omega)]) ?_
    refine law_mod (va_runV (As := [.int (xs (i + 1))]) (rest := []) ⟨hx, hb, hml, hown, hts⟩ (k_X8_clientOf l D ac _ (Am adm) adm sf af hL.2.2.2.1 ns (fun i => oc (so i)) (fun i => on_ (so i)) (fun i => owd (so i)) (fun i => obf (so i)) hJ.2.2.1 (xs (i + 1))) (cwV 1 hts gL_law_X8_clientOf rfl rfl rfl (by decide +kernel) ⟨(Nat.le_of_ble_eq_true rfl), (Nat.le_of_ble_eq_true rfl)⟩) (pV hK (ci := 8) rfl (hL.2.2.2.1.cel (by omega) rfl)) rfl rfl hl.1 rfl (lv_room (Nat.le_of_ble_eq_true rfl)) dL_law_1355 ⟨by omega, by omega⟩) hL hS (fun b w9 H locs hq hLm hS => ?_)
    obtain ⟨s1, a1, rfl, hs0, hcase⟩ := hq
    have hL := hLm _ _ rfl
    have hz0 := z_clientOf (b := b) (cn := cn) (a1 := a1) (af := af) (s1 := s1) (sf := sf) hR hP
    rcases hcase with ⟨hne, -⟩ | ⟨-, hN⟩
    · exact absurd hz0 hne
    rw [hz0] at hs0
    obtain ⟨hrb, hJJ⟩ := t_clientOf hR hJ hcn hP hN
    subst hrb
    refine lv_istore (lv' := [(6, .int v), (5, .int 0), (0, .ref b0), (1, .ref (adr 0)), (2, .ref (adm 0)), (3, .ref b9), (4, .int (nI i))]) hx hb dL_law_1358 hl (by decide) rfl (fun ls hl => ?_)
    refine lv_aload_n hx hb dL_law_1360 rfl (lv_at hl 4 rfl) ?_
    refine r_calli (va_runV (As := []) (rest := []) ⟨hx, hb, hml, hown, hts⟩ (k_X8_thrown l D ac _ (Am adm) adm s1 a1 hL.2.2.2.1) (cwV 0 hts gL_law_X8_thrown rfl rfl rfl (by decide +kernel) ⟨(Nat.le_of_ble_eq_true rfl), (Nat.le_of_ble_eq_true rfl)⟩) (pV hK (ci := 8) rfl (hL.2.2.2.1.cel (by omega) rfl)) rfl rfl hl.1 rfl (lv_room (Nat.le_of_ble_eq_true rfl)) dL_law_1361 ⟨by omega, by omega⟩) hS (fun k9 locs hk9 hS => ?_)
    rw [hs0] at hk9
    refine lv_iload hx hb dL_law_1364 (lv_at hl 1 rfl) ?_
    refine lv_icmp_eq (tgt := 1371) hx hb dL_law_1366 (by decide) (fun _ => ?_) (fun cq => absurd (hk9) cq)
    refine lv_iload hx hb dL_law_1371 (lv_at hl 1 rfl) ?_
    refine lv_if_ne (tgt := 1388) hx hb dL_law_1373 (by decide) (fun cq => absurd rfl cq) (fun _ => ?_)
    refine lv_aload_n hx hb dL_law_1376 rfl (lv_at hl 5 rfl) ?_
    refine lv_iconst (v := 0) hx hb dL_law_1377 (by decide) ?_
    refine h_lald hx hb hK hL.2.1 dL_law_1378 ?_
    refine m_topl (show f1 0 = v.toInt64 from hv0) ?_
    refine lv_iload hx hb dL_law_1379 (lv_at hl 0 rfl) ?_
    refine lv_i2l (v := v.toInt64) hx hb dL_law_1381 rfl ?_
    refine W.lcmp hx hb dL_law_1382 ?_
    refine m_top (show lg_cmp v.toInt64 v.toInt64 = 0 from cmp_self) ?_
    refine lv_if_eq (tgt := 1388) hx hb dL_law_1383 (by decide) (fun _ => ?_) (fun cq => absurd rfl cq)
    refine lv_goto (tgt := 1900) hx hb dL_law_1388 (by decide) ?_
    exact W.widen (k := c0 + 8) (n := s0 + 42) (by omega) (by omega) (K _ _ _ (⟨_, _, _, _, _, _, _, rfl, rfl, hL, hJJ⟩) hS (lv_sub hl [2, 3, 4, 5, 6] rfl))
  · subst hu
    refine lv_istore (lv' := [(5, .int r), (0, .ref b0), (1, .ref (adr 0)), (2, .ref (adm 0)), (3, .ref b9), (4, .int (nI i))]) hx hb dL_law_1346 hl (by decide) rfl (fun ls hl => ?_)
    refine lv_aload_n hx hb dL_law_1348 rfl (lv_at hl 3 rfl) ?_
    refine lv_aload_n hx hb dL_law_1349 rfl (lv_at hl 1 rfl) ?_
    refine lv_iload hx hb dL_law_1350 (lv_at hl 5 rfl) ?_
    refine lv_iconst (v := 1) hx hb dL_law_1352 (by decide) ?_
    refine lv_iadd hx hb dL_law_1353 ?_
    refine m_top (show nI i + 1 = nI (i + 1) from by rw [show (1 : Int32) = nI 1 from rfl, nI_add]) ?_
    refine va_sld hx hb hX0 hbl hbA hS (vp_in_nI (show (i + 1) < L by omega) (by omega)) dL_law_1354 ?_
    refine m_top (show xs (nI (i + 1)).toNatClampNeg = xs (i + 1) from by rw [nI_clamp (by omega)]) ?_
    refine law_mod (va_runV (As := [.int (xs (i + 1))]) (rest := []) ⟨hx, hb, hml, hown, hts⟩ (k_X8_clientOf l D ac _ (Am adm) adm sf af hL.2.2.2.1 ns (fun i => oc (so i)) (fun i => on_ (so i)) (fun i => owd (so i)) (fun i => obf (so i)) hJ.2.2.1 (xs (i + 1))) (cwV 1 hts gL_law_X8_clientOf rfl rfl rfl (by decide +kernel) ⟨(Nat.le_of_ble_eq_true rfl), (Nat.le_of_ble_eq_true rfl)⟩) (pV hK (ci := 8) rfl (hL.2.2.2.1.cel (by omega) rfl)) rfl rfl hl.1 rfl (lv_room (Nat.le_of_ble_eq_true rfl)) dL_law_1355 ⟨by omega, by omega⟩) hL hS (fun b w9 H locs hq hLm hS => ?_)
    obtain ⟨s1, a1, rfl, hs0, hcase⟩ := hq
    have hL := hLm _ _ rfl
    have hS9 := hcase.elim (fun q => q.2) (fun q => absurd q.1 hcode)
    have hJJ : JJ ac (22 + 6 * no) adr w s1 a1 (cn + 1) := ⟨_, _, _, _, _, _, _, _, _, _, _, _, _, _, _, _, _, _, _, _, _, _, _, _, _, _, _, _, _, _, _, hR, hJ.scr hS9 hcn, rfl⟩
    refine lv_istore (lv' := [(6, .int b), (5, .int r), (0, .ref b0), (1, .ref (adr 0)), (2, .ref (adm 0)), (3, .ref b9), (4, .int (nI i))]) hx hb dL_law_1358 hl (by decide) rfl (fun ls hl => ?_)
    refine lv_aload_n hx hb dL_law_1360 rfl (lv_at hl 4 rfl) ?_
    refine r_calli (va_runV (As := []) (rest := []) ⟨hx, hb, hml, hown, hts⟩ (k_X8_thrown l D ac _ (Am adm) adm s1 a1 hL.2.2.2.1) (cwV 0 hts gL_law_X8_thrown rfl rfl rfl (by decide +kernel) ⟨(Nat.le_of_ble_eq_true rfl), (Nat.le_of_ble_eq_true rfl)⟩) (pV hK (ci := 8) rfl (hL.2.2.2.1.cel (by omega) rfl)) rfl rfl hl.1 rfl (lv_room (Nat.le_of_ble_eq_true rfl)) dL_law_1361 ⟨by omega, by omega⟩) hS (fun k9 locs hk9 hS => ?_)
    rw [hs0] at hk9
    refine lv_iload hx hb dL_law_1364 (lv_at hl 1 rfl) ?_
    refine lv_icmp_eq (tgt := 1371) hx hb dL_law_1366 (by decide) (fun _ => ?_) (fun cq => absurd (hk9.trans hr0.symm) cq)
    refine lv_iload hx hb dL_law_1371 (lv_at hl 1 rfl) ?_
    refine lv_if_ne (tgt := 1388) hx hb dL_law_1373 (by decide) (fun _ => ?_) (fun cq => absurd (hr0.symm.trans cq) (code_ne cd1_le hcode))
    refine lv_goto (tgt := 1900) hx hb dL_law_1388 (by decide) ?_
    exact W.widen (k := c0 + 8) (n := s0 + 42) (by omega) (by omega) (K _ _ _ (⟨_, _, _, _, _, _, _, rfl, rfl, hL, hJJ⟩) hS (lv_sub hl [2, 3, 4, 5, 6] rfl))
set_option maxHeartbeats 4000000 in
set_option maxRecDepth 100000 in
/-- the law at a call of wordOf -/
theorem lc_wordOf {p : Program} {l : Launch} {e : Env} {s : State} {m : MethodId} {below : List Frame} {meth : Method} {c : Code} {b0 L : Nat} {xs : Nat → Int32} {D : va_G} {ac : Nat → ClassId} (E : LEn p l s m c b0 L xs D ac) {Q : State → Prop} {x9 m9 b9 cn i c0 s0 : Nat} {H : Heap} {locs : List Loc} {ls : Array Slot} (hI : LIv D ac s x9 m9 b9 cn H) (hS : va_S (Lo s) s.heap H locs) (hl : lv_has ls 7 [(0, .ref b0), (1, .ref x9), (2, .ref m9), (3, .ref b9), (4, .int (nI i))]) (hi : i + 5 ≤ L) (hcn : cn + 1 < 1000) (hc : c0 + 8 ≤ room_1.cells) (hs : s0 + 42 ≤ room_1.slots) (K : ∀ (H1 : Heap) (locs1 : List Loc) (ls1 : Array Slot), LIv D ac s x9 m9 b9 (cn + 1) H1 → va_S (Lo s) s.heap H1 locs1 → lv_has ls1 7 [(0, .ref b0), (1, .ref x9), (2, .ref m9), (3, .ref b9), (4, .int (nI i))] → W p l e room_1 s m #[Value.ref b0] below meth c H1 locs1 (c0 + 8) (s0 + 42) Q (F0 m 1900 ls1 [])) : W p l e room_1 s m #[Value.ref b0] below meth c H locs c0 s0 Q (F0 m 1391 ls []) := by
  obtain ⟨hx, hb, hml, hown, hts, hlt, hK, hX, hC, hX0, hbl, hL9⟩ := E
  obtain ⟨N, adr, w, f, adm, sf, af, rfl, rfl, hL, dl, dw, fs, fr, ft, ns, so, hv, nd, du, T, nr, rq, nq, oq, pd, er, no, oc, on_, owd, obf, rb, st, mt, co, py, hd, le, pr, ra, hR, hJ, rfl⟩ := hI
  have hbA : ¬ Lo s b0 := Nat.not_le.mpr hbl
  refine lv_aload_n hx hb dL_law_1391 rfl (lv_at hl 1 rfl) ?_
  refine lv_aload_n hx hb dL_law_1392 rfl (lv_at hl 0 rfl) ?_
  refine lv_iload hx hb dL_law_1393 (lv_at hl 4 rfl) ?_
  refine lv_iconst (v := 1) hx hb dL_law_1395 (by decide) ?_
  refine lv_iadd hx hb dL_law_1396 ?_
  refine m_top (show nI i + 1 = nI (i + 1) from by rw [show (1 : Int32) = nI 1 from rfl, nI_add]) ?_
  refine va_sld hx hb hX0 hbl hbA hS (vp_in_nI (show (i + 1) < L by omega) (by omega)) dL_law_1397 ?_
  refine m_top (show xs (nI (i + 1)).toNatClampNeg = xs (i + 1) from by rw [nI_clamp (by omega)]) ?_
  refine lv_aload_n hx hb dL_law_1398 rfl (lv_at hl 0 rfl) ?_
  refine lv_iload hx hb dL_law_1399 (lv_at hl 4 rfl) ?_
  refine lv_iconst (v := 2) hx hb dL_law_1401 (by decide) ?_
  refine lv_iadd hx hb dL_law_1402 ?_
  refine m_top (show nI i + 2 = nI (i + 2) from by rw [show (2 : Int32) = nI 2 from rfl, nI_add]) ?_
  refine va_sld hx hb hX0 hbl hbA hS (vp_in_nI (show (i + 2) < L by omega) (by omega)) dL_law_1403 ?_
  refine m_top (show xs (nI (i + 2)).toNatClampNeg = xs (i + 2) from by rw [nI_clamp (by omega)]) ?_
  refine lv_aload_n hx hb dL_law_1404 rfl (lv_at hl 3 rfl) ?_
  refine law_help (vx_runSW (hh := [(0, 10, 13, 20)]) (As := [.ref (adr 0), .int (xs (i + 1)), .int (xs (i + 2)), .ref b9]) (rest := []) ⟨hx, hb, hml, hown, hts⟩ (kL_wordOf l D ac _ (Ax (Lo s) adm) _ adr w b9 f hL.1 hL.2.1 hL.2.2.1 _ _ (xs (i + 1)) (xs (i + 2)) _ (hL.1.cel (by omega) hR.1) (k_X7_wordOf l D ac _ hlt (Abt (Ax (Lo s) adm) b9) _ adr w hL.1 dl dw fs fr ft ns so hv nd du T nr rq nq oq pd er no oc on_ owd obf rb st mt co py hd le pr ra hR (Nat.le_refl _) (xs (i + 1)) (xs (i + 2)))) (vx_cwSW 4 hts gL_law_L_wordOf rfl rfl rfl (by decide +kernel) ⟨(Nat.le_of_ble_eq_true rfl), (Nat.le_of_ble_eq_true rfl)⟩) (pSL hK ((hX.now hS).narrow (fun q h => h.1)) hC) rfl rfl hl.1 rfl (lv_room (Nat.le_of_ble_eq_true rfl)) dL_law_1405 ⟨by omega, by omega⟩) hL hS (fun r u H locs hp hL hS => ?_)
  rcases hp with ⟨rfl, v, hPx, hv0⟩ | ⟨hr0, hcode, hu⟩
  · obtain ⟨N9, a9, w1, f1⟩ := u
    have hv0 : f1 0 = v.toInt64 := hv0
    obtain ⟨hN9, ha9, hP⟩ := hPx
    have hN8 : N9 = 22 + 6 * no := hN9
    have ha8 : adr = a9 := ha9.symm
    subst ha8
    subst hN8
    refine lv_istore (lv' := [(5, .int 0), (0, .ref b0), (1, .ref (adr 0)), (2, .ref (adm 0)), (3, .ref b9), (4, .int (nI i))]) hx hb dL_law_1408 hl (by decide) rfl (fun ls hl => ?_)
    refine lv_aload_n hx hb dL_law_1410 rfl (lv_at hl 3 rfl) ?_
    refine lv_aload_n hx hb dL_law_1411 rfl (lv_at hl 1 rfl) ?_
    refine lv_iload hx hb dL_law_1412 (lv_at hl 5 rfl) ?_
    refine lv_iconst (v := 1) hx hb dL_law_1414 (by decide) ?_
    refine lv_iadd hx hb dL_law_1415 ?_
    refine m_top (show nI i + 1 = nI (i + 1) from by rw [show (1 : Int32) = nI 1 from rfl, nI_add]) ?_
    refine va_sld hx hb hX0 hbl hbA hS (vp_in_nI (show (i + 1) < L by omega) (by omega)) dL_law_1416 ?_
    refine m_top (show xs (nI (i + 1)).toNatClampNeg = xs (i + 1) from by rw [nI_clamp (by omega)]) ?_
    refine lv_aload_n hx hb dL_law_1417 rfl (lv_at hl 1 rfl) ?_
    refine lv_iload hx hb dL_law_1418 (lv_at hl 5 rfl) ?_
    refine lv_iconst (v := 2) hx hb dL_law_1420 (by decide) ?_
    refine lv_iadd hx hb dL_law_1421 ?_
    refine m_top (show nI i + 2 = nI (i + 2) from by rw [show (2 : Int32) = nI 2 from rfl, nI_add]) ?_
    refine va_sld hx hb hX0 hbl hbA hS (vp_in_nI (show (i + 2) < L by omega) (by omega)) dL_law_1422 ?_
    refine m_top (show xs (nI (i + 2)).toNatClampNeg = xs (i + 2) from by rw [nI_clamp (by omega)]) ?_
    refine law_mod (va_runV (As := [.int (xs (i + 1)), .int (xs (i + 2))]) (rest := []) ⟨hx, hb, hml, hown, hts⟩ (k_X8_wordOf l D ac _ (Am adm) adm sf af hL.2.2.2.1 ns (fun i => oc (so i)) (fun i => on_ (so i)) (fun i => owd (so i)) (fun i => obf (so i)) hJ.2.2.1 (xs (i + 1)) (xs (i + 2))) (cwV 2 hts gL_law_X8_wordOf rfl rfl rfl (by decide +kernel) ⟨(Nat.le_of_ble_eq_true rfl), (Nat.le_of_ble_eq_true rfl)⟩) (pV hK (ci := 8) rfl (hL.2.2.2.1.cel (by omega) rfl)) rfl rfl hl.1 rfl (lv_room (Nat.le_of_ble_eq_true rfl)) dL_law_1423 ⟨by omega, by omega⟩) hL hS (fun b w9 H locs hq hLm hS => ?_)
    obtain ⟨s1, a1, rfl, hs0, hcase⟩ := hq
    have hL := hLm _ _ rfl
    have hz0 := z_wordOf (b := b) (cn := cn) (a1 := a1) (af := af) (s1 := s1) (sf := sf) hR hP
    rcases hcase with ⟨hne, -⟩ | ⟨-, hN⟩
    · exact absurd hz0 hne
    rw [hz0] at hs0
    obtain ⟨hrb, hJJ⟩ := t_wordOf hR hJ hcn hP hN
    subst hrb
    refine lv_istore (lv' := [(6, .int v), (5, .int 0), (0, .ref b0), (1, .ref (adr 0)), (2, .ref (adm 0)), (3, .ref b9), (4, .int (nI i))]) hx hb dL_law_1426 hl (by decide) rfl (fun ls hl => ?_)
    refine lv_aload_n hx hb dL_law_1428 rfl (lv_at hl 4 rfl) ?_
    refine r_calli (va_runV (As := []) (rest := []) ⟨hx, hb, hml, hown, hts⟩ (k_X8_thrown l D ac _ (Am adm) adm s1 a1 hL.2.2.2.1) (cwV 0 hts gL_law_X8_thrown rfl rfl rfl (by decide +kernel) ⟨(Nat.le_of_ble_eq_true rfl), (Nat.le_of_ble_eq_true rfl)⟩) (pV hK (ci := 8) rfl (hL.2.2.2.1.cel (by omega) rfl)) rfl rfl hl.1 rfl (lv_room (Nat.le_of_ble_eq_true rfl)) dL_law_1429 ⟨by omega, by omega⟩) hS (fun k9 locs hk9 hS => ?_)
    rw [hs0] at hk9
    refine lv_iload hx hb dL_law_1432 (lv_at hl 1 rfl) ?_
    refine lv_icmp_eq (tgt := 1439) hx hb dL_law_1434 (by decide) (fun _ => ?_) (fun cq => absurd (hk9) cq)
    refine lv_iload hx hb dL_law_1439 (lv_at hl 1 rfl) ?_
    refine lv_if_ne (tgt := 1456) hx hb dL_law_1441 (by decide) (fun cq => absurd rfl cq) (fun _ => ?_)
    refine lv_aload_n hx hb dL_law_1444 rfl (lv_at hl 5 rfl) ?_
    refine lv_iconst (v := 0) hx hb dL_law_1445 (by decide) ?_
    refine h_lald hx hb hK hL.2.1 dL_law_1446 ?_
    refine m_topl (show f1 0 = v.toInt64 from hv0) ?_
    refine lv_iload hx hb dL_law_1447 (lv_at hl 0 rfl) ?_
    refine lv_i2l (v := v.toInt64) hx hb dL_law_1449 rfl ?_
    refine W.lcmp hx hb dL_law_1450 ?_
    refine m_top (show lg_cmp v.toInt64 v.toInt64 = 0 from cmp_self) ?_
    refine lv_if_eq (tgt := 1456) hx hb dL_law_1451 (by decide) (fun _ => ?_) (fun cq => absurd rfl cq)
    refine lv_goto (tgt := 1900) hx hb dL_law_1456 (by decide) ?_
    exact W.widen (k := c0 + 8) (n := s0 + 42) (by omega) (by omega) (K _ _ _ (⟨_, _, _, _, _, _, _, rfl, rfl, hL, hJJ⟩) hS (lv_sub hl [2, 3, 4, 5, 6] rfl))
  · subst hu
    refine lv_istore (lv' := [(5, .int r), (0, .ref b0), (1, .ref (adr 0)), (2, .ref (adm 0)), (3, .ref b9), (4, .int (nI i))]) hx hb dL_law_1408 hl (by decide) rfl (fun ls hl => ?_)
    refine lv_aload_n hx hb dL_law_1410 rfl (lv_at hl 3 rfl) ?_
    refine lv_aload_n hx hb dL_law_1411 rfl (lv_at hl 1 rfl) ?_
    refine lv_iload hx hb dL_law_1412 (lv_at hl 5 rfl) ?_
    refine lv_iconst (v := 1) hx hb dL_law_1414 (by decide) ?_
    refine lv_iadd hx hb dL_law_1415 ?_
    refine m_top (show nI i + 1 = nI (i + 1) from by rw [show (1 : Int32) = nI 1 from rfl, nI_add]) ?_
    refine va_sld hx hb hX0 hbl hbA hS (vp_in_nI (show (i + 1) < L by omega) (by omega)) dL_law_1416 ?_
    refine m_top (show xs (nI (i + 1)).toNatClampNeg = xs (i + 1) from by rw [nI_clamp (by omega)]) ?_
    refine lv_aload_n hx hb dL_law_1417 rfl (lv_at hl 1 rfl) ?_
    refine lv_iload hx hb dL_law_1418 (lv_at hl 5 rfl) ?_
    refine lv_iconst (v := 2) hx hb dL_law_1420 (by decide) ?_
    refine lv_iadd hx hb dL_law_1421 ?_
    refine m_top (show nI i + 2 = nI (i + 2) from by rw [show (2 : Int32) = nI 2 from rfl, nI_add]) ?_
    refine va_sld hx hb hX0 hbl hbA hS (vp_in_nI (show (i + 2) < L by omega) (by omega)) dL_law_1422 ?_
    refine m_top (show xs (nI (i + 2)).toNatClampNeg = xs (i + 2) from by rw [nI_clamp (by omega)]) ?_
    refine law_mod (va_runV (As := [.int (xs (i + 1)), .int (xs (i + 2))]) (rest := []) ⟨hx, hb, hml, hown, hts⟩ (k_X8_wordOf l D ac _ (Am adm) adm sf af hL.2.2.2.1 ns (fun i => oc (so i)) (fun i => on_ (so i)) (fun i => owd (so i)) (fun i => obf (so i)) hJ.2.2.1 (xs (i + 1)) (xs (i + 2))) (cwV 2 hts gL_law_X8_wordOf rfl rfl rfl (by decide +kernel) ⟨(Nat.le_of_ble_eq_true rfl), (Nat.le_of_ble_eq_true rfl)⟩) (pV hK (ci := 8) rfl (hL.2.2.2.1.cel (by omega) rfl)) rfl rfl hl.1 rfl (lv_room (Nat.le_of_ble_eq_true rfl)) dL_law_1423 ⟨by omega, by omega⟩) hL hS (fun b w9 H locs hq hLm hS => ?_)
    obtain ⟨s1, a1, rfl, hs0, hcase⟩ := hq
    have hL := hLm _ _ rfl
    have hS9 := hcase.elim (fun q => q.2) (fun q => absurd q.1 hcode)
    have hJJ : JJ ac (22 + 6 * no) adr w s1 a1 (cn + 1) := ⟨_, _, _, _, _, _, _, _, _, _, _, _, _, _, _, _, _, _, _, _, _, _, _, _, _, _, _, _, _, _, _, hR, hJ.scr hS9 hcn, rfl⟩
    refine lv_istore (lv' := [(6, .int b), (5, .int r), (0, .ref b0), (1, .ref (adr 0)), (2, .ref (adm 0)), (3, .ref b9), (4, .int (nI i))]) hx hb dL_law_1426 hl (by decide) rfl (fun ls hl => ?_)
    refine lv_aload_n hx hb dL_law_1428 rfl (lv_at hl 4 rfl) ?_
    refine r_calli (va_runV (As := []) (rest := []) ⟨hx, hb, hml, hown, hts⟩ (k_X8_thrown l D ac _ (Am adm) adm s1 a1 hL.2.2.2.1) (cwV 0 hts gL_law_X8_thrown rfl rfl rfl (by decide +kernel) ⟨(Nat.le_of_ble_eq_true rfl), (Nat.le_of_ble_eq_true rfl)⟩) (pV hK (ci := 8) rfl (hL.2.2.2.1.cel (by omega) rfl)) rfl rfl hl.1 rfl (lv_room (Nat.le_of_ble_eq_true rfl)) dL_law_1429 ⟨by omega, by omega⟩) hS (fun k9 locs hk9 hS => ?_)
    rw [hs0] at hk9
    refine lv_iload hx hb dL_law_1432 (lv_at hl 1 rfl) ?_
    refine lv_icmp_eq (tgt := 1439) hx hb dL_law_1434 (by decide) (fun _ => ?_) (fun cq => absurd (hk9.trans hr0.symm) cq)
    refine lv_iload hx hb dL_law_1439 (lv_at hl 1 rfl) ?_
    refine lv_if_ne (tgt := 1456) hx hb dL_law_1441 (by decide) (fun _ => ?_) (fun cq => absurd (hr0.symm.trans cq) (code_ne cd1_le hcode))
    refine lv_goto (tgt := 1900) hx hb dL_law_1456 (by decide) ?_
    exact W.widen (k := c0 + 8) (n := s0 + 42) (by omega) (by omega) (K _ _ _ (⟨_, _, _, _, _, _, _, rfl, rfl, hL, hJJ⟩) hS (lv_sub hl [2, 3, 4, 5, 6] rfl))
set_option maxHeartbeats 4000000 in
set_option maxRecDepth 100000 in
/-- the law at a call of becameOf -/
theorem lc_becameOf {p : Program} {l : Launch} {e : Env} {s : State} {m : MethodId} {below : List Frame} {meth : Method} {c : Code} {b0 L : Nat} {xs : Nat → Int32} {D : va_G} {ac : Nat → ClassId} (E : LEn p l s m c b0 L xs D ac) {Q : State → Prop} {x9 m9 b9 cn i c0 s0 : Nat} {H : Heap} {locs : List Loc} {ls : Array Slot} (hI : LIv D ac s x9 m9 b9 cn H) (hS : va_S (Lo s) s.heap H locs) (hl : lv_has ls 7 [(0, .ref b0), (1, .ref x9), (2, .ref m9), (3, .ref b9), (4, .int (nI i))]) (hi : i + 5 ≤ L) (hcn : cn + 1 < 1000) (hc : c0 + 8 ≤ room_1.cells) (hs : s0 + 42 ≤ room_1.slots) (K : ∀ (H1 : Heap) (locs1 : List Loc) (ls1 : Array Slot), LIv D ac s x9 m9 b9 (cn + 1) H1 → va_S (Lo s) s.heap H1 locs1 → lv_has ls1 7 [(0, .ref b0), (1, .ref x9), (2, .ref m9), (3, .ref b9), (4, .int (nI i))] → W p l e room_1 s m #[Value.ref b0] below meth c H1 locs1 (c0 + 8) (s0 + 42) Q (F0 m 1900 ls1 [])) : W p l e room_1 s m #[Value.ref b0] below meth c H locs c0 s0 Q (F0 m 1459 ls []) := by
  obtain ⟨hx, hb, hml, hown, hts, hlt, hK, hX, hC, hX0, hbl, hL9⟩ := E
  obtain ⟨N, adr, w, f, adm, sf, af, rfl, rfl, hL, dl, dw, fs, fr, ft, ns, so, hv, nd, du, T, nr, rq, nq, oq, pd, er, no, oc, on_, owd, obf, rb, st, mt, co, py, hd, le, pr, ra, hR, hJ, rfl⟩ := hI
  have hbA : ¬ Lo s b0 := Nat.not_le.mpr hbl
  refine lv_aload_n hx hb dL_law_1459 rfl (lv_at hl 1 rfl) ?_
  refine lv_aload_n hx hb dL_law_1460 rfl (lv_at hl 0 rfl) ?_
  refine lv_iload hx hb dL_law_1461 (lv_at hl 4 rfl) ?_
  refine lv_iconst (v := 1) hx hb dL_law_1463 (by decide) ?_
  refine lv_iadd hx hb dL_law_1464 ?_
  refine m_top (show nI i + 1 = nI (i + 1) from by rw [show (1 : Int32) = nI 1 from rfl, nI_add]) ?_
  refine va_sld hx hb hX0 hbl hbA hS (vp_in_nI (show (i + 1) < L by omega) (by omega)) dL_law_1465 ?_
  refine m_top (show xs (nI (i + 1)).toNatClampNeg = xs (i + 1) from by rw [nI_clamp (by omega)]) ?_
  refine lv_aload_n hx hb dL_law_1466 rfl (lv_at hl 0 rfl) ?_
  refine lv_iload hx hb dL_law_1467 (lv_at hl 4 rfl) ?_
  refine lv_iconst (v := 2) hx hb dL_law_1469 (by decide) ?_
  refine lv_iadd hx hb dL_law_1470 ?_
  refine m_top (show nI i + 2 = nI (i + 2) from by rw [show (2 : Int32) = nI 2 from rfl, nI_add]) ?_
  refine va_sld hx hb hX0 hbl hbA hS (vp_in_nI (show (i + 2) < L by omega) (by omega)) dL_law_1471 ?_
  refine m_top (show xs (nI (i + 2)).toNatClampNeg = xs (i + 2) from by rw [nI_clamp (by omega)]) ?_
  refine lv_aload_n hx hb dL_law_1472 rfl (lv_at hl 3 rfl) ?_
  refine law_help (vx_runSW (hh := [(0, 10, 13, 20)]) (As := [.ref (adr 0), .int (xs (i + 1)), .int (xs (i + 2)), .ref b9]) (rest := []) ⟨hx, hb, hml, hown, hts⟩ (kL_becameOf l D ac _ (Ax (Lo s) adm) _ adr w b9 f hL.1 hL.2.1 hL.2.2.1 _ _ (xs (i + 1)) (xs (i + 2)) _ (hL.1.cel (by omega) hR.1) (k_X7_becameOf l D ac _ hlt (Abt (Ax (Lo s) adm) b9) _ adr w hL.1 dl dw fs fr ft ns so hv nd du T nr rq nq oq pd er no oc on_ owd obf rb st mt co py hd le pr ra hR (Nat.le_refl _) (xs (i + 1)) (xs (i + 2)))) (vx_cwSW 4 hts gL_law_L_becameOf rfl rfl rfl (by decide +kernel) ⟨(Nat.le_of_ble_eq_true rfl), (Nat.le_of_ble_eq_true rfl)⟩) (pSL hK ((hX.now hS).narrow (fun q h => h.1)) hC) rfl rfl hl.1 rfl (lv_room (Nat.le_of_ble_eq_true rfl)) dL_law_1473 ⟨by omega, by omega⟩) hL hS (fun r u H locs hp hL hS => ?_)
  rcases hp with ⟨rfl, v, hPx, hv0⟩ | ⟨hr0, hcode, hu⟩
  · obtain ⟨N9, a9, w1, f1⟩ := u
    have hv0 : f1 0 = v.toInt64 := hv0
    obtain ⟨hN9, ha9, hP⟩ := hPx
    have hN8 : N9 = 22 + 6 * no := hN9
    have ha8 : adr = a9 := ha9.symm
    subst ha8
    subst hN8
    refine lv_istore (lv' := [(5, .int 0), (0, .ref b0), (1, .ref (adr 0)), (2, .ref (adm 0)), (3, .ref b9), (4, .int (nI i))]) hx hb dL_law_1476 hl (by decide) rfl (fun ls hl => ?_)
    refine lv_aload_n hx hb dL_law_1478 rfl (lv_at hl 3 rfl) ?_
    refine lv_aload_n hx hb dL_law_1479 rfl (lv_at hl 1 rfl) ?_
    refine lv_iload hx hb dL_law_1480 (lv_at hl 5 rfl) ?_
    refine lv_iconst (v := 1) hx hb dL_law_1482 (by decide) ?_
    refine lv_iadd hx hb dL_law_1483 ?_
    refine m_top (show nI i + 1 = nI (i + 1) from by rw [show (1 : Int32) = nI 1 from rfl, nI_add]) ?_
    refine va_sld hx hb hX0 hbl hbA hS (vp_in_nI (show (i + 1) < L by omega) (by omega)) dL_law_1484 ?_
    refine m_top (show xs (nI (i + 1)).toNatClampNeg = xs (i + 1) from by rw [nI_clamp (by omega)]) ?_
    refine lv_aload_n hx hb dL_law_1485 rfl (lv_at hl 1 rfl) ?_
    refine lv_iload hx hb dL_law_1486 (lv_at hl 5 rfl) ?_
    refine lv_iconst (v := 2) hx hb dL_law_1488 (by decide) ?_
    refine lv_iadd hx hb dL_law_1489 ?_
    refine m_top (show nI i + 2 = nI (i + 2) from by rw [show (2 : Int32) = nI 2 from rfl, nI_add]) ?_
    refine va_sld hx hb hX0 hbl hbA hS (vp_in_nI (show (i + 2) < L by omega) (by omega)) dL_law_1490 ?_
    refine m_top (show xs (nI (i + 2)).toNatClampNeg = xs (i + 2) from by rw [nI_clamp (by omega)]) ?_
    refine law_mod (va_runV (As := [.int (xs (i + 1)), .int (xs (i + 2))]) (rest := []) ⟨hx, hb, hml, hown, hts⟩ (k_X8_becameOf l D ac _ (Am adm) adm sf af hL.2.2.2.1 ns (fun i => oc (so i)) (fun i => on_ (so i)) (fun i => owd (so i)) (fun i => obf (so i)) hJ.2.2.1 (xs (i + 1)) (xs (i + 2))) (cwV 2 hts gL_law_X8_becameOf rfl rfl rfl (by decide +kernel) ⟨(Nat.le_of_ble_eq_true rfl), (Nat.le_of_ble_eq_true rfl)⟩) (pV hK (ci := 8) rfl (hL.2.2.2.1.cel (by omega) rfl)) rfl rfl hl.1 rfl (lv_room (Nat.le_of_ble_eq_true rfl)) dL_law_1491 ⟨by omega, by omega⟩) hL hS (fun b w9 H locs hq hLm hS => ?_)
    obtain ⟨s1, a1, rfl, hs0, hcase⟩ := hq
    have hL := hLm _ _ rfl
    have hz0 := z_becameOf (b := b) (cn := cn) (a1 := a1) (af := af) (s1 := s1) (sf := sf) hR hP
    rcases hcase with ⟨hne, -⟩ | ⟨-, hN⟩
    · exact absurd hz0 hne
    rw [hz0] at hs0
    obtain ⟨hrb, hJJ⟩ := t_becameOf hR hJ hcn hP hN
    subst hrb
    refine lv_istore (lv' := [(6, .int v), (5, .int 0), (0, .ref b0), (1, .ref (adr 0)), (2, .ref (adm 0)), (3, .ref b9), (4, .int (nI i))]) hx hb dL_law_1494 hl (by decide) rfl (fun ls hl => ?_)
    refine lv_aload_n hx hb dL_law_1496 rfl (lv_at hl 4 rfl) ?_
    refine r_calli (va_runV (As := []) (rest := []) ⟨hx, hb, hml, hown, hts⟩ (k_X8_thrown l D ac _ (Am adm) adm s1 a1 hL.2.2.2.1) (cwV 0 hts gL_law_X8_thrown rfl rfl rfl (by decide +kernel) ⟨(Nat.le_of_ble_eq_true rfl), (Nat.le_of_ble_eq_true rfl)⟩) (pV hK (ci := 8) rfl (hL.2.2.2.1.cel (by omega) rfl)) rfl rfl hl.1 rfl (lv_room (Nat.le_of_ble_eq_true rfl)) dL_law_1497 ⟨by omega, by omega⟩) hS (fun k9 locs hk9 hS => ?_)
    rw [hs0] at hk9
    refine lv_iload hx hb dL_law_1500 (lv_at hl 1 rfl) ?_
    refine lv_icmp_eq (tgt := 1507) hx hb dL_law_1502 (by decide) (fun _ => ?_) (fun cq => absurd (hk9) cq)
    refine lv_iload hx hb dL_law_1507 (lv_at hl 1 rfl) ?_
    refine lv_if_ne (tgt := 1524) hx hb dL_law_1509 (by decide) (fun cq => absurd rfl cq) (fun _ => ?_)
    refine lv_aload_n hx hb dL_law_1512 rfl (lv_at hl 5 rfl) ?_
    refine lv_iconst (v := 0) hx hb dL_law_1513 (by decide) ?_
    refine h_lald hx hb hK hL.2.1 dL_law_1514 ?_
    refine m_topl (show f1 0 = v.toInt64 from hv0) ?_
    refine lv_iload hx hb dL_law_1515 (lv_at hl 0 rfl) ?_
    refine lv_i2l (v := v.toInt64) hx hb dL_law_1517 rfl ?_
    refine W.lcmp hx hb dL_law_1518 ?_
    refine m_top (show lg_cmp v.toInt64 v.toInt64 = 0 from cmp_self) ?_
    refine lv_if_eq (tgt := 1524) hx hb dL_law_1519 (by decide) (fun _ => ?_) (fun cq => absurd rfl cq)
    refine lv_goto (tgt := 1900) hx hb dL_law_1524 (by decide) ?_
    exact W.widen (k := c0 + 8) (n := s0 + 42) (by omega) (by omega) (K _ _ _ (⟨_, _, _, _, _, _, _, rfl, rfl, hL, hJJ⟩) hS (lv_sub hl [2, 3, 4, 5, 6] rfl))
  · subst hu
    refine lv_istore (lv' := [(5, .int r), (0, .ref b0), (1, .ref (adr 0)), (2, .ref (adm 0)), (3, .ref b9), (4, .int (nI i))]) hx hb dL_law_1476 hl (by decide) rfl (fun ls hl => ?_)
    refine lv_aload_n hx hb dL_law_1478 rfl (lv_at hl 3 rfl) ?_
    refine lv_aload_n hx hb dL_law_1479 rfl (lv_at hl 1 rfl) ?_
    refine lv_iload hx hb dL_law_1480 (lv_at hl 5 rfl) ?_
    refine lv_iconst (v := 1) hx hb dL_law_1482 (by decide) ?_
    refine lv_iadd hx hb dL_law_1483 ?_
    refine m_top (show nI i + 1 = nI (i + 1) from by rw [show (1 : Int32) = nI 1 from rfl, nI_add]) ?_
    refine va_sld hx hb hX0 hbl hbA hS (vp_in_nI (show (i + 1) < L by omega) (by omega)) dL_law_1484 ?_
    refine m_top (show xs (nI (i + 1)).toNatClampNeg = xs (i + 1) from by rw [nI_clamp (by omega)]) ?_
    refine lv_aload_n hx hb dL_law_1485 rfl (lv_at hl 1 rfl) ?_
    refine lv_iload hx hb dL_law_1486 (lv_at hl 5 rfl) ?_
    refine lv_iconst (v := 2) hx hb dL_law_1488 (by decide) ?_
    refine lv_iadd hx hb dL_law_1489 ?_
    refine m_top (show nI i + 2 = nI (i + 2) from by rw [show (2 : Int32) = nI 2 from rfl, nI_add]) ?_
    refine va_sld hx hb hX0 hbl hbA hS (vp_in_nI (show (i + 2) < L by omega) (by omega)) dL_law_1490 ?_
    refine m_top (show xs (nI (i + 2)).toNatClampNeg = xs (i + 2) from by rw [nI_clamp (by omega)]) ?_
    refine law_mod (va_runV (As := [.int (xs (i + 1)), .int (xs (i + 2))]) (rest := []) ⟨hx, hb, hml, hown, hts⟩ (k_X8_becameOf l D ac _ (Am adm) adm sf af hL.2.2.2.1 ns (fun i => oc (so i)) (fun i => on_ (so i)) (fun i => owd (so i)) (fun i => obf (so i)) hJ.2.2.1 (xs (i + 1)) (xs (i + 2))) (cwV 2 hts gL_law_X8_becameOf rfl rfl rfl (by decide +kernel) ⟨(Nat.le_of_ble_eq_true rfl), (Nat.le_of_ble_eq_true rfl)⟩) (pV hK (ci := 8) rfl (hL.2.2.2.1.cel (by omega) rfl)) rfl rfl hl.1 rfl (lv_room (Nat.le_of_ble_eq_true rfl)) dL_law_1491 ⟨by omega, by omega⟩) hL hS (fun b w9 H locs hq hLm hS => ?_)
    obtain ⟨s1, a1, rfl, hs0, hcase⟩ := hq
    have hL := hLm _ _ rfl
    have hS9 := hcase.elim (fun q => q.2) (fun q => absurd q.1 hcode)
    have hJJ : JJ ac (22 + 6 * no) adr w s1 a1 (cn + 1) := ⟨_, _, _, _, _, _, _, _, _, _, _, _, _, _, _, _, _, _, _, _, _, _, _, _, _, _, _, _, _, _, _, hR, hJ.scr hS9 hcn, rfl⟩
    refine lv_istore (lv' := [(6, .int b), (5, .int r), (0, .ref b0), (1, .ref (adr 0)), (2, .ref (adm 0)), (3, .ref b9), (4, .int (nI i))]) hx hb dL_law_1494 hl (by decide) rfl (fun ls hl => ?_)
    refine lv_aload_n hx hb dL_law_1496 rfl (lv_at hl 4 rfl) ?_
    refine r_calli (va_runV (As := []) (rest := []) ⟨hx, hb, hml, hown, hts⟩ (k_X8_thrown l D ac _ (Am adm) adm s1 a1 hL.2.2.2.1) (cwV 0 hts gL_law_X8_thrown rfl rfl rfl (by decide +kernel) ⟨(Nat.le_of_ble_eq_true rfl), (Nat.le_of_ble_eq_true rfl)⟩) (pV hK (ci := 8) rfl (hL.2.2.2.1.cel (by omega) rfl)) rfl rfl hl.1 rfl (lv_room (Nat.le_of_ble_eq_true rfl)) dL_law_1497 ⟨by omega, by omega⟩) hS (fun k9 locs hk9 hS => ?_)
    rw [hs0] at hk9
    refine lv_iload hx hb dL_law_1500 (lv_at hl 1 rfl) ?_
    refine lv_icmp_eq (tgt := 1507) hx hb dL_law_1502 (by decide) (fun _ => ?_) (fun cq => absurd (hk9.trans hr0.symm) cq)
    refine lv_iload hx hb dL_law_1507 (lv_at hl 1 rfl) ?_
    refine lv_if_ne (tgt := 1524) hx hb dL_law_1509 (by decide) (fun _ => ?_) (fun cq => absurd (hr0.symm.trans cq) (code_ne cd1_le hcode))
    refine lv_goto (tgt := 1900) hx hb dL_law_1524 (by decide) ?_
    exact W.widen (k := c0 + 8) (n := s0 + 42) (by omega) (by omega) (K _ _ _ (⟨_, _, _, _, _, _, _, rfl, rfl, hL, hJJ⟩) hS (lv_sub hl [2, 3, 4, 5, 6] rfl))
set_option maxHeartbeats 4000000 in
set_option maxRecDepth 100000 in
/-- the law at a call of isDue -/
theorem lc_isDue {p : Program} {l : Launch} {e : Env} {s : State} {m : MethodId} {below : List Frame} {meth : Method} {c : Code} {b0 L : Nat} {xs : Nat → Int32} {D : va_G} {ac : Nat → ClassId} (E : LEn p l s m c b0 L xs D ac) {Q : State → Prop} {x9 m9 b9 cn i c0 s0 : Nat} {H : Heap} {locs : List Loc} {ls : Array Slot} (hI : LIv D ac s x9 m9 b9 cn H) (hS : va_S (Lo s) s.heap H locs) (hl : lv_has ls 7 [(0, .ref b0), (1, .ref x9), (2, .ref m9), (3, .ref b9), (4, .int (nI i))]) (hi : i + 5 ≤ L) (hcn : cn + 1 < 1000) (hc : c0 + 8 ≤ room_1.cells) (hs : s0 + 42 ≤ room_1.slots) (K : ∀ (H1 : Heap) (locs1 : List Loc) (ls1 : Array Slot), LIv D ac s x9 m9 b9 (cn + 1) H1 → va_S (Lo s) s.heap H1 locs1 → lv_has ls1 7 [(0, .ref b0), (1, .ref x9), (2, .ref m9), (3, .ref b9), (4, .int (nI i))] → W p l e room_1 s m #[Value.ref b0] below meth c H1 locs1 (c0 + 8) (s0 + 42) Q (F0 m 1900 ls1 [])) : W p l e room_1 s m #[Value.ref b0] below meth c H locs c0 s0 Q (F0 m 1527 ls []) := by
  obtain ⟨hx, hb, hml, hown, hts, hlt, hK, hX, hC, hX0, hbl, hL9⟩ := E
  obtain ⟨N, adr, w, f, adm, sf, af, rfl, rfl, hL, dl, dw, fs, fr, ft, ns, so, hv, nd, du, T, nr, rq, nq, oq, pd, er, no, oc, on_, owd, obf, rb, st, mt, co, py, hd, le, pr, ra, hR, hJ, rfl⟩ := hI
  have hbA : ¬ Lo s b0 := Nat.not_le.mpr hbl
  refine lv_aload_n hx hb dL_law_1527 rfl (lv_at hl 1 rfl) ?_
  refine lv_aload_n hx hb dL_law_1528 rfl (lv_at hl 0 rfl) ?_
  refine lv_iload hx hb dL_law_1529 (lv_at hl 4 rfl) ?_
  refine lv_iconst (v := 1) hx hb dL_law_1531 (by decide) ?_
  refine lv_iadd hx hb dL_law_1532 ?_
  refine m_top (show nI i + 1 = nI (i + 1) from by rw [show (1 : Int32) = nI 1 from rfl, nI_add]) ?_
  refine va_sld hx hb hX0 hbl hbA hS (vp_in_nI (show (i + 1) < L by omega) (by omega)) dL_law_1533 ?_
  refine m_top (show xs (nI (i + 1)).toNatClampNeg = xs (i + 1) from by rw [nI_clamp (by omega)]) ?_
  refine lv_aload_n hx hb dL_law_1534 rfl (lv_at hl 3 rfl) ?_
  refine law_help (vx_runSW (hh := [(0, 16, 19, 20)]) (As := [.ref (adr 0), .int (xs (i + 1)), .ref b9]) (rest := []) ⟨hx, hb, hml, hown, hts⟩ (kL_isDue l D ac _ (Ax (Lo s) adm) _ adr w b9 f hL.1 hL.2.1 hL.2.2.1 _ _ (xs (i + 1)) _ (hL.1.cel (by omega) hR.1) (k_X7_isDue l D ac _ hlt (Abt (Ax (Lo s) adm) b9) _ adr w hL.1 dl dw fs fr ft ns so hv nd du T nr rq nq oq pd er no oc on_ owd obf rb st mt co py hd le pr ra hR (Nat.le_refl _) (xs (i + 1))) (fun v w ⟨_, _, _, q, _⟩ => by rw [q]; split; exact Or.inr rfl; exact Or.inl rfl)) (vx_cwSW 3 hts gL_law_L_isDue rfl rfl rfl (by decide +kernel) ⟨(Nat.le_of_ble_eq_true rfl), (Nat.le_of_ble_eq_true rfl)⟩) (pSL hK ((hX.now hS).narrow (fun q h => h.1)) hC) rfl rfl hl.1 rfl (lv_room (Nat.le_of_ble_eq_true rfl)) dL_law_1535 ⟨by omega, by omega⟩) hL hS (fun r u H locs hp hL hS => ?_)
  rcases hp with ⟨rfl, v, hPx, hv0⟩ | ⟨hr0, hcode, hu⟩
  · obtain ⟨N9, a9, w1, f1⟩ := u
    have hv0 : f1 0 = v.toInt64 := hv0
    obtain ⟨hN9, ha9, hP⟩ := hPx
    have hN8 : N9 = 22 + 6 * no := hN9
    have ha8 : adr = a9 := ha9.symm
    subst ha8
    subst hN8
    refine lv_istore (lv' := [(5, .int 0), (0, .ref b0), (1, .ref (adr 0)), (2, .ref (adm 0)), (3, .ref b9), (4, .int (nI i))]) hx hb dL_law_1538 hl (by decide) rfl (fun ls hl => ?_)
    refine lv_aload_n hx hb dL_law_1540 rfl (lv_at hl 3 rfl) ?_
    refine lv_aload_n hx hb dL_law_1541 rfl (lv_at hl 1 rfl) ?_
    refine lv_iload hx hb dL_law_1542 (lv_at hl 5 rfl) ?_
    refine lv_iconst (v := 1) hx hb dL_law_1544 (by decide) ?_
    refine lv_iadd hx hb dL_law_1545 ?_
    refine m_top (show nI i + 1 = nI (i + 1) from by rw [show (1 : Int32) = nI 1 from rfl, nI_add]) ?_
    refine va_sld hx hb hX0 hbl hbA hS (vp_in_nI (show (i + 1) < L by omega) (by omega)) dL_law_1546 ?_
    refine m_top (show xs (nI (i + 1)).toNatClampNeg = xs (i + 1) from by rw [nI_clamp (by omega)]) ?_
    refine law_mod (va_runV (As := [.int (xs (i + 1))]) (rest := []) ⟨hx, hb, hml, hown, hts⟩ (k_X8_isDue l D ac _ (Am adm) adm sf af hL.2.2.2.1 fs fr hJ.2.1 ns (fun i => oc (so i)) (fun i => on_ (so i)) (fun i => owd (so i)) (fun i => obf (so i)) hJ.2.2.1 (xs (i + 1))) (cwV 1 hts gL_law_X8_isDue rfl rfl rfl (by decide +kernel) ⟨(Nat.le_of_ble_eq_true rfl), (Nat.le_of_ble_eq_true rfl)⟩) (pV hK (ci := 8) rfl (hL.2.2.2.1.cel (by omega) rfl)) rfl rfl hl.1 rfl (lv_room (Nat.le_of_ble_eq_true rfl)) dL_law_1547 ⟨by omega, by omega⟩) hL hS (fun b w9 H locs hq hLm hS => ?_)
    obtain ⟨s1, a1, rfl, hs0, hcase⟩ := hq
    have hL := hLm _ _ rfl
    have hz0 := z_isDue (b := b) (cn := cn) (a1 := a1) (af := af) (s1 := s1) (sf := sf) hR hP
    rcases hcase with ⟨hne, -⟩ | ⟨-, hN⟩
    · exact absurd hz0 hne
    rw [hz0] at hs0
    obtain ⟨hrb, hJJ⟩ := t_isDue hR hJ hcn hP hN
    subst hrb
    refine lv_istore (lv' := [(6, .int v), (5, .int 0), (0, .ref b0), (1, .ref (adr 0)), (2, .ref (adm 0)), (3, .ref b9), (4, .int (nI i))]) hx hb dL_law_1550 hl (by decide) rfl (fun ls hl => ?_)
    refine lv_aload_n hx hb dL_law_1552 rfl (lv_at hl 4 rfl) ?_
    refine r_calli (va_runV (As := []) (rest := []) ⟨hx, hb, hml, hown, hts⟩ (k_X8_thrown l D ac _ (Am adm) adm s1 a1 hL.2.2.2.1) (cwV 0 hts gL_law_X8_thrown rfl rfl rfl (by decide +kernel) ⟨(Nat.le_of_ble_eq_true rfl), (Nat.le_of_ble_eq_true rfl)⟩) (pV hK (ci := 8) rfl (hL.2.2.2.1.cel (by omega) rfl)) rfl rfl hl.1 rfl (lv_room (Nat.le_of_ble_eq_true rfl)) dL_law_1553 ⟨by omega, by omega⟩) hS (fun k9 locs hk9 hS => ?_)
    rw [hs0] at hk9
    refine lv_iload hx hb dL_law_1556 (lv_at hl 1 rfl) ?_
    refine lv_icmp_eq (tgt := 1563) hx hb dL_law_1558 (by decide) (fun _ => ?_) (fun cq => absurd (hk9) cq)
    refine lv_iload hx hb dL_law_1563 (lv_at hl 1 rfl) ?_
    refine lv_if_ne (tgt := 1587) hx hb dL_law_1565 (by decide) (fun cq => absurd rfl cq) (fun _ => ?_)
    refine lv_aload_n hx hb dL_law_1568 rfl (lv_at hl 5 rfl) ?_
    refine lv_iconst (v := 0) hx hb dL_law_1569 (by decide) ?_
    refine h_lald hx hb hK hL.2.1 dL_law_1570 ?_
    refine m_topl (show f1 0 = v.toInt64 from hv0) ?_
    refine lv_iload hx hb dL_law_1571 (lv_at hl 0 rfl) ?_
    have hv01 : v = 0 ∨ v = 1 := by obtain ⟨_, _, _, q, _⟩ := hP; rw [q]; split; exact Or.inr rfl; exact Or.inl rfl
    refine lv_if_eq (tgt := 1580) hx hb dL_law_1573 (by decide) (fun cv => ?_) (fun cv => ?_)
    · refine lv_lconst (v := 0) hx hb dL_law_1580 (by decide) ?_
      refine m_topl (show (0 : Int64) = v.toInt64 from by rw [cv]; rfl) ?_
      refine W.lcmp hx hb dL_law_1581 ?_
      refine m_top (show lg_cmp v.toInt64 v.toInt64 = 0 from cmp_self) ?_
      refine lv_if_eq (tgt := 1587) hx hb dL_law_1582 (by decide) (fun _ => ?_) (fun cq => absurd rfl cq)
      refine lv_goto (tgt := 1900) hx hb dL_law_1587 (by decide) ?_
      exact W.widen (k := c0 + 8) (n := s0 + 42) (by omega) (by omega) (K _ _ _ (⟨_, _, _, _, _, _, _, rfl, rfl, hL, hJJ⟩) hS (lv_sub hl [2, 3, 4, 5, 6] rfl))
    · refine lv_lconst (v := 1) hx hb dL_law_1576 (by decide) ?_
      refine m_topl (show (1 : Int64) = v.toInt64 from by rw [hv01.resolve_left cv]; rfl) ?_
      refine lv_goto (tgt := 1581) hx hb dL_law_1577 (by decide) ?_
      refine W.lcmp hx hb dL_law_1581 ?_
      refine m_top (show lg_cmp v.toInt64 v.toInt64 = 0 from cmp_self) ?_
      refine lv_if_eq (tgt := 1587) hx hb dL_law_1582 (by decide) (fun _ => ?_) (fun cq => absurd rfl cq)
      refine lv_goto (tgt := 1900) hx hb dL_law_1587 (by decide) ?_
      exact W.widen (k := c0 + 8) (n := s0 + 42) (by omega) (by omega) (K _ _ _ (⟨_, _, _, _, _, _, _, rfl, rfl, hL, hJJ⟩) hS (lv_sub hl [2, 3, 4, 5, 6] rfl))
  · subst hu
    refine lv_istore (lv' := [(5, .int r), (0, .ref b0), (1, .ref (adr 0)), (2, .ref (adm 0)), (3, .ref b9), (4, .int (nI i))]) hx hb dL_law_1538 hl (by decide) rfl (fun ls hl => ?_)
    refine lv_aload_n hx hb dL_law_1540 rfl (lv_at hl 3 rfl) ?_
    refine lv_aload_n hx hb dL_law_1541 rfl (lv_at hl 1 rfl) ?_
    refine lv_iload hx hb dL_law_1542 (lv_at hl 5 rfl) ?_
    refine lv_iconst (v := 1) hx hb dL_law_1544 (by decide) ?_
    refine lv_iadd hx hb dL_law_1545 ?_
    refine m_top (show nI i + 1 = nI (i + 1) from by rw [show (1 : Int32) = nI 1 from rfl, nI_add]) ?_
    refine va_sld hx hb hX0 hbl hbA hS (vp_in_nI (show (i + 1) < L by omega) (by omega)) dL_law_1546 ?_
    refine m_top (show xs (nI (i + 1)).toNatClampNeg = xs (i + 1) from by rw [nI_clamp (by omega)]) ?_
    refine law_mod (va_runV (As := [.int (xs (i + 1))]) (rest := []) ⟨hx, hb, hml, hown, hts⟩ (k_X8_isDue l D ac _ (Am adm) adm sf af hL.2.2.2.1 fs fr hJ.2.1 ns (fun i => oc (so i)) (fun i => on_ (so i)) (fun i => owd (so i)) (fun i => obf (so i)) hJ.2.2.1 (xs (i + 1))) (cwV 1 hts gL_law_X8_isDue rfl rfl rfl (by decide +kernel) ⟨(Nat.le_of_ble_eq_true rfl), (Nat.le_of_ble_eq_true rfl)⟩) (pV hK (ci := 8) rfl (hL.2.2.2.1.cel (by omega) rfl)) rfl rfl hl.1 rfl (lv_room (Nat.le_of_ble_eq_true rfl)) dL_law_1547 ⟨by omega, by omega⟩) hL hS (fun b w9 H locs hq hLm hS => ?_)
    obtain ⟨s1, a1, rfl, hs0, hcase⟩ := hq
    have hL := hLm _ _ rfl
    have hS9 := hcase.elim (fun q => q.2) (fun q => absurd q.1 hcode)
    have hJJ : JJ ac (22 + 6 * no) adr w s1 a1 (cn + 1) := ⟨_, _, _, _, _, _, _, _, _, _, _, _, _, _, _, _, _, _, _, _, _, _, _, _, _, _, _, _, _, _, _, hR, hJ.scr hS9 hcn, rfl⟩
    refine lv_istore (lv' := [(6, .int b), (5, .int r), (0, .ref b0), (1, .ref (adr 0)), (2, .ref (adm 0)), (3, .ref b9), (4, .int (nI i))]) hx hb dL_law_1550 hl (by decide) rfl (fun ls hl => ?_)
    refine lv_aload_n hx hb dL_law_1552 rfl (lv_at hl 4 rfl) ?_
    refine r_calli (va_runV (As := []) (rest := []) ⟨hx, hb, hml, hown, hts⟩ (k_X8_thrown l D ac _ (Am adm) adm s1 a1 hL.2.2.2.1) (cwV 0 hts gL_law_X8_thrown rfl rfl rfl (by decide +kernel) ⟨(Nat.le_of_ble_eq_true rfl), (Nat.le_of_ble_eq_true rfl)⟩) (pV hK (ci := 8) rfl (hL.2.2.2.1.cel (by omega) rfl)) rfl rfl hl.1 rfl (lv_room (Nat.le_of_ble_eq_true rfl)) dL_law_1553 ⟨by omega, by omega⟩) hS (fun k9 locs hk9 hS => ?_)
    rw [hs0] at hk9
    refine lv_iload hx hb dL_law_1556 (lv_at hl 1 rfl) ?_
    refine lv_icmp_eq (tgt := 1563) hx hb dL_law_1558 (by decide) (fun _ => ?_) (fun cq => absurd (hk9.trans hr0.symm) cq)
    refine lv_iload hx hb dL_law_1563 (lv_at hl 1 rfl) ?_
    refine lv_if_ne (tgt := 1587) hx hb dL_law_1565 (by decide) (fun _ => ?_) (fun cq => absurd (hr0.symm.trans cq) (code_ne cd1_le hcode))
    refine lv_goto (tgt := 1900) hx hb dL_law_1587 (by decide) ?_
    exact W.widen (k := c0 + 8) (n := s0 + 42) (by omega) (by omega) (K _ _ _ (⟨_, _, _, _, _, _, _, rfl, rfl, hL, hJJ⟩) hS (lv_sub hl [2, 3, 4, 5, 6] rfl))
