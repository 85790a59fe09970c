set_option maxHeartbeats 4000000 in
set_option maxRecDepth 100000 in
/-- the law at a call of word -/
theorem lc_word {p : Program} {l : Launch} {e : Env} {s : State} {m : MethodId} {below : List Frame} {meth : Method} {c : Code} {b0 L : Nat} {xs : Nat → Int32} {D : va_G} {ac : Nat → ClassId} (E : LEn p l s m c b0 L xs D ac) {Q : State → Prop} {x9 m9 b9 cn i c0 s0 : Nat} {H : Heap} {locs : List Loc} {ls : Array Slot} (hI : LIv D ac s x9 m9 b9 cn H) (hS : va_S (Lo s) s.heap H locs) (hl : lv_has ls 7 [(0, .ref b0), (1, .ref x9), (2, .ref m9), (3, .ref b9), (4, .int (nI i))]) (hi : i + 5 ≤ L) (hcn : cn + 1 < 1000) (hc : c0 + 8 ≤ room_1.cells) (hs : s0 + 42 ≤ room_1.slots) (K : ∀ (H1 : Heap) (locs1 : List Loc) (ls1 : Array Slot), LIv D ac s x9 m9 b9 (cn + 1) H1 → va_S (Lo s) s.heap H1 locs1 → lv_has ls1 7 [(0, .ref b0), (1, .ref x9), (2, .ref m9), (3, .ref b9), (4, .int (nI i))] → W p l e room_1 s m #[Value.ref b0] below meth c H1 locs1 (c0 + 8) (s0 + 42) Q (F0 m 1900 ls1 [])) : W p l e room_1 s m #[Value.ref b0] below meth c H locs c0 s0 Q (F0 m 176 ls []) := by
  obtain ⟨hx, hb, hml, hown, hts, hlt, hK, hX, hC, hX0, hbl, hL9⟩ := E
  obtain ⟨N, adr, w, f, adm, sf, af, rfl, rfl, hL, dl, dw, fs, fr, ft, ns, so, hv, nd, du, T, nr, rq, nq, oq, pd, er, no, oc, on_, owd, obf, rb, st, mt, co, py, hd, le, pr, ra, hR, hJ, rfl⟩ := hI
  have hbA : ¬ Lo s b0 := Nat.not_le.mpr hbl
  refine lv_aload_n hx hb dL_law_176 rfl (lv_at hl 1 rfl) ?_
  refine lv_aload_n hx hb dL_law_177 rfl (lv_at hl 0 rfl) ?_
  refine lv_iload hx hb dL_law_178 (lv_at hl 4 rfl) ?_
  refine lv_iconst (v := 1) hx hb dL_law_180 (by decide) ?_
  refine lv_iadd hx hb dL_law_181 ?_
  refine m_top (show nI i + 1 = nI (i + 1) from by rw [show (1 : Int32) = nI 1 from rfl, nI_add]) ?_
  refine va_sld hx hb hX0 hbl hbA hS (vp_in_nI (show (i + 1) < L by omega) (by omega)) dL_law_182 ?_
  refine m_top (show xs (nI (i + 1)).toNatClampNeg = xs (i + 1) from by rw [nI_clamp (by omega)]) ?_
  refine lv_aload_n hx hb dL_law_183 rfl (lv_at hl 3 rfl) ?_
  refine law_help (vx_runSW (hh := [(0, 9, 12, 13), (0, 9, 15, 15)]) (As := [.ref (adr 0), .int (xs (i + 1)), .ref b9]) (rest := []) ⟨hx, hb, hml, hown, hts⟩ (kL_word l D ac _ (Ax (Lo s) adm) _ adr w b9 f hL.1 hL.2.1 hL.2.2.1 _ _ (xs (i + 1)) _ (hL.1.cel (by omega) hR.1) (k_X7_word l D ac _ hlt (Abt (Ax (Lo s) adm) b9) _ adr w hL.1 dl dw fs fr ft ns so hv nd du T nr rq nq oq pd er no oc on_ owd obf rb st mt co py hd le pr ra hR (Nat.le_refl _) (xs (i + 1)))) (vx_cwSW 3 hts gL_law_L_word rfl rfl rfl (by decide +kernel) ⟨(Nat.le_of_ble_eq_true rfl), (Nat.le_of_ble_eq_true rfl)⟩) (pSL hK ((hX.now hS).narrow (fun q h => h.1)) hC) rfl rfl hl.1 rfl (lv_room (Nat.le_of_ble_eq_true rfl)) dL_law_184 ⟨by omega, by omega⟩) hL hS (fun r u H locs hp hL hS => ?_)
  rcases hp with ⟨rfl, v, hPx, hv0⟩ | ⟨hr0, hcode, hu⟩
  · obtain ⟨N9, a9, w1, f1⟩ := u
    have hv0 : f1 0 = v.toInt64 := hv0
    obtain ⟨hN9, ha9, hP⟩ := hPx
    have hN8 : N9 = 22 + 6 * no := hN9
    have ha8 : adr = a9 := ha9.symm
    subst ha8
    subst hN8
    refine lv_istore (lv' := [(5, .int 0), (0, .ref b0), (1, .ref (adr 0)), (2, .ref (adm 0)), (3, .ref b9), (4, .int (nI i))]) hx hb dL_law_187 hl (by decide) rfl (fun ls hl => ?_)
    refine lv_aload_n hx hb dL_law_189 rfl (lv_at hl 3 rfl) ?_
    refine lv_aload_n hx hb dL_law_190 rfl (lv_at hl 1 rfl) ?_
    refine lv_iload hx hb dL_law_191 (lv_at hl 5 rfl) ?_
    refine lv_iconst (v := 1) hx hb dL_law_193 (by decide) ?_
    refine lv_iadd hx hb dL_law_194 ?_
    refine m_top (show nI i + 1 = nI (i + 1) from by rw [show (1 : Int32) = nI 1 from rfl, nI_add]) ?_
    refine va_sld hx hb hX0 hbl hbA hS (vp_in_nI (show (i + 1) < L by omega) (by omega)) dL_law_195 ?_
    refine m_top (show xs (nI (i + 1)).toNatClampNeg = xs (i + 1) from by rw [nI_clamp (by omega)]) ?_
    refine law_mod (va_runV (As := [.int (xs (i + 1))]) (rest := []) ⟨hx, hb, hml, hown, hts⟩ (k_X8_word l D ac _ (Am adm) adm sf af hL.2.2.2.1 dl dw hJ.1 (xs (i + 1))) (cwV 1 hts gL_law_X8_word rfl rfl rfl (by decide +kernel) ⟨(Nat.le_of_ble_eq_true rfl), (Nat.le_of_ble_eq_true rfl)⟩) (pV hK (ci := 8) rfl (hL.2.2.2.1.cel (by omega) rfl)) rfl rfl hl.1 rfl (lv_room (Nat.le_of_ble_eq_true rfl)) dL_law_196 ⟨by omega, by omega⟩) hL hS (fun b w9 H locs hq hLm hS => ?_)
    obtain ⟨s1, a1, rfl, hs0, hcase⟩ := hq
    have hL := hLm _ _ rfl
    have hz0 := z_word (b := b) (cn := cn) (a1 := a1) (af := af) (s1 := s1) (sf := sf) hR hP
    rcases hcase with ⟨hne, -⟩ | ⟨-, hN⟩
    · exact absurd hz0 hne
    rw [hz0] at hs0
    obtain ⟨hrb, hJJ⟩ := t_word hR hJ hcn hP hN
    subst hrb
    refine lv_istore (lv' := [(6, .int v), (5, .int 0), (0, .ref b0), (1, .ref (adr 0)), (2, .ref (adm 0)), (3, .ref b9), (4, .int (nI i))]) hx hb dL_law_199 hl (by decide) rfl (fun ls hl => ?_)
    refine lv_aload_n hx hb dL_law_201 rfl (lv_at hl 4 rfl) ?_
    refine r_calli (va_runV (As := []) (rest := []) ⟨hx, hb, hml, hown, hts⟩ (k_X8_thrown l D ac _ (Am adm) adm s1 a1 hL.2.2.2.1) (cwV 0 hts gL_law_X8_thrown rfl rfl rfl (by decide +kernel) ⟨(Nat.le_of_ble_eq_true rfl), (Nat.le_of_ble_eq_true rfl)⟩) (pV hK (ci := 8) rfl (hL.2.2.2.1.cel (by omega) rfl)) rfl rfl hl.1 rfl (lv_room (Nat.le_of_ble_eq_true rfl)) dL_law_202 ⟨by omega, by omega⟩) hS (fun k9 locs hk9 hS => ?_)
    rw [hs0] at hk9
    refine lv_iload hx hb dL_law_205 (lv_at hl 1 rfl) ?_
    refine lv_icmp_eq (tgt := 212) hx hb dL_law_207 (by decide) (fun _ => ?_) (fun cq => absurd (hk9) cq)
    refine lv_iload hx hb dL_law_212 (lv_at hl 1 rfl) ?_
    refine lv_if_ne (tgt := 229) hx hb dL_law_214 (by decide) (fun cq => absurd rfl cq) (fun _ => ?_)
    refine lv_aload_n hx hb dL_law_217 rfl (lv_at hl 5 rfl) ?_
    refine lv_iconst (v := 0) hx hb dL_law_218 (by decide) ?_
    refine h_lald hx hb hK hL.2.1 dL_law_219 ?_
    refine m_topl (show f1 0 = v.toInt64 from hv0) ?_
    refine lv_iload hx hb dL_law_220 (lv_at hl 0 rfl) ?_
    refine lv_i2l (v := v.toInt64) hx hb dL_law_222 rfl ?_
    refine W.lcmp hx hb dL_law_223 ?_
    refine m_top (show lg_cmp v.toInt64 v.toInt64 = 0 from cmp_self) ?_
    refine lv_if_eq (tgt := 229) hx hb dL_law_224 (by decide) (fun _ => ?_) (fun cq => absurd rfl cq)
    refine lv_goto (tgt := 1900) hx hb dL_law_229 (by decide) ?_
    exact W.widen (k := c0 + 8) (n := s0 + 42) (by omega) (by omega) (K _ _ _ (⟨_, _, _, _, _, _, _, rfl, rfl, hL, hJJ⟩) hS (lv_sub hl [2, 3, 4, 5, 6] rfl))
  · subst hu
    refine lv_istore (lv' := [(5, .int r), (0, .ref b0), (1, .ref (adr 0)), (2, .ref (adm 0)), (3, .ref b9), (4, .int (nI i))]) hx hb dL_law_187 hl (by decide) rfl (fun ls hl => ?_)
    refine lv_aload_n hx hb dL_law_189 rfl (lv_at hl 3 rfl) ?_
    refine lv_aload_n hx hb dL_law_190 rfl (lv_at hl 1 rfl) ?_
    refine lv_iload hx hb dL_law_191 (lv_at hl 5 rfl) ?_
    refine lv_iconst (v := 1) hx hb dL_law_193 (by decide) ?_
    refine lv_iadd hx hb dL_law_194 ?_
    refine m_top (show nI i + 1 = nI (i + 1) from by rw [show (1 : Int32) = nI 1 from rfl, nI_add]) ?_
    refine va_sld hx hb hX0 hbl hbA hS (vp_in_nI (show (i + 1) < L by omega) (by omega)) dL_law_195 ?_
    refine m_top (show xs (nI (i + 1)).toNatClampNeg = xs (i + 1) from by rw [nI_clamp (by omega)]) ?_
    refine law_mod (va_runV (As := [.int (xs (i + 1))]) (rest := []) ⟨hx, hb, hml, hown, hts⟩ (k_X8_word l D ac _ (Am adm) adm sf af hL.2.2.2.1 dl dw hJ.1 (xs (i + 1))) (cwV 1 hts gL_law_X8_word rfl rfl rfl (by decide +kernel) ⟨(Nat.le_of_ble_eq_true rfl), (Nat.le_of_ble_eq_true rfl)⟩) (pV hK (ci := 8) rfl (hL.2.2.2.1.cel (by omega) rfl)) rfl rfl hl.1 rfl (lv_room (Nat.le_of_ble_eq_true rfl)) dL_law_196 ⟨by omega, by omega⟩) hL hS (fun b w9 H locs hq hLm hS => ?_)
    obtain ⟨s1, a1, rfl, hs0, hcase⟩ := hq
    have hL := hLm _ _ rfl
    have hS9 := hcase.elim (fun q => q.2) (fun q => absurd q.1 hcode)
    have hJJ : JJ ac (22 + 6 * no) adr w s1 a1 (cn + 1) := ⟨_, _, _, _, _, _, _, _, _, _, _, _, _, _, _, _, _, _, _, _, _, _, _, _, _, _, _, _, _, _, _, hR, hJ.scr hS9 hcn, rfl⟩
    refine lv_istore (lv' := [(6, .int b), (5, .int r), (0, .ref b0), (1, .ref (adr 0)), (2, .ref (adm 0)), (3, .ref b9), (4, .int (nI i))]) hx hb dL_law_199 hl (by decide) rfl (fun ls hl => ?_)
    refine lv_aload_n hx hb dL_law_201 rfl (lv_at hl 4 rfl) ?_
    refine r_calli (va_runV (As := []) (rest := []) ⟨hx, hb, hml, hown, hts⟩ (k_X8_thrown l D ac _ (Am adm) adm s1 a1 hL.2.2.2.1) (cwV 0 hts gL_law_X8_thrown rfl rfl rfl (by decide +kernel) ⟨(Nat.le_of_ble_eq_true rfl), (Nat.le_of_ble_eq_true rfl)⟩) (pV hK (ci := 8) rfl (hL.2.2.2.1.cel (by omega) rfl)) rfl rfl hl.1 rfl (lv_room (Nat.le_of_ble_eq_true rfl)) dL_law_202 ⟨by omega, by omega⟩) hS (fun k9 locs hk9 hS => ?_)
    rw [hs0] at hk9
    refine lv_iload hx hb dL_law_205 (lv_at hl 1 rfl) ?_
    refine lv_icmp_eq (tgt := 212) hx hb dL_law_207 (by decide) (fun _ => ?_) (fun cq => absurd (hk9.trans hr0.symm) cq)
    refine lv_iload hx hb dL_law_212 (lv_at hl 1 rfl) ?_
    refine lv_if_ne (tgt := 229) hx hb dL_law_214 (by decide) (fun _ => ?_) (fun cq => absurd (hr0.symm.trans cq) (code_ne cd2_le hcode))
    refine lv_goto (tgt := 1900) hx hb dL_law_229 (by decide) ?_
    exact W.widen (k := c0 + 8) (n := s0 + 42) (by omega) (by omega) (K _ _ _ (⟨_, _, _, _, _, _, _, rfl, rfl, hL, hJJ⟩) hS (lv_sub hl [2, 3, 4, 5, 6] rfl))
set_option maxHeartbeats 4000000 in
set_option maxRecDepth 100000 in
/-- the law at a call of clear -/
theorem lc_clear {p : Program} {l : Launch} {e : Env} {s : State} {m : MethodId} {below : List Frame} {meth : Method} {c : Code} {b0 L : Nat} {xs : Nat → Int32} {D : va_G} {ac : Nat → ClassId} (E : LEn p l s m c b0 L xs D ac) {Q : State → Prop} {x9 m9 b9 cn i c0 s0 : Nat} {H : Heap} {locs : List Loc} {ls : Array Slot} (hI : LIv D ac s x9 m9 b9 cn H) (hS : va_S (Lo s) s.heap H locs) (hl : lv_has ls 7 [(0, .ref b0), (1, .ref x9), (2, .ref m9), (3, .ref b9), (4, .int (nI i))]) (hi : i + 5 ≤ L) (hcn : cn + 1 < 1000) (hc : c0 + 8 ≤ room_1.cells) (hs : s0 + 42 ≤ room_1.slots) (K : ∀ (H1 : Heap) (locs1 : List Loc) (ls1 : Array Slot), LIv D ac s x9 m9 b9 (cn + 1) H1 → va_S (Lo s) s.heap H1 locs1 → lv_has ls1 7 [(0, .ref b0), (1, .ref x9), (2, .ref m9), (3, .ref b9), (4, .int (nI i))] → W p l e room_1 s m #[Value.ref b0] below meth c H1 locs1 (c0 + 8) (s0 + 42) Q (F0 m 1900 ls1 [])) : W p l e room_1 s m #[Value.ref b0] below meth c H locs c0 s0 Q (F0 m 232 ls []) := by
  obtain ⟨hx, hb, hml, hown, hts, hlt, hK, hX, hC, hX0, hbl, hL9⟩ := E
  obtain ⟨N, adr, w, f, adm, sf, af, rfl, rfl, hL, dl, dw, fs, fr, ft, ns, so, hv, nd, du, T, nr, rq, nq, oq, pd, er, no, oc, on_, owd, obf, rb, st, mt, co, py, hd, le, pr, ra, hR, hJ, rfl⟩ := hI
  have hbA : ¬ Lo s b0 := Nat.not_le.mpr hbl
  refine lv_aload_n hx hb dL_law_232 rfl (lv_at hl 1 rfl) ?_
  refine law_cls (va_runV (As := []) (rest := []) ⟨hx, hb, hml, hown, hts⟩ (k_X7_clear l D ac _ (Abt (Ax (Lo s) adm) b9) _ adr w hL.1 dl dw fs fr ft ns so hv nd du T nr rq nq oq pd er no oc on_ owd obf rb st mt co py hd le pr ra hR (Nat.le_refl _) ) (cwV 0 hts gL_law_X7_clear rfl rfl rfl (by decide +kernel) ⟨(Nat.le_of_ble_eq_true rfl), (Nat.le_of_ble_eq_true rfl)⟩) (pV hK (ci := 7) rfl (hL.1.cel (by omega) hR.1)) rfl rfl hl.1 rfl (lv_room (Nat.le_of_ble_eq_true rfl)) dL_law_233 ⟨by omega, by omega⟩) hL hS (fun r w1 H locs hp hL hS => ?_)
  refine lv_aload_n hx hb dL_law_236 rfl (lv_at hl 2 rfl) ?_
  refine law_mod (va_runV (As := []) (rest := [.int r]) ⟨hx, hb, hml, hown, hts⟩ (k_X8_clear l D ac _ (Am adm) adm sf af hL.2.2.2.1 dl dw hJ.1 ) (cwV 0 hts gL_law_X8_clear rfl rfl rfl (by decide +kernel) ⟨(Nat.le_of_ble_eq_true rfl), (Nat.le_of_ble_eq_true rfl)⟩) (pV hK (ci := 8) rfl (hL.2.2.2.1.cel (by omega) rfl)) rfl rfl hl.1 rfl (lv_room (Nat.le_of_ble_eq_true rfl)) dL_law_237 ⟨by omega, by omega⟩) hL hS (fun b w9 H locs hq hLm hS => ?_)
  obtain ⟨hq0, hq1⟩ := hq
  have hL := hLm _ _ hq1
  obtain ⟨hrb, hJJ⟩ := t_clear  hR hJ hcn hp ⟨hq0, rfl, rfl⟩
  subst hrb
  refine lv_icmp_eq (tgt := 1900) hx hb dL_law_240 (by decide) (fun _ => ?_) (fun cq => absurd rfl cq)
  exact W.widen (k := c0 + 8) (n := s0 + 42) (by omega) (by omega) (K _ _ _ (⟨_, _, _, _, _, _, _, rfl, rfl, hL, hJJ⟩) hS (lv_sub hl [0, 1, 2, 3, 4] rfl))
set_option maxHeartbeats 4000000 in
set_option maxRecDepth 100000 in
/-- the law at a call of likeness -/
theorem lc_likeness {p : Program} {l : Launch} {e : Env} {s : State} {m : MethodId} {below : List Frame} {meth : Method} {c : Code} {b0 L : Nat} {xs : Nat → Int32} {D : va_G} {ac : Nat → ClassId} (E : LEn p l s m c b0 L xs D ac) {Q : State → Prop} {x9 m9 b9 cn i c0 s0 : Nat} {H : Heap} {locs : List Loc} {ls : Array Slot} (hI : LIv D ac s x9 m9 b9 cn H) (hS : va_S (Lo s) s.heap H locs) (hl : lv_has ls 7 [(0, .ref b0), (1, .ref x9), (2, .ref m9), (3, .ref b9), (4, .int (nI i))]) (hi : i + 5 ≤ L) (hcn : cn + 1 < 1000) (hc : c0 + 8 ≤ room_1.cells) (hs : s0 + 42 ≤ room_1.slots) (K : ∀ (H1 : Heap) (locs1 : List Loc) (ls1 : Array Slot), LIv D ac s x9 m9 b9 (cn + 1) H1 → va_S (Lo s) s.heap H1 locs1 → lv_has ls1 7 [(0, .ref b0), (1, .ref x9), (2, .ref m9), (3, .ref b9), (4, .int (nI i))] → W p l e room_1 s m #[Value.ref b0] below meth c H1 locs1 (c0 + 8) (s0 + 42) Q (F0 m 1900 ls1 [])) : W p l e room_1 s m #[Value.ref b0] below meth c H locs c0 s0 Q (F0 m 245 ls []) := by
  obtain ⟨hx, hb, hml, hown, hts, hlt, hK, hX, hC, hX0, hbl, hL9⟩ := E
  obtain ⟨N, adr, w, f, adm, sf, af, rfl, rfl, hL, dl, dw, fs, fr, ft, ns, so, hv, nd, du, T, nr, rq, nq, oq, pd, er, no, oc, on_, owd, obf, rb, st, mt, co, py, hd, le, pr, ra, hR, hJ, rfl⟩ := hI
  have hbA : ¬ Lo s b0 := Nat.not_le.mpr hbl
  refine lv_aload_n hx hb dL_law_245 rfl (lv_at hl 1 rfl) ?_
  refine lv_aload_n hx hb dL_law_246 rfl (lv_at hl 0 rfl) ?_
  refine lv_iload hx hb dL_law_247 (lv_at hl 4 rfl) ?_
  refine lv_iconst (v := 1) hx hb dL_law_249 (by decide) ?_
  refine lv_iadd hx hb dL_law_250 ?_
  refine m_top (show nI i + 1 = nI (i + 1) from by rw [show (1 : Int32) = nI 1 from rfl, nI_add]) ?_
  refine va_sld hx hb hX0 hbl hbA hS (vp_in_nI (show (i + 1) < L by omega) (by omega)) dL_law_251 ?_
  refine m_top (show xs (nI (i + 1)).toNatClampNeg = xs (i + 1) from by rw [nI_clamp (by omega)]) ?_
  refine lv_aload_n hx hb dL_law_252 rfl (lv_at hl 3 rfl) ?_
  refine law_help (vx_runSW (hh := [(0, 9, 12, 20), (0, 9, 15, 15)]) (As := [.ref (adr 0), .int (xs (i + 1)), .ref b9]) (rest := []) ⟨hx, hb, hml, hown, hts⟩ (kL_likeness l D ac _ (Ax (Lo s) adm) _ adr w b9 f hL.1 hL.2.1 hL.2.2.1 _ _ (xs (i + 1)) _ (hL.1.cel (by omega) hR.1) (k_X7_likeness l D ac _ hlt (Abt (Ax (Lo s) adm) b9) _ adr w hL.1 dl dw fs fr ft ns so hv nd du T nr rq nq oq pd er no oc on_ owd obf rb st mt co py hd le pr ra hR (Nat.le_refl _) (xs (i + 1)))) (vx_cwSW 3 hts gL_law_L_likeness rfl rfl rfl (by decide +kernel) ⟨(Nat.le_of_ble_eq_true rfl), (Nat.le_of_ble_eq_true rfl)⟩) (pSL hK ((hX.now hS).narrow (fun q h => h.1)) hC) rfl rfl hl.1 rfl (lv_room (Nat.le_of_ble_eq_true rfl)) dL_law_253 ⟨by omega, by omega⟩) hL hS (fun r u H locs hp hL hS => ?_)
  rcases hp with ⟨rfl, v, hPx, hv0⟩ | ⟨hr0, hcode, hu⟩
  · obtain ⟨N9, a9, w1, f1⟩ := u
    have hv0 : f1 0 = v.toInt64 := hv0
    obtain ⟨hN9, ha9, hP⟩ := hPx
    have hN8 : N9 = 22 + 6 * no := hN9
    have ha8 : adr = a9 := ha9.symm
    subst ha8
    subst hN8
    refine lv_istore (lv' := [(5, .int 0), (0, .ref b0), (1, .ref (adr 0)), (2, .ref (adm 0)), (3, .ref b9), (4, .int (nI i))]) hx hb dL_law_256 hl (by decide) rfl (fun ls hl => ?_)
    refine lv_aload_n hx hb dL_law_258 rfl (lv_at hl 3 rfl) ?_
    refine lv_aload_n hx hb dL_law_259 rfl (lv_at hl 1 rfl) ?_
    refine lv_iload hx hb dL_law_260 (lv_at hl 5 rfl) ?_
    refine lv_iconst (v := 1) hx hb dL_law_262 (by decide) ?_
    refine lv_iadd hx hb dL_law_263 ?_
    refine m_top (show nI i + 1 = nI (i + 1) from by rw [show (1 : Int32) = nI 1 from rfl, nI_add]) ?_
    refine va_sld hx hb hX0 hbl hbA hS (vp_in_nI (show (i + 1) < L by omega) (by omega)) dL_law_264 ?_
    refine m_top (show xs (nI (i + 1)).toNatClampNeg = xs (i + 1) from by rw [nI_clamp (by omega)]) ?_
    refine law_mod (va_runV (As := [.int (xs (i + 1))]) (rest := []) ⟨hx, hb, hml, hown, hts⟩ (k_X8_likeness l D ac _ (Am adm) adm sf af hL.2.2.2.1 ns (fun i => oc (so i)) (fun i => on_ (so i)) (fun i => owd (so i)) (fun i => obf (so i)) hJ.2.2.1 dl dw hJ.1 (xs (i + 1))) (cwV 1 hts gL_law_X8_likeness rfl rfl rfl (by decide +kernel) ⟨(Nat.le_of_ble_eq_true rfl), (Nat.le_of_ble_eq_true rfl)⟩) (pV hK (ci := 8) rfl (hL.2.2.2.1.cel (by omega) rfl)) rfl rfl hl.1 rfl (lv_room (Nat.le_of_ble_eq_true rfl)) dL_law_265 ⟨by omega, by omega⟩) hL hS (fun b w9 H locs hq hLm hS => ?_)
    obtain ⟨s1, a1, rfl, hs0, hcase⟩ := hq
    have hL := hLm _ _ rfl
    have hz0 := z_likeness (b := b) (cn := cn) (a1 := a1) (af := af) (s1 := s1) (sf := sf) hR hP
    rcases hcase with ⟨hne, -⟩ | ⟨-, hN⟩
    · exact absurd hz0 hne
    rw [hz0] at hs0
    obtain ⟨hrb, hJJ⟩ := t_likeness hR hJ hcn hP hN
    subst hrb
    refine lv_istore (lv' := [(6, .int v), (5, .int 0), (0, .ref b0), (1, .ref (adr 0)), (2, .ref (adm 0)), (3, .ref b9), (4, .int (nI i))]) hx hb dL_law_268 hl (by decide) rfl (fun ls hl => ?_)
    refine lv_aload_n hx hb dL_law_270 rfl (lv_at hl 4 rfl) ?_
    refine r_calli (va_runV (As := []) (rest := []) ⟨hx, hb, hml, hown, hts⟩ (k_X8_thrown l D ac _ (Am adm) adm s1 a1 hL.2.2.2.1) (cwV 0 hts gL_law_X8_thrown rfl rfl rfl (by decide +kernel) ⟨(Nat.le_of_ble_eq_true rfl), (Nat.le_of_ble_eq_true rfl)⟩) (pV hK (ci := 8) rfl (hL.2.2.2.1.cel (by omega) rfl)) rfl rfl hl.1 rfl (lv_room (Nat.le_of_ble_eq_true rfl)) dL_law_271 ⟨by omega, by omega⟩) hS (fun k9 locs hk9 hS => ?_)
    rw [hs0] at hk9
    refine lv_iload hx hb dL_law_274 (lv_at hl 1 rfl) ?_
    refine lv_icmp_eq (tgt := 281) hx hb dL_law_276 (by decide) (fun _ => ?_) (fun cq => absurd (hk9) cq)
    refine lv_iload hx hb dL_law_281 (lv_at hl 1 rfl) ?_
    refine lv_if_ne (tgt := 298) hx hb dL_law_283 (by decide) (fun cq => absurd rfl cq) (fun _ => ?_)
    refine lv_aload_n hx hb dL_law_286 rfl (lv_at hl 5 rfl) ?_
    refine lv_iconst (v := 0) hx hb dL_law_287 (by decide) ?_
    refine h_lald hx hb hK hL.2.1 dL_law_288 ?_
    refine m_topl (show f1 0 = v.toInt64 from hv0) ?_
    refine lv_iload hx hb dL_law_289 (lv_at hl 0 rfl) ?_
    refine lv_i2l (v := v.toInt64) hx hb dL_law_291 rfl ?_
    refine W.lcmp hx hb dL_law_292 ?_
    refine m_top (show lg_cmp v.toInt64 v.toInt64 = 0 from cmp_self) ?_
    refine lv_if_eq (tgt := 298) hx hb dL_law_293 (by decide) (fun _ => ?_) (fun cq => absurd rfl cq)
    refine lv_goto (tgt := 1900) hx hb dL_law_298 (by decide) ?_
    exact W.widen (k := c0 + 8) (n := s0 + 42) (by omega) (by omega) (K _ _ _ (⟨_, _, _, _, _, _, _, rfl, rfl, hL, hJJ⟩) hS (lv_sub hl [2, 3, 4, 5, 6] rfl))
  · subst hu
    refine lv_istore (lv' := [(5, .int r), (0, .ref b0), (1, .ref (adr 0)), (2, .ref (adm 0)), (3, .ref b9), (4, .int (nI i))]) hx hb dL_law_256 hl (by decide) rfl (fun ls hl => ?_)
    refine lv_aload_n hx hb dL_law_258 rfl (lv_at hl 3 rfl) ?_
    refine lv_aload_n hx hb dL_law_259 rfl (lv_at hl 1 rfl) ?_
    refine lv_iload hx hb dL_law_260 (lv_at hl 5 rfl) ?_
    refine lv_iconst (v := 1) hx hb dL_law_262 (by decide) ?_
    refine lv_iadd hx hb dL_law_263 ?_
    refine m_top (show nI i + 1 = nI (i + 1) from by rw [show (1 : Int32) = nI 1 from rfl, nI_add]) ?_
    refine va_sld hx hb hX0 hbl hbA hS (vp_in_nI (show (i + 1) < L by omega) (by omega)) dL_law_264 ?_
    refine m_top (show xs (nI (i + 1)).toNatClampNeg = xs (i + 1) from by rw [nI_clamp (by omega)]) ?_
    refine law_mod (va_runV (As := [.int (xs (i + 1))]) (rest := []) ⟨hx, hb, hml, hown, hts⟩ (k_X8_likeness l D ac _ (Am adm) adm sf af hL.2.2.2.1 ns (fun i => oc (so i)) (fun i => on_ (so i)) (fun i => owd (so i)) (fun i => obf (so i)) hJ.2.2.1 dl dw hJ.1 (xs (i + 1))) (cwV 1 hts gL_law_X8_likeness rfl rfl rfl (by decide +kernel) ⟨(Nat.le_of_ble_eq_true rfl), (Nat.le_of_ble_eq_true rfl)⟩) (pV hK (ci := 8) rfl (hL.2.2.2.1.cel (by omega) rfl)) rfl rfl hl.1 rfl (lv_room (Nat.le_of_ble_eq_true rfl)) dL_law_265 ⟨by omega, by omega⟩) hL hS (fun b w9 H locs hq hLm hS => ?_)
    obtain ⟨s1, a1, rfl, hs0, hcase⟩ := hq
    have hL := hLm _ _ rfl
    have hS9 := hcase.elim (fun q => q.2) (fun q => absurd q.1 hcode)
    have hJJ : JJ ac (22 + 6 * no) adr w s1 a1 (cn + 1) := ⟨_, _, _, _, _, _, _, _, _, _, _, _, _, _, _, _, _, _, _, _, _, _, _, _, _, _, _, _, _, _, _, hR, hJ.scr hS9 hcn, rfl⟩
    refine lv_istore (lv' := [(6, .int b), (5, .int r), (0, .ref b0), (1, .ref (adr 0)), (2, .ref (adm 0)), (3, .ref b9), (4, .int (nI i))]) hx hb dL_law_268 hl (by decide) rfl (fun ls hl => ?_)
    refine lv_aload_n hx hb dL_law_270 rfl (lv_at hl 4 rfl) ?_
    refine r_calli (va_runV (As := []) (rest := []) ⟨hx, hb, hml, hown, hts⟩ (k_X8_thrown l D ac _ (Am adm) adm s1 a1 hL.2.2.2.1) (cwV 0 hts gL_law_X8_thrown rfl rfl rfl (by decide +kernel) ⟨(Nat.le_of_ble_eq_true rfl), (Nat.le_of_ble_eq_true rfl)⟩) (pV hK (ci := 8) rfl (hL.2.2.2.1.cel (by omega) rfl)) rfl rfl hl.1 rfl (lv_room (Nat.le_of_ble_eq_true rfl)) dL_law_271 ⟨by omega, by omega⟩) hS (fun k9 locs hk9 hS => ?_)
    rw [hs0] at hk9
    refine lv_iload hx hb dL_law_274 (lv_at hl 1 rfl) ?_
    refine lv_icmp_eq (tgt := 281) hx hb dL_law_276 (by decide) (fun _ => ?_) (fun cq => absurd (hk9.trans hr0.symm) cq)
    refine lv_iload hx hb dL_law_281 (lv_at hl 1 rfl) ?_
    refine lv_if_ne (tgt := 298) hx hb dL_law_283 (by decide) (fun _ => ?_) (fun cq => absurd (hr0.symm.trans cq) (code_ne cd2_le hcode))
    refine lv_goto (tgt := 1900) hx hb dL_law_298 (by decide) ?_
    exact W.widen (k := c0 + 8) (n := s0 + 42) (by omega) (by omega) (K _ _ _ (⟨_, _, _, _, _, _, _, rfl, rfl, hL, hJJ⟩) hS (lv_sub hl [2, 3, 4, 5, 6] rfl))
set_option maxHeartbeats 4000000 in
set_option maxRecDepth 100000 in
/-- the law at a call of best -/
theorem lc_best {p : Program} {l : Launch} {e : Env} {s : State} {m : MethodId} {below : List Frame} {meth : Method} {c : Code} {b0 L : Nat} {xs : Nat → Int32} {D : va_G} {ac : Nat → ClassId} (E : LEn p l s m c b0 L xs D ac) {Q : State → Prop} {x9 m9 b9 cn i c0 s0 : Nat} {H : Heap} {locs : List Loc} {ls : Array Slot} (hI : LIv D ac s x9 m9 b9 cn H) (hS : va_S (Lo s) s.heap H locs) (hl : lv_has ls 7 [(0, .ref b0), (1, .ref x9), (2, .ref m9), (3, .ref b9), (4, .int (nI i))]) (hi : i + 5 ≤ L) (hcn : cn + 1 < 1000) (hc : c0 + 8 ≤ room_1.cells) (hs : s0 + 42 ≤ room_1.slots) (K : ∀ (H1 : Heap) (locs1 : List Loc) (ls1 : Array Slot), LIv D ac s x9 m9 b9 (cn + 1) H1 → va_S (Lo s) s.heap H1 locs1 → lv_has ls1 7 [(0, .ref b0), (1, .ref x9), (2, .ref m9), (3, .ref b9), (4, .int (nI i))] → W p l e room_1 s m #[Value.ref b0] below meth c H1 locs1 (c0 + 8) (s0 + 42) Q (F0 m 1900 ls1 [])) : W p l e room_1 s m #[Value.ref b0] below meth c H locs c0 s0 Q (F0 m 301 ls []) := by
  obtain ⟨hx, hb, hml, hown, hts, hlt, hK, hX, hC, hX0, hbl, hL9⟩ := E
  obtain ⟨N, adr, w, f, adm, sf, af, rfl, rfl, hL, dl, dw, fs, fr, ft, ns, so, hv, nd, du, T, nr, rq, nq, oq, pd, er, no, oc, on_, owd, obf, rb, st, mt, co, py, hd, le, pr, ra, hR, hJ, rfl⟩ := hI
  have hbA : ¬ Lo s b0 := Nat.not_le.mpr hbl
  refine lv_aload_n hx hb dL_law_301 rfl (lv_at hl 1 rfl) ?_
  refine lv_aload_n hx hb dL_law_302 rfl (lv_at hl 0 rfl) ?_
  refine lv_iload hx hb dL_law_303 (lv_at hl 4 rfl) ?_
  refine lv_iconst (v := 1) hx hb dL_law_305 (by decide) ?_
  refine lv_iadd hx hb dL_law_306 ?_
  refine m_top (show nI i + 1 = nI (i + 1) from by rw [show (1 : Int32) = nI 1 from rfl, nI_add]) ?_
  refine va_sld hx hb hX0 hbl hbA hS (vp_in_nI (show (i + 1) < L by omega) (by omega)) dL_law_307 ?_
  refine m_top (show xs (nI (i + 1)).toNatClampNeg = xs (i + 1) from by rw [nI_clamp (by omega)]) ?_
  refine lv_aload_n hx hb dL_law_308 rfl (lv_at hl 3 rfl) ?_
  refine law_help (vx_runSW (hh := [(0, 9, 12, 13), (0, 9, 15, 15)]) (As := [.ref (adr 0), .int (xs (i + 1)), .ref b9]) (rest := []) ⟨hx, hb, hml, hown, hts⟩ (kL_best l D ac _ (Ax (Lo s) adm) _ adr w b9 f hL.1 hL.2.1 hL.2.2.1 _ _ (xs (i + 1)) _ (hL.1.cel (by omega) hR.1) (k_X7_best l D ac _ hlt (Abt (Ax (Lo s) adm) b9) _ adr w hL.1 dl dw fs fr ft ns so hv nd du T nr rq nq oq pd er no oc on_ owd obf rb st mt co py hd le pr ra hR (Nat.le_refl _) (xs (i + 1)))) (vx_cwSW 3 hts gL_law_L_best rfl rfl rfl (by decide +kernel) ⟨(Nat.le_of_ble_eq_true rfl), (Nat.le_of_ble_eq_true rfl)⟩) (pSL hK ((hX.now hS).narrow (fun q h => h.1)) hC) rfl rfl hl.1 rfl (lv_room (Nat.le_of_ble_eq_true rfl)) dL_law_309 ⟨by omega, by omega⟩) hL hS (fun r u H locs hp hL hS => ?_)
  rcases hp with ⟨rfl, v, hPx, hv0⟩ | ⟨hr0, hcode, hu⟩
  · obtain ⟨N9, a9, w1, f1⟩ := u
    have hv0 : f1 0 = v.toInt64 := hv0
    obtain ⟨hN9, ha9, hP⟩ := hPx
    have hN8 : N9 = 22 + 6 * no := hN9
    have ha8 : adr = a9 := ha9.symm
    subst ha8
    subst hN8
    refine lv_istore (lv' := [(5, .int 0), (0, .ref b0), (1, .ref (adr 0)), (2, .ref (adm 0)), (3, .ref b9), (4, .int (nI i))]) hx hb dL_law_312 hl (by decide) rfl (fun ls hl => ?_)
    refine lv_aload_n hx hb dL_law_314 rfl (lv_at hl 3 rfl) ?_
    refine lv_aload_n hx hb dL_law_315 rfl (lv_at hl 1 rfl) ?_
    refine lv_iload hx hb dL_law_316 (lv_at hl 5 rfl) ?_
    refine lv_iconst (v := 1) hx hb dL_law_318 (by decide) ?_
    refine lv_iadd hx hb dL_law_319 ?_
    refine m_top (show nI i + 1 = nI (i + 1) from by rw [show (1 : Int32) = nI 1 from rfl, nI_add]) ?_
    refine va_sld hx hb hX0 hbl hbA hS (vp_in_nI (show (i + 1) < L by omega) (by omega)) dL_law_320 ?_
    refine m_top (show xs (nI (i + 1)).toNatClampNeg = xs (i + 1) from by rw [nI_clamp (by omega)]) ?_
    refine law_mod (va_runV (As := [.int (xs (i + 1))]) (rest := []) ⟨hx, hb, hml, hown, hts⟩ (k_X8_best l D ac _ (Am adm) adm sf af hL.2.2.2.1 ns (fun i => oc (so i)) (fun i => on_ (so i)) (fun i => owd (so i)) (fun i => obf (so i)) hJ.2.2.1 dl dw hJ.1 le pr ra hJ.2.2.2.2.2.1.1 (xs (i + 1))) (cwV 1 hts gL_law_X8_best rfl rfl rfl (by decide +kernel) ⟨(Nat.le_of_ble_eq_true rfl), (Nat.le_of_ble_eq_true rfl)⟩) (pV hK (ci := 8) rfl (hL.2.2.2.1.cel (by omega) rfl)) rfl rfl hl.1 rfl (lv_room (Nat.le_of_ble_eq_true rfl)) dL_law_321 ⟨by omega, by omega⟩) hL hS (fun b w9 H locs hq hLm hS => ?_)
    obtain ⟨s1, a1, rfl, hs0, hcase⟩ := hq
    have hL := hLm _ _ rfl
    have hz0 := z_best (b := b) (cn := cn) (a1 := a1) (af := af) (s1 := s1) (sf := sf) hR hP
    rcases hcase with ⟨hne, -⟩ | ⟨-, hN⟩
    · exact absurd hz0 hne
    rw [hz0] at hs0
    obtain ⟨hrb, hJJ⟩ := t_best hR hJ hcn hP hN
    subst hrb
    refine lv_istore (lv' := [(6, .int v), (5, .int 0), (0, .ref b0), (1, .ref (adr 0)), (2, .ref (adm 0)), (3, .ref b9), (4, .int (nI i))]) hx hb dL_law_324 hl (by decide) rfl (fun ls hl => ?_)
    refine lv_aload_n hx hb dL_law_326 rfl (lv_at hl 4 rfl) ?_
    refine r_calli (va_runV (As := []) (rest := []) ⟨hx, hb, hml, hown, hts⟩ (k_X8_thrown l D ac _ (Am adm) adm s1 a1 hL.2.2.2.1) (cwV 0 hts gL_law_X8_thrown rfl rfl rfl (by decide +kernel) ⟨(Nat.le_of_ble_eq_true rfl), (Nat.le_of_ble_eq_true rfl)⟩) (pV hK (ci := 8) rfl (hL.2.2.2.1.cel (by omega) rfl)) rfl rfl hl.1 rfl (lv_room (Nat.le_of_ble_eq_true rfl)) dL_law_327 ⟨by omega, by omega⟩) hS (fun k9 locs hk9 hS => ?_)
    rw [hs0] at hk9
    refine lv_iload hx hb dL_law_330 (lv_at hl 1 rfl) ?_
    refine lv_icmp_eq (tgt := 337) hx hb dL_law_332 (by decide) (fun _ => ?_) (fun cq => absurd (hk9) cq)
    refine lv_iload hx hb dL_law_337 (lv_at hl 1 rfl) ?_
    refine lv_if_ne (tgt := 354) hx hb dL_law_339 (by decide) (fun cq => absurd rfl cq) (fun _ => ?_)
    refine lv_aload_n hx hb dL_law_342 rfl (lv_at hl 5 rfl) ?_
    refine lv_iconst (v := 0) hx hb dL_law_343 (by decide) ?_
    refine h_lald hx hb hK hL.2.1 dL_law_344 ?_
    refine m_topl (show f1 0 = v.toInt64 from hv0) ?_
    refine lv_iload hx hb dL_law_345 (lv_at hl 0 rfl) ?_
    refine lv_i2l (v := v.toInt64) hx hb dL_law_347 rfl ?_
    refine W.lcmp hx hb dL_law_348 ?_
    refine m_top (show lg_cmp v.toInt64 v.toInt64 = 0 from cmp_self) ?_
    refine lv_if_eq (tgt := 354) hx hb dL_law_349 (by decide) (fun _ => ?_) (fun cq => absurd rfl cq)
    refine lv_goto (tgt := 1900) hx hb dL_law_354 (by decide) ?_
    exact W.widen (k := c0 + 8) (n := s0 + 42) (by omega) (by omega) (K _ _ _ (⟨_, _, _, _, _, _, _, rfl, rfl, hL, hJJ⟩) hS (lv_sub hl [2, 3, 4, 5, 6] rfl))
  · subst hu
    refine lv_istore (lv' := [(5, .int r), (0, .ref b0), (1, .ref (adr 0)), (2, .ref (adm 0)), (3, .ref b9), (4, .int (nI i))]) hx hb dL_law_312 hl (by decide) rfl (fun ls hl => ?_)
    refine lv_aload_n hx hb dL_law_314 rfl (lv_at hl 3 rfl) ?_
    refine lv_aload_n hx hb dL_law_315 rfl (lv_at hl 1 rfl) ?_
    refine lv_iload hx hb dL_law_316 (lv_at hl 5 rfl) ?_
    refine lv_iconst (v := 1) hx hb dL_law_318 (by decide) ?_
    refine lv_iadd hx hb dL_law_319 ?_
    refine m_top (show nI i + 1 = nI (i + 1) from by rw [show (1 : Int32) = nI 1 from rfl, nI_add]) ?_
    refine va_sld hx hb hX0 hbl hbA hS (vp_in_nI (show (i + 1) < L by omega) (by omega)) dL_law_320 ?_
    refine m_top (show xs (nI (i + 1)).toNatClampNeg = xs (i + 1) from by rw [nI_clamp (by omega)]) ?_
    refine law_mod (va_runV (As := [.int (xs (i + 1))]) (rest := []) ⟨hx, hb, hml, hown, hts⟩ (k_X8_best l D ac _ (Am adm) adm sf af hL.2.2.2.1 ns (fun i => oc (so i)) (fun i => on_ (so i)) (fun i => owd (so i)) (fun i => obf (so i)) hJ.2.2.1 dl dw hJ.1 le pr ra hJ.2.2.2.2.2.1.1 (xs (i + 1))) (cwV 1 hts gL_law_X8_best rfl rfl rfl (by decide +kernel) ⟨(Nat.le_of_ble_eq_true rfl), (Nat.le_of_ble_eq_true rfl)⟩) (pV hK (ci := 8) rfl (hL.2.2.2.1.cel (by omega) rfl)) rfl rfl hl.1 rfl (lv_room (Nat.le_of_ble_eq_true rfl)) dL_law_321 ⟨by omega, by omega⟩) hL hS (fun b w9 H locs hq hLm hS => ?_)
    obtain ⟨s1, a1, rfl, hs0, hcase⟩ := hq
    have hL := hLm _ _ rfl
    have hS9 := hcase.elim (fun q => q.2) (fun q => absurd q.1 hcode)
    have hJJ : JJ ac (22 + 6 * no) adr w s1 a1 (cn + 1) := ⟨_, _, _, _, _, _, _, _, _, _, _, _, _, _, _, _, _, _, _, _, _, _, _, _, _, _, _, _, _, _, _, hR, hJ.scr hS9 hcn, rfl⟩
    refine lv_istore (lv' := [(6, .int b), (5, .int r), (0, .ref b0), (1, .ref (adr 0)), (2, .ref (adm 0)), (3, .ref b9), (4, .int (nI i))]) hx hb dL_law_324 hl (by decide) rfl (fun ls hl => ?_)
    refine lv_aload_n hx hb dL_law_326 rfl (lv_at hl 4 rfl) ?_
    refine r_calli (va_runV (As := []) (rest := []) ⟨hx, hb, hml, hown, hts⟩ (k_X8_thrown l D ac _ (Am adm) adm s1 a1 hL.2.2.2.1) (cwV 0 hts gL_law_X8_thrown rfl rfl rfl (by decide +kernel) ⟨(Nat.le_of_ble_eq_true rfl), (Nat.le_of_ble_eq_true rfl)⟩) (pV hK (ci := 8) rfl (hL.2.2.2.1.cel (by omega) rfl)) rfl rfl hl.1 rfl (lv_room (Nat.le_of_ble_eq_true rfl)) dL_law_327 ⟨by omega, by omega⟩) hS (fun k9 locs hk9 hS => ?_)
    rw [hs0] at hk9
    refine lv_iload hx hb dL_law_330 (lv_at hl 1 rfl) ?_
    refine lv_icmp_eq (tgt := 337) hx hb dL_law_332 (by decide) (fun _ => ?_) (fun cq => absurd (hk9.trans hr0.symm) cq)
    refine lv_iload hx hb dL_law_337 (lv_at hl 1 rfl) ?_
    refine lv_if_ne (tgt := 354) hx hb dL_law_339 (by decide) (fun _ => ?_) (fun cq => absurd (hr0.symm.trans cq) (code_ne cd2_le hcode))
    refine lv_goto (tgt := 1900) hx hb dL_law_354 (by decide) ?_
    exact W.widen (k := c0 + 8) (n := s0 + 42) (by omega) (by omega) (K _ _ _ (⟨_, _, _, _, _, _, _, rfl, rfl, hL, hJJ⟩) hS (lv_sub hl [2, 3, 4, 5, 6] rfl))
set_option maxHeartbeats 4000000 in
set_option maxRecDepth 100000 in
/-- the law at a call of bestByAll -/
theorem lc_bestByAll {p : Program} {l : Launch} {e : Env} {s : State} {m : MethodId} {below : List Frame} {meth : Method} {c : Code} {b0 L : Nat} {xs : Nat → Int32} {D : va_G} {ac : Nat → ClassId} (E : LEn p l s m c b0 L xs D ac) {Q : State → Prop} {x9 m9 b9 cn i c0 s0 : Nat} {H : Heap} {locs : List Loc} {ls : Array Slot} (hI : LIv D ac s x9 m9 b9 cn H) (hS : va_S (Lo s) s.heap H locs) (hl : lv_has ls 7 [(0, .ref b0), (1, .ref x9), (2, .ref m9), (3, .ref b9), (4, .int (nI i))]) (hi : i + 5 ≤ L) (hcn : cn + 1 < 1000) (hc : c0 + 8 ≤ room_1.cells) (hs : s0 + 42 ≤ room_1.slots) (K : ∀ (H1 : Heap) (locs1 : List Loc) (ls1 : Array Slot), LIv D ac s x9 m9 b9 (cn + 1) H1 → va_S (Lo s) s.heap H1 locs1 → lv_has ls1 7 [(0, .ref b0), (1, .ref x9), (2, .ref m9), (3, .ref b9), (4, .int (nI i))] → W p l e room_1 s m #[Value.ref b0] below meth c H1 locs1 (c0 + 8) (s0 + 42) Q (F0 m 1900 ls1 [])) : W p l e room_1 s m #[Value.ref b0] below meth c H locs c0 s0 Q (F0 m 357 ls []) := by
  obtain ⟨hx, hb, hml, hown, hts, hlt, hK, hX, hC, hX0, hbl, hL9⟩ := E
  obtain ⟨N, adr, w, f, adm, sf, af, rfl, rfl, hL, dl, dw, fs, fr, ft, ns, so, hv, nd, du, T, nr, rq, nq, oq, pd, er, no, oc, on_, owd, obf, rb, st, mt, co, py, hd, le, pr, ra, hR, hJ, rfl⟩ := hI
  have hbA : ¬ Lo s b0 := Nat.not_le.mpr hbl
  refine lv_aload_n hx hb dL_law_357 rfl (lv_at hl 1 rfl) ?_
  refine lv_aload_n hx hb dL_law_358 rfl (lv_at hl 0 rfl) ?_
  refine lv_iload hx hb dL_law_359 (lv_at hl 4 rfl) ?_
  refine lv_iconst (v := 1) hx hb dL_law_361 (by decide) ?_
  refine lv_iadd hx hb dL_law_362 ?_
  refine m_top (show nI i + 1 = nI (i + 1) from by rw [show (1 : Int32) = nI 1 from rfl, nI_add]) ?_
  refine va_sld hx hb hX0 hbl hbA hS (vp_in_nI (show (i + 1) < L by omega) (by omega)) dL_law_363 ?_
  refine m_top (show xs (nI (i + 1)).toNatClampNeg = xs (i + 1) from by rw [nI_clamp (by omega)]) ?_
  refine lv_aload_n hx hb dL_law_364 rfl (lv_at hl 3 rfl) ?_
  refine law_help (vx_runSW (hh := [(0, 9, 12, 13), (0, 9, 15, 15)]) (As := [.ref (adr 0), .int (xs (i + 1)), .ref b9]) (rest := []) ⟨hx, hb, hml, hown, hts⟩ (kL_bestByAll l D ac _ (Ax (Lo s) adm) _ adr w b9 f hL.1 hL.2.1 hL.2.2.1 _ _ (xs (i + 1)) _ (hL.1.cel (by omega) hR.1) (k_X7_bestByAll l D ac _ hlt (Abt (Ax (Lo s) adm) b9) _ adr w hL.1 dl dw fs fr ft ns so hv nd du T nr rq nq oq pd er no oc on_ owd obf rb st mt co py hd le pr ra hR (Nat.le_refl _) (xs (i + 1)))) (vx_cwSW 3 hts gL_law_L_bestByAll rfl rfl rfl (by decide +kernel) ⟨(Nat.le_of_ble_eq_true rfl), (Nat.le_of_ble_eq_true rfl)⟩) (pSL hK ((hX.now hS).narrow (fun q h => h.1)) hC) rfl rfl hl.1 rfl (lv_room (Nat.le_of_ble_eq_true rfl)) dL_law_365 ⟨by omega, by omega⟩) hL hS (fun r u H locs hp hL hS => ?_)
  rcases hp with ⟨rfl, v, hPx, hv0⟩ | ⟨hr0, hcode, hu⟩
  · obtain ⟨N9, a9, w1, f1⟩ := u
    have hv0 : f1 0 = v.toInt64 := hv0
    obtain ⟨hN9, ha9, hP⟩ := hPx
    have hN8 : N9 = 22 + 6 * no := hN9
    have ha8 : adr = a9 := ha9.symm
    subst ha8
    subst hN8
    refine lv_istore (lv' := [(5, .int 0), (0, .ref b0), (1, .ref (adr 0)), (2, .ref (adm 0)), (3, .ref b9), (4, .int (nI i))]) hx hb dL_law_368 hl (by decide) rfl (fun ls hl => ?_)
    refine lv_aload_n hx hb dL_law_370 rfl (lv_at hl 3 rfl) ?_
    refine lv_aload_n hx hb dL_law_371 rfl (lv_at hl 1 rfl) ?_
    refine lv_iload hx hb dL_law_372 (lv_at hl 5 rfl) ?_
    refine lv_iconst (v := 1) hx hb dL_law_374 (by decide) ?_
    refine lv_iadd hx hb dL_law_375 ?_
    refine m_top (show nI i + 1 = nI (i + 1) from by rw [show (1 : Int32) = nI 1 from rfl, nI_add]) ?_
    refine va_sld hx hb hX0 hbl hbA hS (vp_in_nI (show (i + 1) < L by omega) (by omega)) dL_law_376 ?_
    refine m_top (show xs (nI (i + 1)).toNatClampNeg = xs (i + 1) from by rw [nI_clamp (by omega)]) ?_
    refine law_mod (va_runV (As := [.int (xs (i + 1))]) (rest := []) ⟨hx, hb, hml, hown, hts⟩ (k_X8_bestByAll l D ac _ (Am adm) adm sf af hL.2.2.2.1 ns (fun i => oc (so i)) (fun i => on_ (so i)) (fun i => owd (so i)) (fun i => obf (so i)) hJ.2.2.1 dl dw hJ.1 le pr ra hJ.2.2.2.2.2.1.1 (xs (i + 1))) (cwV 1 hts gL_law_X8_bestByAll rfl rfl rfl (by decide +kernel) ⟨(Nat.le_of_ble_eq_true rfl), (Nat.le_of_ble_eq_true rfl)⟩) (pV hK (ci := 8) rfl (hL.2.2.2.1.cel (by omega) rfl)) rfl rfl hl.1 rfl (lv_room (Nat.le_of_ble_eq_true rfl)) dL_law_377 ⟨by omega, by omega⟩) hL hS (fun b w9 H locs hq hLm hS => ?_)
    obtain ⟨s1, a1, rfl, hs0, hcase⟩ := hq
    have hL := hLm _ _ rfl
    have hz0 := z_bestByAll (b := b) (cn := cn) (a1 := a1) (af := af) (s1 := s1) (sf := sf) hR hP
    rcases hcase with ⟨hne, -⟩ | ⟨-, hN⟩
    · exact absurd hz0 hne
    rw [hz0] at hs0
    obtain ⟨hrb, hJJ⟩ := t_bestByAll hR hJ hcn hP hN
    subst hrb
    refine lv_istore (lv' := [(6, .int v), (5, .int 0), (0, .ref b0), (1, .ref (adr 0)), (2, .ref (adm 0)), (3, .ref b9), (4, .int (nI i))]) hx hb dL_law_380 hl (by decide) rfl (fun ls hl => ?_)
    refine lv_aload_n hx hb dL_law_382 rfl (lv_at hl 4 rfl) ?_
    refine r_calli (va_runV (As := []) (rest := []) ⟨hx, hb, hml, hown, hts⟩ (k_X8_thrown l D ac _ (Am adm) adm s1 a1 hL.2.2.2.1) (cwV 0 hts gL_law_X8_thrown rfl rfl rfl (by decide +kernel) ⟨(Nat.le_of_ble_eq_true rfl), (Nat.le_of_ble_eq_true rfl)⟩) (pV hK (ci := 8) rfl (hL.2.2.2.1.cel (by omega) rfl)) rfl rfl hl.1 rfl (lv_room (Nat.le_of_ble_eq_true rfl)) dL_law_383 ⟨by omega, by omega⟩) hS (fun k9 locs hk9 hS => ?_)
    rw [hs0] at hk9
    refine lv_iload hx hb dL_law_386 (lv_at hl 1 rfl) ?_
    refine lv_icmp_eq (tgt := 393) hx hb dL_law_388 (by decide) (fun _ => ?_) (fun cq => absurd (hk9) cq)
    refine lv_iload hx hb dL_law_393 (lv_at hl 1 rfl) ?_
    refine lv_if_ne (tgt := 410) hx hb dL_law_395 (by decide) (fun cq => absurd rfl cq) (fun _ => ?_)
    refine lv_aload_n hx hb dL_law_398 rfl (lv_at hl 5 rfl) ?_
    refine lv_iconst (v := 0) hx hb dL_law_399 (by decide) ?_
    refine h_lald hx hb hK hL.2.1 dL_law_400 ?_
    refine m_topl (show f1 0 = v.toInt64 from hv0) ?_
    refine lv_iload hx hb dL_law_401 (lv_at hl 0 rfl) ?_
    refine lv_i2l (v := v.toInt64) hx hb dL_law_403 rfl ?_
    refine W.lcmp hx hb dL_law_404 ?_
    refine m_top (show lg_cmp v.toInt64 v.toInt64 = 0 from cmp_self) ?_
    refine lv_if_eq (tgt := 410) hx hb dL_law_405 (by decide) (fun _ => ?_) (fun cq => absurd rfl cq)
    refine lv_goto (tgt := 1900) hx hb dL_law_410 (by decide) ?_
    exact W.widen (k := c0 + 8) (n := s0 + 42) (by omega) (by omega) (K _ _ _ (⟨_, _, _, _, _, _, _, rfl, rfl, hL, hJJ⟩) hS (lv_sub hl [2, 3, 4, 5, 6] rfl))
  · subst hu
    refine lv_istore (lv' := [(5, .int r), (0, .ref b0), (1, .ref (adr 0)), (2, .ref (adm 0)), (3, .ref b9), (4, .int (nI i))]) hx hb dL_law_368 hl (by decide) rfl (fun ls hl => ?_)
    refine lv_aload_n hx hb dL_law_370 rfl (lv_at hl 3 rfl) ?_
    refine lv_aload_n hx hb dL_law_371 rfl (lv_at hl 1 rfl) ?_
    refine lv_iload hx hb dL_law_372 (lv_at hl 5 rfl) ?_
    refine lv_iconst (v := 1) hx hb dL_law_374 (by decide) ?_
    refine lv_iadd hx hb dL_law_375 ?_
    refine m_top (show nI i + 1 = nI (i + 1) from by rw [show (1 : Int32) = nI 1 from rfl, nI_add]) ?_
    refine va_sld hx hb hX0 hbl hbA hS (vp_in_nI (show (i + 1) < L by omega) (by omega)) dL_law_376 ?_
    refine m_top (show xs (nI (i + 1)).toNatClampNeg = xs (i + 1) from by rw [nI_clamp (by omega)]) ?_
    refine law_mod (va_runV (As := [.int (xs (i + 1))]) (rest := []) ⟨hx, hb, hml, hown, hts⟩ (k_X8_bestByAll l D ac _ (Am adm) adm sf af hL.2.2.2.1 ns (fun i => oc (so i)) (fun i => on_ (so i)) (fun i => owd (so i)) (fun i => obf (so i)) hJ.2.2.1 dl dw hJ.1 le pr ra hJ.2.2.2.2.2.1.1 (xs (i + 1))) (cwV 1 hts gL_law_X8_bestByAll rfl rfl rfl (by decide +kernel) ⟨(Nat.le_of_ble_eq_true rfl), (Nat.le_of_ble_eq_true rfl)⟩) (pV hK (ci := 8) rfl (hL.2.2.2.1.cel (by omega) rfl)) rfl rfl hl.1 rfl (lv_room (Nat.le_of_ble_eq_true rfl)) dL_law_377 ⟨by omega, by omega⟩) hL hS (fun b w9 H locs hq hLm hS => ?_)
    obtain ⟨s1, a1, rfl, hs0, hcase⟩ := hq
    have hL := hLm _ _ rfl
    have hS9 := hcase.elim (fun q => q.2) (fun q => absurd q.1 hcode)
    have hJJ : JJ ac (22 + 6 * no) adr w s1 a1 (cn + 1) := ⟨_, _, _, _, _, _, _, _, _, _, _, _, _, _, _, _, _, _, _, _, _, _, _, _, _, _, _, _, _, _, _, hR, hJ.scr hS9 hcn, rfl⟩
    refine lv_istore (lv' := [(6, .int b), (5, .int r), (0, .ref b0), (1, .ref (adr 0)), (2, .ref (adm 0)), (3, .ref b9), (4, .int (nI i))]) hx hb dL_law_380 hl (by decide) rfl (fun ls hl => ?_)
    refine lv_aload_n hx hb dL_law_382 rfl (lv_at hl 4 rfl) ?_
    refine r_calli (va_runV (As := []) (rest := []) ⟨hx, hb, hml, hown, hts⟩ (k_X8_thrown l D ac _ (Am adm) adm s1 a1 hL.2.2.2.1) (cwV 0 hts gL_law_X8_thrown rfl rfl rfl (by decide +kernel) ⟨(Nat.le_of_ble_eq_true rfl), (Nat.le_of_ble_eq_true rfl)⟩) (pV hK (ci := 8) rfl (hL.2.2.2.1.cel (by omega) rfl)) rfl rfl hl.1 rfl (lv_room (Nat.le_of_ble_eq_true rfl)) dL_law_383 ⟨by omega, by omega⟩) hS (fun k9 locs hk9 hS => ?_)
    rw [hs0] at hk9
    refine lv_iload hx hb dL_law_386 (lv_at hl 1 rfl) ?_
    refine lv_icmp_eq (tgt := 393) hx hb dL_law_388 (by decide) (fun _ => ?_) (fun cq => absurd (hk9.trans hr0.symm) cq)
    refine lv_iload hx hb dL_law_393 (lv_at hl 1 rfl) ?_
    refine lv_if_ne (tgt := 410) hx hb dL_law_395 (by decide) (fun _ => ?_) (fun cq => absurd (hr0.symm.trans cq) (code_ne cd2_le hcode))
    refine lv_goto (tgt := 1900) hx hb dL_law_410 (by decide) ?_
    exact W.widen (k := c0 + 8) (n := s0 + 42) (by omega) (by omega) (K _ _ _ (⟨_, _, _, _, _, _, _, rfl, rfl, hL, hJJ⟩) hS (lv_sub hl [2, 3, 4, 5, 6] rfl))
set_option maxHeartbeats 4000000 in
set_option maxRecDepth 100000 in
/-- the law at a call of cost -/
theorem lc_cost {p : Program} {l : Launch} {e : Env} {s : State} {m : MethodId} {below : List Frame} {meth : Method} {c : Code} {b0 L : Nat} {xs : Nat → Int32} {D : va_G} {ac : Nat → ClassId} (E : LEn p l s m c b0 L xs D ac) {Q : State → Prop} {x9 m9 b9 cn i c0 s0 : Nat} {H : Heap} {locs : List Loc} {ls : Array Slot} (hI : LIv D ac s x9 m9 b9 cn H) (hS : va_S (Lo s) s.heap H locs) (hl : lv_has ls 7 [(0, .ref b0), (1, .ref x9), (2, .ref m9), (3, .ref b9), (4, .int (nI i))]) (hi : i + 5 ≤ L) (hcn : cn + 1 < 1000) (hc : c0 + 8 ≤ room_1.cells) (hs : s0 + 42 ≤ room_1.slots) (K : ∀ (H1 : Heap) (locs1 : List Loc) (ls1 : Array Slot), LIv D ac s x9 m9 b9 (cn + 1) H1 → va_S (Lo s) s.heap H1 locs1 → lv_has ls1 7 [(0, .ref b0), (1, .ref x9), (2, .ref m9), (3, .ref b9), (4, .int (nI i))] → W p l e room_1 s m #[Value.ref b0] below meth c H1 locs1 (c0 + 8) (s0 + 42) Q (F0 m 1900 ls1 [])) : W p l e room_1 s m #[Value.ref b0] below meth c H locs c0 s0 Q (F0 m 413 ls []) := by
  obtain ⟨hx, hb, hml, hown, hts, hlt, hK, hX, hC, hX0, hbl, hL9⟩ := E
  obtain ⟨N, adr, w, f, adm, sf, af, rfl, rfl, hL, dl, dw, fs, fr, ft, ns, so, hv, nd, du, T, nr, rq, nq, oq, pd, er, no, oc, on_, owd, obf, rb, st, mt, co, py, hd, le, pr, ra, hR, hJ, rfl⟩ := hI
  have hbA : ¬ Lo s b0 := Nat.not_le.mpr hbl
  by_cases hz9 : xs (i + 2) = 0
  · refine lv_aload_n hx hb dL_law_413 rfl (lv_at hl 1 rfl) ?_
    refine lv_aload_n hx hb dL_law_414 rfl (lv_at hl 0 rfl) ?_
    refine lv_iload hx hb dL_law_415 (lv_at hl 4 rfl) ?_
    refine lv_iconst (v := 1) hx hb dL_law_417 (by decide) ?_
    refine lv_iadd hx hb dL_law_418 ?_
    refine m_top (show nI i + 1 = nI (i + 1) from by rw [show (1 : Int32) = nI 1 from rfl, nI_add]) ?_
    refine va_sld hx hb hX0 hbl hbA hS (vp_in_nI (show (i + 1) < L by omega) (by omega)) dL_law_419 ?_
    refine m_top (show xs (nI (i + 1)).toNatClampNeg = xs (i + 1) from by rw [nI_clamp (by omega)]) ?_
    refine lv_aload_n hx hb dL_law_420 rfl (lv_at hl 0 rfl) ?_
    refine lv_iload hx hb dL_law_421 (lv_at hl 4 rfl) ?_
    refine lv_iconst (v := 2) hx hb dL_law_423 (by decide) ?_
    refine lv_iadd hx hb dL_law_424 ?_
    refine m_top (show nI i + 2 = nI (i + 2) from by rw [show (2 : Int32) = nI 2 from rfl, nI_add]) ?_
    refine va_sld hx hb hX0 hbl hbA hS (vp_in_nI (show (i + 2) < L by omega) (by omega)) dL_law_425 ?_
    refine m_top (show xs (nI (i + 2)).toNatClampNeg = xs (i + 2) from by rw [nI_clamp (by omega)]) ?_
    refine lv_if_eq (tgt := 433) hx hb dL_law_426 (by decide) (fun _ => ?_) (fun cz => absurd hz9 cz)
    refine lv_iconst (v := 0) hx hb dL_law_433 (by decide) ?_
    refine lv_aload_n hx hb dL_law_434 rfl (lv_at hl 3 rfl) ?_
    refine law_help (vx_runSW (hh := [(0, 10, 13, 13), (0, 10, 17, 15)]) (As := [.ref (adr 0), .int (xs (i + 1)), .int 0, .ref b9]) (rest := []) ⟨hx, hb, hml, hown, hts⟩ (kL_cost l D ac _ (Ax (Lo s) adm) _ adr w b9 f hL.1 hL.2.1 hL.2.2.1 _ _ (xs (i + 1)) 0 _ (hL.1.cel (by omega) hR.1) (k_X7_cost l D ac _ hlt (Abt (Ax (Lo s) adm) b9) _ adr w hL.1 dl dw fs fr ft ns so hv nd du T nr rq nq oq pd er no oc on_ owd obf rb st mt co py hd le pr ra hR (Nat.le_refl _) (xs (i + 1)) 0)) (vx_cwSW 4 hts gL_law_L_cost rfl rfl rfl (by decide +kernel) ⟨(Nat.le_of_ble_eq_true rfl), (Nat.le_of_ble_eq_true rfl)⟩) (pSL hK ((hX.now hS).narrow (fun q h => h.1)) hC) rfl rfl hl.1 rfl (lv_room (Nat.le_of_ble_eq_true rfl)) dL_law_435 ⟨by omega, by omega⟩) hL hS (fun r u H locs hp hL hS => ?_)
    rcases hp with ⟨rfl, v, hPx, hv0⟩ | ⟨hr0, hcode, hu⟩
    · obtain ⟨N9, a9, w1, f1⟩ := u
      have hv0 : f1 0 = v.toInt64 := hv0
      obtain ⟨hN9, ha9, hP⟩ := hPx
      have hN8 : N9 = 22 + 6 * no := hN9
      have ha8 : adr = a9 := ha9.symm
      subst ha8
      subst hN8
      refine lv_istore (lv' := [(5, .int 0), (0, .ref b0), (1, .ref (adr 0)), (2, .ref (adm 0)), (3, .ref b9), (4, .int (nI i))]) hx hb dL_law_438 hl (by decide) rfl (fun ls hl => ?_)
      refine lv_aload_n hx hb dL_law_440 rfl (lv_at hl 3 rfl) ?_
      refine lv_aload_n hx hb dL_law_441 rfl (lv_at hl 1 rfl) ?_
      refine lv_iload hx hb dL_law_442 (lv_at hl 5 rfl) ?_
      refine lv_iconst (v := 1) hx hb dL_law_444 (by decide) ?_
      refine lv_iadd hx hb dL_law_445 ?_
      refine m_top (show nI i + 1 = nI (i + 1) from by rw [show (1 : Int32) = nI 1 from rfl, nI_add]) ?_
      refine va_sld hx hb hX0 hbl hbA hS (vp_in_nI (show (i + 1) < L by omega) (by omega)) dL_law_446 ?_
      refine m_top (show xs (nI (i + 1)).toNatClampNeg = xs (i + 1) from by rw [nI_clamp (by omega)]) ?_
      refine lv_aload_n hx hb dL_law_447 rfl (lv_at hl 1 rfl) ?_
      refine lv_iload hx hb dL_law_448 (lv_at hl 5 rfl) ?_
      refine lv_iconst (v := 2) hx hb dL_law_450 (by decide) ?_
      refine lv_iadd hx hb dL_law_451 ?_
      refine m_top (show nI i + 2 = nI (i + 2) from by rw [show (2 : Int32) = nI 2 from rfl, nI_add]) ?_
      refine va_sld hx hb hX0 hbl hbA hS (vp_in_nI (show (i + 2) < L by omega) (by omega)) dL_law_452 ?_
      refine m_top (show xs (nI (i + 2)).toNatClampNeg = xs (i + 2) from by rw [nI_clamp (by omega)]) ?_
      refine lv_if_eq (tgt := 460) hx hb dL_law_453 (by decide) (fun _ => ?_) (fun cz => absurd hz9 cz)
      refine lv_iconst (v := 0) hx hb dL_law_460 (by decide) ?_
      refine law_mod (va_runV (As := [.int (xs (i + 1)), .int 0]) (rest := []) ⟨hx, hb, hml, hown, hts⟩ (k_X8_cost l D ac _ (Am adm) adm sf af hL.2.2.2.1 ns (fun i => oc (so i)) (fun i => on_ (so i)) (fun i => owd (so i)) (fun i => obf (so i)) hJ.2.2.1 dl dw hJ.1 le pr ra hJ.2.2.2.2.2.1.1 (xs (i + 1)) 0) (cwV 2 hts gL_law_X8_cost rfl rfl rfl (by decide +kernel) ⟨(Nat.le_of_ble_eq_true rfl), (Nat.le_of_ble_eq_true rfl)⟩) (pV hK (ci := 8) rfl (hL.2.2.2.1.cel (by omega) rfl)) rfl rfl hl.1 rfl (lv_room (Nat.le_of_ble_eq_true rfl)) dL_law_461 ⟨by omega, by omega⟩) hL hS (fun b w9 H locs hq hLm hS => ?_)
      obtain ⟨s1, a1, rfl, hs0, hcase⟩ := hq
      have hL := hLm _ _ rfl
      have hz0 := z_cost (b := b) (cn := cn) (a1 := a1) (af := af) (s1 := s1) (sf := sf) hR hP
      rcases hcase with ⟨hne, -⟩ | ⟨-, hN⟩
      · exact absurd hz0 hne
      rw [hz0] at hs0
      obtain ⟨hrb, hJJ⟩ := t_cost hR hJ hcn hP hN
      subst hrb
      refine lv_istore (lv' := [(6, .int v), (5, .int 0), (0, .ref b0), (1, .ref (adr 0)), (2, .ref (adm 0)), (3, .ref b9), (4, .int (nI i))]) hx hb dL_law_464 hl (by decide) rfl (fun ls hl => ?_)
      refine lv_aload_n hx hb dL_law_466 rfl (lv_at hl 4 rfl) ?_
      refine r_calli (va_runV (As := []) (rest := []) ⟨hx, hb, hml, hown, hts⟩ (k_X8_thrown l D ac _ (Am adm) adm s1 a1 hL.2.2.2.1) (cwV 0 hts gL_law_X8_thrown rfl rfl rfl (by decide +kernel) ⟨(Nat.le_of_ble_eq_true rfl), (Nat.le_of_ble_eq_true rfl)⟩) (pV hK (ci := 8) rfl (hL.2.2.2.1.cel (by omega) rfl)) rfl rfl hl.1 rfl (lv_room (Nat.le_of_ble_eq_true rfl)) dL_law_467 ⟨by omega, by omega⟩) hS (fun k9 locs hk9 hS => ?_)
      rw [hs0] at hk9
      refine lv_iload hx hb dL_law_470 (lv_at hl 1 rfl) ?_
      refine lv_icmp_eq (tgt := 477) hx hb dL_law_472 (by decide) (fun _ => ?_) (fun cq => absurd (hk9) cq)
      refine lv_iload hx hb dL_law_477 (lv_at hl 1 rfl) ?_
      refine lv_if_ne (tgt := 494) hx hb dL_law_479 (by decide) (fun cq => absurd rfl cq) (fun _ => ?_)
      refine lv_aload_n hx hb dL_law_482 rfl (lv_at hl 5 rfl) ?_
      refine lv_iconst (v := 0) hx hb dL_law_483 (by decide) ?_
      refine h_lald hx hb hK hL.2.1 dL_law_484 ?_
      refine m_topl (show f1 0 = v.toInt64 from hv0) ?_
      refine lv_iload hx hb dL_law_485 (lv_at hl 0 rfl) ?_
      refine lv_i2l (v := v.toInt64) hx hb dL_law_487 rfl ?_
      refine W.lcmp hx hb dL_law_488 ?_
      refine m_top (show lg_cmp v.toInt64 v.toInt64 = 0 from cmp_self) ?_
      refine lv_if_eq (tgt := 494) hx hb dL_law_489 (by decide) (fun _ => ?_) (fun cq => absurd rfl cq)
      refine lv_goto (tgt := 1900) hx hb dL_law_494 (by decide) ?_
      exact W.widen (k := c0 + 8) (n := s0 + 42) (by omega) (by omega) (K _ _ _ (⟨_, _, _, _, _, _, _, rfl, rfl, hL, hJJ⟩) hS (lv_sub hl [2, 3, 4, 5, 6] rfl))
    · subst hu
      refine lv_istore (lv' := [(5, .int r), (0, .ref b0), (1, .ref (adr 0)), (2, .ref (adm 0)), (3, .ref b9), (4, .int (nI i))]) hx hb dL_law_438 hl (by decide) rfl (fun ls hl => ?_)
      refine lv_aload_n hx hb dL_law_440 rfl (lv_at hl 3 rfl) ?_
      refine lv_aload_n hx hb dL_law_441 rfl (lv_at hl 1 rfl) ?_
      refine lv_iload hx hb dL_law_442 (lv_at hl 5 rfl) ?_
      refine lv_iconst (v := 1) hx hb dL_law_444 (by decide) ?_
      refine lv_iadd hx hb dL_law_445 ?_
      refine m_top (show nI i + 1 = nI (i + 1) from by rw [show (1 : Int32) = nI 1 from rfl, nI_add]) ?_
      refine va_sld hx hb hX0 hbl hbA hS (vp_in_nI (show (i + 1) < L by omega) (by omega)) dL_law_446 ?_
      refine m_top (show xs (nI (i + 1)).toNatClampNeg = xs (i + 1) from by rw [nI_clamp (by omega)]) ?_
      refine lv_aload_n hx hb dL_law_447 rfl (lv_at hl 1 rfl) ?_
      refine lv_iload hx hb dL_law_448 (lv_at hl 5 rfl) ?_
      refine lv_iconst (v := 2) hx hb dL_law_450 (by decide) ?_
      refine lv_iadd hx hb dL_law_451 ?_
      refine m_top (show nI i + 2 = nI (i + 2) from by rw [show (2 : Int32) = nI 2 from rfl, nI_add]) ?_
      refine va_sld hx hb hX0 hbl hbA hS (vp_in_nI (show (i + 2) < L by omega) (by omega)) dL_law_452 ?_
      refine m_top (show xs (nI (i + 2)).toNatClampNeg = xs (i + 2) from by rw [nI_clamp (by omega)]) ?_
      refine lv_if_eq (tgt := 460) hx hb dL_law_453 (by decide) (fun _ => ?_) (fun cz => absurd hz9 cz)
      refine lv_iconst (v := 0) hx hb dL_law_460 (by decide) ?_
      refine law_mod (va_runV (As := [.int (xs (i + 1)), .int 0]) (rest := []) ⟨hx, hb, hml, hown, hts⟩ (k_X8_cost l D ac _ (Am adm) adm sf af hL.2.2.2.1 ns (fun i => oc (so i)) (fun i => on_ (so i)) (fun i => owd (so i)) (fun i => obf (so i)) hJ.2.2.1 dl dw hJ.1 le pr ra hJ.2.2.2.2.2.1.1 (xs (i + 1)) 0) (cwV 2 hts gL_law_X8_cost rfl rfl rfl (by decide +kernel) ⟨(Nat.le_of_ble_eq_true rfl), (Nat.le_of_ble_eq_true rfl)⟩) (pV hK (ci := 8) rfl (hL.2.2.2.1.cel (by omega) rfl)) rfl rfl hl.1 rfl (lv_room (Nat.le_of_ble_eq_true rfl)) dL_law_461 ⟨by omega, by omega⟩) hL hS (fun b w9 H locs hq hLm hS => ?_)
      obtain ⟨s1, a1, rfl, hs0, hcase⟩ := hq
      have hL := hLm _ _ rfl
      have hS9 := hcase.elim (fun q => q.2) (fun q => absurd q.1 hcode)
      have hJJ : JJ ac (22 + 6 * no) adr w s1 a1 (cn + 1) := ⟨_, _, _, _, _, _, _, _, _, _, _, _, _, _, _, _, _, _, _, _, _, _, _, _, _, _, _, _, _, _, _, hR, hJ.scr hS9 hcn, rfl⟩
      refine lv_istore (lv' := [(6, .int b), (5, .int r), (0, .ref b0), (1, .ref (adr 0)), (2, .ref (adm 0)), (3, .ref b9), (4, .int (nI i))]) hx hb dL_law_464 hl (by decide) rfl (fun ls hl => ?_)
      refine lv_aload_n hx hb dL_law_466 rfl (lv_at hl 4 rfl) ?_
      refine r_calli (va_runV (As := []) (rest := []) ⟨hx, hb, hml, hown, hts⟩ (k_X8_thrown l D ac _ (Am adm) adm s1 a1 hL.2.2.2.1) (cwV 0 hts gL_law_X8_thrown rfl rfl rfl (by decide +kernel) ⟨(Nat.le_of_ble_eq_true rfl), (Nat.le_of_ble_eq_true rfl)⟩) (pV hK (ci := 8) rfl (hL.2.2.2.1.cel (by omega) rfl)) rfl rfl hl.1 rfl (lv_room (Nat.le_of_ble_eq_true rfl)) dL_law_467 ⟨by omega, by omega⟩) hS (fun k9 locs hk9 hS => ?_)
      rw [hs0] at hk9
      refine lv_iload hx hb dL_law_470 (lv_at hl 1 rfl) ?_
      refine lv_icmp_eq (tgt := 477) hx hb dL_law_472 (by decide) (fun _ => ?_) (fun cq => absurd (hk9.trans hr0.symm) cq)
      refine lv_iload hx hb dL_law_477 (lv_at hl 1 rfl) ?_
      refine lv_if_ne (tgt := 494) hx hb dL_law_479 (by decide) (fun _ => ?_) (fun cq => absurd (hr0.symm.trans cq) (code_ne cd2_le hcode))
      refine lv_goto (tgt := 1900) hx hb dL_law_494 (by decide) ?_
      exact W.widen (k := c0 + 8) (n := s0 + 42) (by omega) (by omega) (K _ _ _ (⟨_, _, _, _, _, _, _, rfl, rfl, hL, hJJ⟩) hS (lv_sub hl [2, 3, 4, 5, 6] rfl))
  · refine lv_aload_n hx hb dL_law_413 rfl (lv_at hl 1 rfl) ?_
    refine lv_aload_n hx hb dL_law_414 rfl (lv_at hl 0 rfl) ?_
    refine lv_iload hx hb dL_law_415 (lv_at hl 4 rfl) ?_
    refine lv_iconst (v := 1) hx hb dL_law_417 (by decide) ?_
    refine lv_iadd hx hb dL_law_418 ?_
    refine m_top (show nI i + 1 = nI (i + 1) from by rw [show (1 : Int32) = nI 1 from rfl, nI_add]) ?_
    refine va_sld hx hb hX0 hbl hbA hS (vp_in_nI (show (i + 1) < L by omega) (by omega)) dL_law_419 ?_
    refine m_top (show xs (nI (i + 1)).toNatClampNeg = xs (i + 1) from by rw [nI_clamp (by omega)]) ?_
    refine lv_aload_n hx hb dL_law_420 rfl (lv_at hl 0 rfl) ?_
    refine lv_iload hx hb dL_law_421 (lv_at hl 4 rfl) ?_
    refine lv_iconst (v := 2) hx hb dL_law_423 (by decide) ?_
    refine lv_iadd hx hb dL_law_424 ?_
    refine m_top (show nI i + 2 = nI (i + 2) from by rw [show (2 : Int32) = nI 2 from rfl, nI_add]) ?_
    refine va_sld hx hb hX0 hbl hbA hS (vp_in_nI (show (i + 2) < L by omega) (by omega)) dL_law_425 ?_
    refine m_top (show xs (nI (i + 2)).toNatClampNeg = xs (i + 2) from by rw [nI_clamp (by omega)]) ?_
    refine lv_if_eq (tgt := 433) hx hb dL_law_426 (by decide) (fun cz => absurd cz hz9) (fun _ => ?_)
    refine lv_iconst (v := 1) hx hb dL_law_429 (by decide) ?_
    refine lv_goto (tgt := 434) hx hb dL_law_430 (by decide) ?_
    refine lv_aload_n hx hb dL_law_434 rfl (lv_at hl 3 rfl) ?_
    refine law_help (vx_runSW (hh := [(0, 10, 13, 13), (0, 10, 17, 15)]) (As := [.ref (adr 0), .int (xs (i + 1)), .int 1, .ref b9]) (rest := []) ⟨hx, hb, hml, hown, hts⟩ (kL_cost l D ac _ (Ax (Lo s) adm) _ adr w b9 f hL.1 hL.2.1 hL.2.2.1 _ _ (xs (i + 1)) 1 _ (hL.1.cel (by omega) hR.1) (k_X7_cost l D ac _ hlt (Abt (Ax (Lo s) adm) b9) _ adr w hL.1 dl dw fs fr ft ns so hv nd du T nr rq nq oq pd er no oc on_ owd obf rb st mt co py hd le pr ra hR (Nat.le_refl _) (xs (i + 1)) 1)) (vx_cwSW 4 hts gL_law_L_cost rfl rfl rfl (by decide +kernel) ⟨(Nat.le_of_ble_eq_true rfl), (Nat.le_of_ble_eq_true rfl)⟩) (pSL hK ((hX.now hS).narrow (fun q h => h.1)) hC) rfl rfl hl.1 rfl (lv_room (Nat.le_of_ble_eq_true rfl)) dL_law_435 ⟨by omega, by omega⟩) hL hS (fun r u H locs hp hL hS => ?_)
    rcases hp with ⟨rfl, v, hPx, hv0⟩ | ⟨hr0, hcode, hu⟩
    · obtain ⟨N9, a9, w1, f1⟩ := u
      have hv0 : f1 0 = v.toInt64 := hv0
      obtain ⟨hN9, ha9, hP⟩ := hPx
      have hN8 : N9 = 22 + 6 * no := hN9
      have ha8 : adr = a9 := ha9.symm
      subst ha8
      subst hN8
      refine lv_istore (lv' := [(5, .int 0), (0, .ref b0), (1, .ref (adr 0)), (2, .ref (adm 0)), (3, .ref b9), (4, .int (nI i))]) hx hb dL_law_438 hl (by decide) rfl (fun ls hl => ?_)
      refine lv_aload_n hx hb dL_law_440 rfl (lv_at hl 3 rfl) ?_
      refine lv_aload_n hx hb dL_law_441 rfl (lv_at hl 1 rfl) ?_
      refine lv_iload hx hb dL_law_442 (lv_at hl 5 rfl) ?_
      refine lv_iconst (v := 1) hx hb dL_law_444 (by decide) ?_
      refine lv_iadd hx hb dL_law_445 ?_
      refine m_top (show nI i + 1 = nI (i + 1) from by rw [show (1 : Int32) = nI 1 from rfl, nI_add]) ?_
      refine va_sld hx hb hX0 hbl hbA hS (vp_in_nI (show (i + 1) < L by omega) (by omega)) dL_law_446 ?_
      refine m_top (show xs (nI (i + 1)).toNatClampNeg = xs (i + 1) from by rw [nI_clamp (by omega)]) ?_
      refine lv_aload_n hx hb dL_law_447 rfl (lv_at hl 1 rfl) ?_
      refine lv_iload hx hb dL_law_448 (lv_at hl 5 rfl) ?_
      refine lv_iconst (v := 2) hx hb dL_law_450 (by decide) ?_
      refine lv_iadd hx hb dL_law_451 ?_
      refine m_top (show nI i + 2 = nI (i + 2) from by rw [show (2 : Int32) = nI 2 from rfl, nI_add]) ?_
      refine va_sld hx hb hX0 hbl hbA hS (vp_in_nI (show (i + 2) < L by omega) (by omega)) dL_law_452 ?_
      refine m_top (show xs (nI (i + 2)).toNatClampNeg = xs (i + 2) from by rw [nI_clamp (by omega)]) ?_
      refine lv_if_eq (tgt := 460) hx hb dL_law_453 (by decide) (fun cz => absurd cz hz9) (fun _ => ?_)
      refine lv_iconst (v := 1) hx hb dL_law_456 (by decide) ?_
      refine lv_goto (tgt := 461) hx hb dL_law_457 (by decide) ?_
      refine law_mod (va_runV (As := [.int (xs (i + 1)), .int 1]) (rest := []) ⟨hx, hb, hml, hown, hts⟩ (k_X8_cost l D ac _ (Am adm) adm sf af hL.2.2.2.1 ns (fun i => oc (so i)) (fun i => on_ (so i)) (fun i => owd (so i)) (fun i => obf (so i)) hJ.2.2.1 dl dw hJ.1 le pr ra hJ.2.2.2.2.2.1.1 (xs (i + 1)) 1) (cwV 2 hts gL_law_X8_cost rfl rfl rfl (by decide +kernel) ⟨(Nat.le_of_ble_eq_true rfl), (Nat.le_of_ble_eq_true rfl)⟩) (pV hK (ci := 8) rfl (hL.2.2.2.1.cel (by omega) rfl)) rfl rfl hl.1 rfl (lv_room (Nat.le_of_ble_eq_true rfl)) dL_law_461 ⟨by omega, by omega⟩) hL hS (fun b w9 H locs hq hLm hS => ?_)
      obtain ⟨s1, a1, rfl, hs0, hcase⟩ := hq
      have hL := hLm _ _ rfl
      have hz0 := z_cost (b := b) (cn := cn) (a1 := a1) (af := af) (s1 := s1) (sf := sf) hR hP
      rcases hcase with ⟨hne, -⟩ | ⟨-, hN⟩
      · exact absurd hz0 hne
      rw [hz0] at hs0
      obtain ⟨hrb, hJJ⟩ := t_cost hR hJ hcn hP hN
      subst hrb
      refine lv_istore (lv' := [(6, .int v), (5, .int 0), (0, .ref b0), (1, .ref (adr 0)), (2, .ref (adm 0)), (3, .ref b9), (4, .int (nI i))]) hx hb dL_law_464 hl (by decide) rfl (fun ls hl => ?_)
      refine lv_aload_n hx hb dL_law_466 rfl (lv_at hl 4 rfl) ?_
      refine r_calli (va_runV (As := []) (rest := []) ⟨hx, hb, hml, hown, hts⟩ (k_X8_thrown l D ac _ (Am adm) adm s1 a1 hL.2.2.2.1) (cwV 0 hts gL_law_X8_thrown rfl rfl rfl (by decide +kernel) ⟨(Nat.le_of_ble_eq_true rfl), (Nat.le_of_ble_eq_true rfl)⟩) (pV hK (ci := 8) rfl (hL.2.2.2.1.cel (by omega) rfl)) rfl rfl hl.1 rfl (lv_room (Nat.le_of_ble_eq_true rfl)) dL_law_467 ⟨by omega, by omega⟩) hS (fun k9 locs hk9 hS => ?_)
      rw [hs0] at hk9
      refine lv_iload hx hb dL_law_470 (lv_at hl 1 rfl) ?_
      refine lv_icmp_eq (tgt := 477) hx hb dL_law_472 (by decide) (fun _ => ?_) (fun cq => absurd (hk9) cq)
      refine lv_iload hx hb dL_law_477 (lv_at hl 1 rfl) ?_
      refine lv_if_ne (tgt := 494) hx hb dL_law_479 (by decide) (fun cq => absurd rfl cq) (fun _ => ?_)
      refine lv_aload_n hx hb dL_law_482 rfl (lv_at hl 5 rfl) ?_
      refine lv_iconst (v := 0) hx hb dL_law_483 (by decide) ?_
      refine h_lald hx hb hK hL.2.1 dL_law_484 ?_
      refine m_topl (show f1 0 = v.toInt64 from hv0) ?_
      refine lv_iload hx hb dL_law_485 (lv_at hl 0 rfl) ?_
      refine lv_i2l (v := v.toInt64) hx hb dL_law_487 rfl ?_
      refine W.lcmp hx hb dL_law_488 ?_
      refine m_top (show lg_cmp v.toInt64 v.toInt64 = 0 from cmp_self) ?_
      refine lv_if_eq (tgt := 494) hx hb dL_law_489 (by decide) (fun _ => ?_) (fun cq => absurd rfl cq)
      refine lv_goto (tgt := 1900) hx hb dL_law_494 (by decide) ?_
      exact W.widen (k := c0 + 8) (n := s0 + 42) (by omega) (by omega) (K _ _ _ (⟨_, _, _, _, _, _, _, rfl, rfl, hL, hJJ⟩) hS (lv_sub hl [2, 3, 4, 5, 6] rfl))
    · subst hu
      refine lv_istore (lv' := [(5, .int r), (0, .ref b0), (1, .ref (adr 0)), (2, .ref (adm 0)), (3, .ref b9), (4, .int (nI i))]) hx hb dL_law_438 hl (by decide) rfl (fun ls hl => ?_)
      refine lv_aload_n hx hb dL_law_440 rfl (lv_at hl 3 rfl) ?_
      refine lv_aload_n hx hb dL_law_441 rfl (lv_at hl 1 rfl) ?_
      refine lv_iload hx hb dL_law_442 (lv_at hl 5 rfl) ?_
      refine lv_iconst (v := 1) hx hb dL_law_444 (by decide) ?_
      refine lv_iadd hx hb dL_law_445 ?_
      refine m_top (show nI i + 1 = nI (i + 1) from by rw [show (1 : Int32) = nI 1 from rfl, nI_add]) ?_
      refine va_sld hx hb hX0 hbl hbA hS (vp_in_nI (show (i + 1) < L by omega) (by omega)) dL_law_446 ?_
      refine m_top (show xs (nI (i + 1)).toNatClampNeg = xs (i + 1) from by rw [nI_clamp (by omega)]) ?_
      refine lv_aload_n hx hb dL_law_447 rfl (lv_at hl 1 rfl) ?_
      refine lv_iload hx hb dL_law_448 (lv_at hl 5 rfl) ?_
      refine lv_iconst (v := 2) hx hb dL_law_450 (by decide) ?_
      refine lv_iadd hx hb dL_law_451 ?_
      refine m_top (show nI i + 2 = nI (i + 2) from by rw [show (2 : Int32) = nI 2 from rfl, nI_add]) ?_
      refine va_sld hx hb hX0 hbl hbA hS (vp_in_nI (show (i + 2) < L by omega) (by omega)) dL_law_452 ?_
      refine m_top (show xs (nI (i + 2)).toNatClampNeg = xs (i + 2) from by rw [nI_clamp (by omega)]) ?_
      refine lv_if_eq (tgt := 460) hx hb dL_law_453 (by decide) (fun cz => absurd cz hz9) (fun _ => ?_)
      refine lv_iconst (v := 1) hx hb dL_law_456 (by decide) ?_
      refine lv_goto (tgt := 461) hx hb dL_law_457 (by decide) ?_
      refine law_mod (va_runV (As := [.int (xs (i + 1)), .int 1]) (rest := []) ⟨hx, hb, hml, hown, hts⟩ (k_X8_cost l D ac _ (Am adm) adm sf af hL.2.2.2.1 ns (fun i => oc (so i)) (fun i => on_ (so i)) (fun i => owd (so i)) (fun i => obf (so i)) hJ.2.2.1 dl dw hJ.1 le pr ra hJ.2.2.2.2.2.1.1 (xs (i + 1)) 1) (cwV 2 hts gL_law_X8_cost rfl rfl rfl (by decide +kernel) ⟨(Nat.le_of_ble_eq_true rfl), (Nat.le_of_ble_eq_true rfl)⟩) (pV hK (ci := 8) rfl (hL.2.2.2.1.cel (by omega) rfl)) rfl rfl hl.1 rfl (lv_room (Nat.le_of_ble_eq_true rfl)) dL_law_461 ⟨by omega, by omega⟩) hL hS (fun b w9 H locs hq hLm hS => ?_)
      obtain ⟨s1, a1, rfl, hs0, hcase⟩ := hq
      have hL := hLm _ _ rfl
      have hS9 := hcase.elim (fun q => q.2) (fun q => absurd q.1 hcode)
      have hJJ : JJ ac (22 + 6 * no) adr w s1 a1 (cn + 1) := ⟨_, _, _, _, _, _, _, _, _, _, _, _, _, _, _, _, _, _, _, _, _, _, _, _, _, _, _, _, _, _, _, hR, hJ.scr hS9 hcn, rfl⟩
      refine lv_istore (lv' := [(6, .int b), (5, .int r), (0, .ref b0), (1, .ref (adr 0)), (2, .ref (adm 0)), (3, .ref b9), (4, .int (nI i))]) hx hb dL_law_464 hl (by decide) rfl (fun ls hl => ?_)
      refine lv_aload_n hx hb dL_law_466 rfl (lv_at hl 4 rfl) ?_
      refine r_calli (va_runV (As := []) (rest := []) ⟨hx, hb, hml, hown, hts⟩ (k_X8_thrown l D ac _ (Am adm) adm s1 a1 hL.2.2.2.1) (cwV 0 hts gL_law_X8_thrown rfl rfl rfl (by decide +kernel) ⟨(Nat.le_of_ble_eq_true rfl), (Nat.le_of_ble_eq_true rfl)⟩) (pV hK (ci := 8) rfl (hL.2.2.2.1.cel (by omega) rfl)) rfl rfl hl.1 rfl (lv_room (Nat.le_of_ble_eq_true rfl)) dL_law_467 ⟨by omega, by omega⟩) hS (fun k9 locs hk9 hS => ?_)
      rw [hs0] at hk9
      refine lv_iload hx hb dL_law_470 (lv_at hl 1 rfl) ?_
      refine lv_icmp_eq (tgt := 477) hx hb dL_law_472 (by decide) (fun _ => ?_) (fun cq => absurd (hk9.trans hr0.symm) cq)
      refine lv_iload hx hb dL_law_477 (lv_at hl 1 rfl) ?_
      refine lv_if_ne (tgt := 494) hx hb dL_law_479 (by decide) (fun _ => ?_) (fun cq => absurd (hr0.symm.trans cq) (code_ne cd2_le hcode))
      refine lv_goto (tgt := 1900) hx hb dL_law_494 (by decide) ?_
      exact W.widen (k := c0 + 8) (n := s0 + 42) (by omega) (by omega) (K _ _ _ (⟨_, _, _, _, _, _, _, rfl, rfl, hL, hJJ⟩) hS (lv_sub hl [2, 3, 4, 5, 6] rfl))
set_option maxHeartbeats 4000000 in
set_option maxRecDepth 100000 in
/-- the law at a call of order -/
theorem lc_order {p : Program} {l : Launch} {e : Env} {s : State} {m : MethodId} {below : List Frame} {meth : Method} {c : Code} {b0 L : Nat} {xs : Nat → Int32} {D : va_G} {ac : Nat → ClassId} (E : LEn p l s m c b0 L xs D ac) {Q : State → Prop} {x9 m9 b9 cn i c0 s0 : Nat} {H : Heap} {locs : List Loc} {ls : Array Slot} (hI : LIv D ac s x9 m9 b9 cn H) (hS : va_S (Lo s) s.heap H locs) (hl : lv_has ls 7 [(0, .ref b0), (1, .ref x9), (2, .ref m9), (3, .ref b9), (4, .int (nI i))]) (hi : i + 5 ≤ L) (hcn : cn + 1 < 1000) (hc : c0 + 8 ≤ room_1.cells) (hs : s0 + 42 ≤ room_1.slots) (K : ∀ (H1 : Heap) (locs1 : List Loc) (ls1 : Array Slot), LIv D ac s x9 m9 b9 (cn + 1) H1 → va_S (Lo s) s.heap H1 locs1 → lv_has ls1 7 [(0, .ref b0), (1, .ref x9), (2, .ref m9), (3, .ref b9), (4, .int (nI i))] → W p l e room_1 s m #[Value.ref b0] below meth c H1 locs1 (c0 + 8) (s0 + 42) Q (F0 m 1900 ls1 [])) : W p l e room_1 s m #[Value.ref b0] below meth c H locs c0 s0 Q (F0 m 497 ls []) := by
  obtain ⟨hx, hb, hml, hown, hts, hlt, hK, hX, hC, hX0, hbl, hL9⟩ := E
  obtain ⟨N, adr, w, f, adm, sf, af, rfl, rfl, hL, dl, dw, fs, fr, ft, ns, so, hv, nd, du, T, nr, rq, nq, oq, pd, er, no, oc, on_, owd, obf, rb, st, mt, co, py, hd, le, pr, ra, hR, hJ, rfl⟩ := hI
  have hbA : ¬ Lo s b0 := Nat.not_le.mpr hbl
  by_cases hz9 : xs (i + 2) = 0
  · refine lv_aload_n hx hb dL_law_497 rfl (lv_at hl 1 rfl) ?_
    refine lv_aload_n hx hb dL_law_498 rfl (lv_at hl 0 rfl) ?_
    refine lv_iload hx hb dL_law_499 (lv_at hl 4 rfl) ?_
    refine lv_iconst (v := 1) hx hb dL_law_501 (by decide) ?_
    refine lv_iadd hx hb dL_law_502 ?_
    refine m_top (show nI i + 1 = nI (i + 1) from by rw [show (1 : Int32) = nI 1 from rfl, nI_add]) ?_
    refine va_sld hx hb hX0 hbl hbA hS (vp_in_nI (show (i + 1) < L by omega) (by omega)) dL_law_503 ?_
    refine m_top (show xs (nI (i + 1)).toNatClampNeg = xs (i + 1) from by rw [nI_clamp (by omega)]) ?_
    refine lv_aload_n hx hb dL_law_504 rfl (lv_at hl 0 rfl) ?_
    refine lv_iload hx hb dL_law_505 (lv_at hl 4 rfl) ?_
    refine lv_iconst (v := 2) hx hb dL_law_507 (by decide) ?_
    refine lv_iadd hx hb dL_law_508 ?_
    refine m_top (show nI i + 2 = nI (i + 2) from by rw [show (2 : Int32) = nI 2 from rfl, nI_add]) ?_
    refine va_sld hx hb hX0 hbl hbA hS (vp_in_nI (show (i + 2) < L by omega) (by omega)) dL_law_509 ?_
    refine m_top (show xs (nI (i + 2)).toNatClampNeg = xs (i + 2) from by rw [nI_clamp (by omega)]) ?_
    refine lv_if_eq (tgt := 517) hx hb dL_law_510 (by decide) (fun _ => ?_) (fun cz => absurd hz9 cz)
    refine lv_iconst (v := 0) hx hb dL_law_517 (by decide) ?_
    refine lv_aload_n hx hb dL_law_518 rfl (lv_at hl 3 rfl) ?_
    refine law_help (vx_runSW (hh := [(0, 10, 13, 13), (0, 10, 17, 15)]) (As := [.ref (adr 0), .int (xs (i + 1)), .int 0, .ref b9]) (rest := []) ⟨hx, hb, hml, hown, hts⟩ (kL_order l D ac _ (Ax (Lo s) adm) _ adr w b9 f hL.1 hL.2.1 hL.2.2.1 _ _ _ (xs (i + 1)) 0 _ (hL.1.cel (by omega) hR.1) (k_X7_order l D ac _ hlt (Abt (Ax (Lo s) adm) b9) (fun q hq => ⟨⟨Nat.le_trans hS.1 hq, fun j hj e9 => absurd (hL.2.2.2.1.lt hj) (by rw [← e9]; omega)⟩, fun e9 => absurd hL.2.1.lt (by rw [← e9]; omega)⟩) adr w dl dw fs fr ft ns so hv nd du T nr rq nq oq pd er no oc on_ owd obf rb st mt co py hd le pr ra hL.1 hR hJ.2.2.2.2.2.2.2.2.2.2.2.1.1 (xs (i + 1)) 0 (Or.inl rfl))) (vx_cwSW 4 hts gL_law_L_order rfl rfl rfl (by decide +kernel) ⟨(Nat.le_of_ble_eq_true rfl), (Nat.le_of_ble_eq_true rfl)⟩) (pSL hK ((hX.now hS).narrow (fun q h => h.1)) hC) rfl rfl hl.1 rfl (lv_room (Nat.le_of_ble_eq_true rfl)) dL_law_519 ⟨by omega, by omega⟩) hL hS (fun r u H locs hp hL hS => ?_)
    rcases hp with ⟨rfl, v, hPx, hv0⟩ | ⟨hr0, hcode, hu⟩
    · obtain ⟨N9, a9, w1, f1⟩ := u
      have hv0 : f1 0 = v.toInt64 := hv0
      obtain ⟨hN9, hP⟩ := hPx
      have hN8 : N9 = 22 + 6 * no + 6 := hN9
      subst hN8
      have ha0 : adr 0 = a9 0 := by obtain ⟨_, _, _, _, _, _, h9, _⟩ := hP; exact h9 0 (by omega)
      refine lv_istore (lv' := [(5, .int 0), (0, .ref b0), (1, .ref (adr 0)), (2, .ref (adm 0)), (3, .ref b9), (4, .int (nI i))]) hx hb dL_law_522 hl (by decide) rfl (fun ls hl => ?_)
      refine lv_aload_n hx hb dL_law_524 rfl (lv_at hl 3 rfl) ?_
      refine lv_aload_n hx hb dL_law_525 rfl (lv_at hl 1 rfl) ?_
      refine lv_iload hx hb dL_law_526 (lv_at hl 5 rfl) ?_
      refine lv_iconst (v := 1) hx hb dL_law_528 (by decide) ?_
      refine lv_iadd hx hb dL_law_529 ?_
      refine m_top (show nI i + 1 = nI (i + 1) from by rw [show (1 : Int32) = nI 1 from rfl, nI_add]) ?_
      refine va_sld hx hb hX0 hbl hbA hS (vp_in_nI (show (i + 1) < L by omega) (by omega)) dL_law_530 ?_
      refine m_top (show xs (nI (i + 1)).toNatClampNeg = xs (i + 1) from by rw [nI_clamp (by omega)]) ?_
      refine lv_aload_n hx hb dL_law_531 rfl (lv_at hl 1 rfl) ?_
      refine lv_iload hx hb dL_law_532 (lv_at hl 5 rfl) ?_
      refine lv_iconst (v := 2) hx hb dL_law_534 (by decide) ?_
      refine lv_iadd hx hb dL_law_535 ?_
      refine m_top (show nI i + 2 = nI (i + 2) from by rw [show (2 : Int32) = nI 2 from rfl, nI_add]) ?_
      refine va_sld hx hb hX0 hbl hbA hS (vp_in_nI (show (i + 2) < L by omega) (by omega)) dL_law_536 ?_
      refine m_top (show xs (nI (i + 2)).toNatClampNeg = xs (i + 2) from by rw [nI_clamp (by omega)]) ?_
      refine lv_if_eq (tgt := 544) hx hb dL_law_537 (by decide) (fun _ => ?_) (fun cz => absurd hz9 cz)
      refine lv_iconst (v := 0) hx hb dL_law_544 (by decide) ?_
      refine law_mod (va_runV (As := [.int (xs (i + 1)), .int 0]) (rest := []) ⟨hx, hb, hml, hown, hts⟩ (k_X8_order l D ac _ (Am adm) adm sf af hL.2.2.2.1 no oc on_ owd rb st hJ.2.2.2.1 dl dw hJ.1 (xs (i + 1)) 0 (Or.inl rfl)) (cwV 2 hts gL_law_X8_order rfl rfl rfl (by decide +kernel) ⟨(Nat.le_of_ble_eq_true rfl), (Nat.le_of_ble_eq_true rfl)⟩) (pV hK (ci := 8) rfl (hL.2.2.2.1.cel (by omega) rfl)) rfl rfl hl.1 rfl (lv_room (Nat.le_of_ble_eq_true rfl)) dL_law_545 ⟨by omega, by omega⟩) hL hS (fun b w9 H locs hq hLm hS => ?_)
      obtain ⟨s1, a1, rfl, hs0, hcase⟩ := hq
      have hL := hLm _ _ rfl
      have hz0 := z_order (b := b) (cn := cn) (a1 := a1) (af := af) (s1 := s1) (sf := sf) hR hP
      rcases hcase with ⟨hne, -⟩ | ⟨-, hN⟩
      · exact absurd hz0 hne
      rw [hz0] at hs0
      obtain ⟨hrb, hJJ⟩ := t_order (Or.inl rfl) hR hJ hcn hP hN
      subst hrb
      refine lv_istore (lv' := [(6, .int v), (5, .int 0), (0, .ref b0), (1, .ref (adr 0)), (2, .ref (adm 0)), (3, .ref b9), (4, .int (nI i))]) hx hb dL_law_548 hl (by decide) rfl (fun ls hl => ?_)
      refine lv_aload_n hx hb dL_law_550 rfl (lv_at hl 4 rfl) ?_
      refine r_calli (va_runV (As := []) (rest := []) ⟨hx, hb, hml, hown, hts⟩ (k_X8_thrown l D ac _ (Am adm) adm s1 a1 hL.2.2.2.1) (cwV 0 hts gL_law_X8_thrown rfl rfl rfl (by decide +kernel) ⟨(Nat.le_of_ble_eq_true rfl), (Nat.le_of_ble_eq_true rfl)⟩) (pV hK (ci := 8) rfl (hL.2.2.2.1.cel (by omega) rfl)) rfl rfl hl.1 rfl (lv_room (Nat.le_of_ble_eq_true rfl)) dL_law_551 ⟨by omega, by omega⟩) hS (fun k9 locs hk9 hS => ?_)
      rw [hs0] at hk9
      refine lv_iload hx hb dL_law_554 (lv_at hl 1 rfl) ?_
      refine lv_icmp_eq (tgt := 561) hx hb dL_law_556 (by decide) (fun _ => ?_) (fun cq => absurd (hk9) cq)
      refine lv_iload hx hb dL_law_561 (lv_at hl 1 rfl) ?_
      refine lv_if_ne (tgt := 578) hx hb dL_law_563 (by decide) (fun cq => absurd rfl cq) (fun _ => ?_)
      refine lv_aload_n hx hb dL_law_566 rfl (lv_at hl 5 rfl) ?_
      refine lv_iconst (v := 0) hx hb dL_law_567 (by decide) ?_
      refine h_lald hx hb hK hL.2.1 dL_law_568 ?_
      refine m_topl (show f1 0 = v.toInt64 from hv0) ?_
      refine lv_iload hx hb dL_law_569 (lv_at hl 0 rfl) ?_
      refine lv_i2l (v := v.toInt64) hx hb dL_law_571 rfl ?_
      refine W.lcmp hx hb dL_law_572 ?_
      refine m_top (show lg_cmp v.toInt64 v.toInt64 = 0 from cmp_self) ?_
      refine lv_if_eq (tgt := 578) hx hb dL_law_573 (by decide) (fun _ => ?_) (fun cq => absurd rfl cq)
      refine lv_goto (tgt := 1900) hx hb dL_law_578 (by decide) ?_
      exact W.widen (k := c0 + 8) (n := s0 + 42) (by omega) (by omega) (K _ _ _ (⟨_, _, _, _, _, _, _, ha0, rfl, hL, hJJ⟩) hS (lv_sub hl [2, 3, 4, 5, 6] rfl))
    · subst hu
      refine lv_istore (lv' := [(5, .int r), (0, .ref b0), (1, .ref (adr 0)), (2, .ref (adm 0)), (3, .ref b9), (4, .int (nI i))]) hx hb dL_law_522 hl (by decide) rfl (fun ls hl => ?_)
      refine lv_aload_n hx hb dL_law_524 rfl (lv_at hl 3 rfl) ?_
      refine lv_aload_n hx hb dL_law_525 rfl (lv_at hl 1 rfl) ?_
      refine lv_iload hx hb dL_law_526 (lv_at hl 5 rfl) ?_
      refine lv_iconst (v := 1) hx hb dL_law_528 (by decide) ?_
      refine lv_iadd hx hb dL_law_529 ?_
      refine m_top (show nI i + 1 = nI (i + 1) from by rw [show (1 : Int32) = nI 1 from rfl, nI_add]) ?_
      refine va_sld hx hb hX0 hbl hbA hS (vp_in_nI (show (i + 1) < L by omega) (by omega)) dL_law_530 ?_
      refine m_top (show xs (nI (i + 1)).toNatClampNeg = xs (i + 1) from by rw [nI_clamp (by omega)]) ?_
      refine lv_aload_n hx hb dL_law_531 rfl (lv_at hl 1 rfl) ?_
      refine lv_iload hx hb dL_law_532 (lv_at hl 5 rfl) ?_
      refine lv_iconst (v := 2) hx hb dL_law_534 (by decide) ?_
      refine lv_iadd hx hb dL_law_535 ?_
      refine m_top (show nI i + 2 = nI (i + 2) from by rw [show (2 : Int32) = nI 2 from rfl, nI_add]) ?_
      refine va_sld hx hb hX0 hbl hbA hS (vp_in_nI (show (i + 2) < L by omega) (by omega)) dL_law_536 ?_
      refine m_top (show xs (nI (i + 2)).toNatClampNeg = xs (i + 2) from by rw [nI_clamp (by omega)]) ?_
      refine lv_if_eq (tgt := 544) hx hb dL_law_537 (by decide) (fun _ => ?_) (fun cz => absurd hz9 cz)
      refine lv_iconst (v := 0) hx hb dL_law_544 (by decide) ?_
      refine law_mod (va_runV (As := [.int (xs (i + 1)), .int 0]) (rest := []) ⟨hx, hb, hml, hown, hts⟩ (k_X8_order l D ac _ (Am adm) adm sf af hL.2.2.2.1 no oc on_ owd rb st hJ.2.2.2.1 dl dw hJ.1 (xs (i + 1)) 0 (Or.inl rfl)) (cwV 2 hts gL_law_X8_order rfl rfl rfl (by decide +kernel) ⟨(Nat.le_of_ble_eq_true rfl), (Nat.le_of_ble_eq_true rfl)⟩) (pV hK (ci := 8) rfl (hL.2.2.2.1.cel (by omega) rfl)) rfl rfl hl.1 rfl (lv_room (Nat.le_of_ble_eq_true rfl)) dL_law_545 ⟨by omega, by omega⟩) hL hS (fun b w9 H locs hq hLm hS => ?_)
      obtain ⟨s1, a1, rfl, hs0, hcase⟩ := hq
      have hL := hLm _ _ rfl
      have hS9 := hcase.elim (fun q => q.2) (fun q => absurd q.1 hcode)
      have hJJ : JJ ac (22 + 6 * no) adr w s1 a1 (cn + 1) := ⟨_, _, _, _, _, _, _, _, _, _, _, _, _, _, _, _, _, _, _, _, _, _, _, _, _, _, _, _, _, _, _, hR, hJ.scr hS9 hcn, rfl⟩
      refine lv_istore (lv' := [(6, .int b), (5, .int r), (0, .ref b0), (1, .ref (adr 0)), (2, .ref (adm 0)), (3, .ref b9), (4, .int (nI i))]) hx hb dL_law_548 hl (by decide) rfl (fun ls hl => ?_)
      refine lv_aload_n hx hb dL_law_550 rfl (lv_at hl 4 rfl) ?_
      refine r_calli (va_runV (As := []) (rest := []) ⟨hx, hb, hml, hown, hts⟩ (k_X8_thrown l D ac _ (Am adm) adm s1 a1 hL.2.2.2.1) (cwV 0 hts gL_law_X8_thrown rfl rfl rfl (by decide +kernel) ⟨(Nat.le_of_ble_eq_true rfl), (Nat.le_of_ble_eq_true rfl)⟩) (pV hK (ci := 8) rfl (hL.2.2.2.1.cel (by omega) rfl)) rfl rfl hl.1 rfl (lv_room (Nat.le_of_ble_eq_true rfl)) dL_law_551 ⟨by omega, by omega⟩) hS (fun k9 locs hk9 hS => ?_)
      rw [hs0] at hk9
      refine lv_iload hx hb dL_law_554 (lv_at hl 1 rfl) ?_
      refine lv_icmp_eq (tgt := 561) hx hb dL_law_556 (by decide) (fun _ => ?_) (fun cq => absurd (hk9.trans hr0.symm) cq)
      refine lv_iload hx hb dL_law_561 (lv_at hl 1 rfl) ?_
      refine lv_if_ne (tgt := 578) hx hb dL_law_563 (by decide) (fun _ => ?_) (fun cq => absurd (hr0.symm.trans cq) (code_ne cd2_le hcode))
      refine lv_goto (tgt := 1900) hx hb dL_law_578 (by decide) ?_
      exact W.widen (k := c0 + 8) (n := s0 + 42) (by omega) (by omega) (K _ _ _ (⟨_, _, _, _, _, _, _, rfl, rfl, hL, hJJ⟩) hS (lv_sub hl [2, 3, 4, 5, 6] rfl))
  · refine lv_aload_n hx hb dL_law_497 rfl (lv_at hl 1 rfl) ?_
    refine lv_aload_n hx hb dL_law_498 rfl (lv_at hl 0 rfl) ?_
    refine lv_iload hx hb dL_law_499 (lv_at hl 4 rfl) ?_
    refine lv_iconst (v := 1) hx hb dL_law_501 (by decide) ?_
    refine lv_iadd hx hb dL_law_502 ?_
    refine m_top (show nI i + 1 = nI (i + 1) from by rw [show (1 : Int32) = nI 1 from rfl, nI_add]) ?_
    refine va_sld hx hb hX0 hbl hbA hS (vp_in_nI (show (i + 1) < L by omega) (by omega)) dL_law_503 ?_
    refine m_top (show xs (nI (i + 1)).toNatClampNeg = xs (i + 1) from by rw [nI_clamp (by omega)]) ?_
    refine lv_aload_n hx hb dL_law_504 rfl (lv_at hl 0 rfl) ?_
    refine lv_iload hx hb dL_law_505 (lv_at hl 4 rfl) ?_
    refine lv_iconst (v := 2) hx hb dL_law_507 (by decide) ?_
    refine lv_iadd hx hb dL_law_508 ?_
    refine m_top (show nI i + 2 = nI (i + 2) from by rw [show (2 : Int32) = nI 2 from rfl, nI_add]) ?_
    refine va_sld hx hb hX0 hbl hbA hS (vp_in_nI (show (i + 2) < L by omega) (by omega)) dL_law_509 ?_
    refine m_top (show xs (nI (i + 2)).toNatClampNeg = xs (i + 2) from by rw [nI_clamp (by omega)]) ?_
    refine lv_if_eq (tgt := 517) hx hb dL_law_510 (by decide) (fun cz => absurd cz hz9) (fun _ => ?_)
    refine lv_iconst (v := 1) hx hb dL_law_513 (by decide) ?_
    refine lv_goto (tgt := 518) hx hb dL_law_514 (by decide) ?_
    refine lv_aload_n hx hb dL_law_518 rfl (lv_at hl 3 rfl) ?_
    refine law_help (vx_runSW (hh := [(0, 10, 13, 13), (0, 10, 17, 15)]) (As := [.ref (adr 0), .int (xs (i + 1)), .int 1, .ref b9]) (rest := []) ⟨hx, hb, hml, hown, hts⟩ (kL_order l D ac _ (Ax (Lo s) adm) _ adr w b9 f hL.1 hL.2.1 hL.2.2.1 _ _ _ (xs (i + 1)) 1 _ (hL.1.cel (by omega) hR.1) (k_X7_order l D ac _ hlt (Abt (Ax (Lo s) adm) b9) (fun q hq => ⟨⟨Nat.le_trans hS.1 hq, fun j hj e9 => absurd (hL.2.2.2.1.lt hj) (by rw [← e9]; omega)⟩, fun e9 => absurd hL.2.1.lt (by rw [← e9]; omega)⟩) adr w dl dw fs fr ft ns so hv nd du T nr rq nq oq pd er no oc on_ owd obf rb st mt co py hd le pr ra hL.1 hR hJ.2.2.2.2.2.2.2.2.2.2.2.1.1 (xs (i + 1)) 1 (Or.inr rfl))) (vx_cwSW 4 hts gL_law_L_order rfl rfl rfl (by decide +kernel) ⟨(Nat.le_of_ble_eq_true rfl), (Nat.le_of_ble_eq_true rfl)⟩) (pSL hK ((hX.now hS).narrow (fun q h => h.1)) hC) rfl rfl hl.1 rfl (lv_room (Nat.le_of_ble_eq_true rfl)) dL_law_519 ⟨by omega, by omega⟩) hL hS (fun r u H locs hp hL hS => ?_)
    rcases hp with ⟨rfl, v, hPx, hv0⟩ | ⟨hr0, hcode, hu⟩
    · obtain ⟨N9, a9, w1, f1⟩ := u
      have hv0 : f1 0 = v.toInt64 := hv0
      obtain ⟨hN9, hP⟩ := hPx
      have hN8 : N9 = 22 + 6 * no + 6 := hN9
      subst hN8
      have ha0 : adr 0 = a9 0 := by obtain ⟨_, _, _, _, _, _, h9, _⟩ := hP; exact h9 0 (by omega)
      refine lv_istore (lv' := [(5, .int 0), (0, .ref b0), (1, .ref (adr 0)), (2, .ref (adm 0)), (3, .ref b9), (4, .int (nI i))]) hx hb dL_law_522 hl (by decide) rfl (fun ls hl => ?_)
      refine lv_aload_n hx hb dL_law_524 rfl (lv_at hl 3 rfl) ?_
      refine lv_aload_n hx hb dL_law_525 rfl (lv_at hl 1 rfl) ?_
      refine lv_iload hx hb dL_law_526 (lv_at hl 5 rfl) ?_
      refine lv_iconst (v := 1) hx hb dL_law_528 (by decide) ?_
      refine lv_iadd hx hb dL_law_529 ?_
      refine m_top (show nI i + 1 = nI (i + 1) from by rw [show (1 : Int32) = nI 1 from rfl, nI_add]) ?_
      refine va_sld hx hb hX0 hbl hbA hS (vp_in_nI (show (i + 1) < L by omega) (by omega)) dL_law_530 ?_
      refine m_top (show xs (nI (i + 1)).toNatClampNeg = xs (i + 1) from by rw [nI_clamp (by omega)]) ?_
      refine lv_aload_n hx hb dL_law_531 rfl (lv_at hl 1 rfl) ?_
      refine lv_iload hx hb dL_law_532 (lv_at hl 5 rfl) ?_
      refine lv_iconst (v := 2) hx hb dL_law_534 (by decide) ?_
      refine lv_iadd hx hb dL_law_535 ?_
      refine m_top (show nI i + 2 = nI (i + 2) from by rw [show (2 : Int32) = nI 2 from rfl, nI_add]) ?_
      refine va_sld hx hb hX0 hbl hbA hS (vp_in_nI (show (i + 2) < L by omega) (by omega)) dL_law_536 ?_
      refine m_top (show xs (nI (i + 2)).toNatClampNeg = xs (i + 2) from by rw [nI_clamp (by omega)]) ?_
      refine lv_if_eq (tgt := 544) hx hb dL_law_537 (by decide) (fun cz => absurd cz hz9) (fun _ => ?_)
      refine lv_iconst (v := 1) hx hb dL_law_540 (by decide) ?_
      refine lv_goto (tgt := 545) hx hb dL_law_541 (by decide) ?_
      refine law_mod (va_runV (As := [.int (xs (i + 1)), .int 1]) (rest := []) ⟨hx, hb, hml, hown, hts⟩ (k_X8_order l D ac _ (Am adm) adm sf af hL.2.2.2.1 no oc on_ owd rb st hJ.2.2.2.1 dl dw hJ.1 (xs (i + 1)) 1 (Or.inr rfl)) (cwV 2 hts gL_law_X8_order rfl rfl rfl (by decide +kernel) ⟨(Nat.le_of_ble_eq_true rfl), (Nat.le_of_ble_eq_true rfl)⟩) (pV hK (ci := 8) rfl (hL.2.2.2.1.cel (by omega) rfl)) rfl rfl hl.1 rfl (lv_room (Nat.le_of_ble_eq_true rfl)) dL_law_545 ⟨by omega, by omega⟩) hL hS (fun b w9 H locs hq hLm hS => ?_)
      obtain ⟨s1, a1, rfl, hs0, hcase⟩ := hq
      have hL := hLm _ _ rfl
      have hz0 := z_order (b := b) (cn := cn) (a1 := a1) (af := af) (s1 := s1) (sf := sf) hR hP
      rcases hcase with ⟨hne, -⟩ | ⟨-, hN⟩
      · exact absurd hz0 hne
      rw [hz0] at hs0
      obtain ⟨hrb, hJJ⟩ := t_order (Or.inr rfl) hR hJ hcn hP hN
      subst hrb
      refine lv_istore (lv' := [(6, .int v), (5, .int 0), (0, .ref b0), (1, .ref (adr 0)), (2, .ref (adm 0)), (3, .ref b9), (4, .int (nI i))]) hx hb dL_law_548 hl (by decide) rfl (fun ls hl => ?_)
      refine lv_aload_n hx hb dL_law_550 rfl (lv_at hl 4 rfl) ?_
      refine r_calli (va_runV (As := []) (rest := []) ⟨hx, hb, hml, hown, hts⟩ (k_X8_thrown l D ac _ (Am adm) adm s1 a1 hL.2.2.2.1) (cwV 0 hts gL_law_X8_thrown rfl rfl rfl (by decide +kernel) ⟨(Nat.le_of_ble_eq_true rfl), (Nat.le_of_ble_eq_true rfl)⟩) (pV hK (ci := 8) rfl (hL.2.2.2.1.cel (by omega) rfl)) rfl rfl hl.1 rfl (lv_room (Nat.le_of_ble_eq_true rfl)) dL_law_551 ⟨by omega, by omega⟩) hS (fun k9 locs hk9 hS => ?_)
      rw [hs0] at hk9
      refine lv_iload hx hb dL_law_554 (lv_at hl 1 rfl) ?_
      refine lv_icmp_eq (tgt := 561) hx hb dL_law_556 (by decide) (fun _ => ?_) (fun cq => absurd (hk9) cq)
      refine lv_iload hx hb dL_law_561 (lv_at hl 1 rfl) ?_
      refine lv_if_ne (tgt := 578) hx hb dL_law_563 (by decide) (fun cq => absurd rfl cq) (fun _ => ?_)
      refine lv_aload_n hx hb dL_law_566 rfl (lv_at hl 5 rfl) ?_
      refine lv_iconst (v := 0) hx hb dL_law_567 (by decide) ?_
      refine h_lald hx hb hK hL.2.1 dL_law_568 ?_
      refine m_topl (show f1 0 = v.toInt64 from hv0) ?_
      refine lv_iload hx hb dL_law_569 (lv_at hl 0 rfl) ?_
      refine lv_i2l (v := v.toInt64) hx hb dL_law_571 rfl ?_
      refine W.lcmp hx hb dL_law_572 ?_
      refine m_top (show lg_cmp v.toInt64 v.toInt64 = 0 from cmp_self) ?_
      refine lv_if_eq (tgt := 578) hx hb dL_law_573 (by decide) (fun _ => ?_) (fun cq => absurd rfl cq)
      refine lv_goto (tgt := 1900) hx hb dL_law_578 (by decide) ?_
      exact W.widen (k := c0 + 8) (n := s0 + 42) (by omega) (by omega) (K _ _ _ (⟨_, _, _, _, _, _, _, ha0, rfl, hL, hJJ⟩) hS (lv_sub hl [2, 3, 4, 5, 6] rfl))
    · subst hu
      refine lv_istore (lv' := [(5, .int r), (0, .ref b0), (1, .ref (adr 0)), (2, .ref (adm 0)), (3, .ref b9), (4, .int (nI i))]) hx hb dL_law_522 hl (by decide) rfl (fun ls hl => ?_)
      refine lv_aload_n hx hb dL_law_524 rfl (lv_at hl 3 rfl) ?_
      refine lv_aload_n hx hb dL_law_525 rfl (lv_at hl 1 rfl) ?_
      refine lv_iload hx hb dL_law_526 (lv_at hl 5 rfl) ?_
      refine lv_iconst (v := 1) hx hb dL_law_528 (by decide) ?_
      refine lv_iadd hx hb dL_law_529 ?_
      refine m_top (show nI i + 1 = nI (i + 1) from by rw [show (1 : Int32) = nI 1 from rfl, nI_add]) ?_
      refine va_sld hx hb hX0 hbl hbA hS (vp_in_nI (show (i + 1) < L by omega) (by omega)) dL_law_530 ?_
      refine m_top (show xs (nI (i + 1)).toNatClampNeg = xs (i + 1) from by rw [nI_clamp (by omega)]) ?_
      refine lv_aload_n hx hb dL_law_531 rfl (lv_at hl 1 rfl) ?_
      refine lv_iload hx hb dL_law_532 (lv_at hl 5 rfl) ?_
      refine lv_iconst (v := 2) hx hb dL_law_534 (by decide) ?_
      refine lv_iadd hx hb dL_law_535 ?_
      refine m_top (show nI i + 2 = nI (i + 2) from by rw [show (2 : Int32) = nI 2 from rfl, nI_add]) ?_
      refine va_sld hx hb hX0 hbl hbA hS (vp_in_nI (show (i + 2) < L by omega) (by omega)) dL_law_536 ?_
      refine m_top (show xs (nI (i + 2)).toNatClampNeg = xs (i + 2) from by rw [nI_clamp (by omega)]) ?_
      refine lv_if_eq (tgt := 544) hx hb dL_law_537 (by decide) (fun cz => absurd cz hz9) (fun _ => ?_)
      refine lv_iconst (v := 1) hx hb dL_law_540 (by decide) ?_
      refine lv_goto (tgt := 545) hx hb dL_law_541 (by decide) ?_
      refine law_mod (va_runV (As := [.int (xs (i + 1)), .int 1]) (rest := []) ⟨hx, hb, hml, hown, hts⟩ (k_X8_order l D ac _ (Am adm) adm sf af hL.2.2.2.1 no oc on_ owd rb st hJ.2.2.2.1 dl dw hJ.1 (xs (i + 1)) 1 (Or.inr rfl)) (cwV 2 hts gL_law_X8_order rfl rfl rfl (by decide +kernel) ⟨(Nat.le_of_ble_eq_true rfl), (Nat.le_of_ble_eq_true rfl)⟩) (pV hK (ci := 8) rfl (hL.2.2.2.1.cel (by omega) rfl)) rfl rfl hl.1 rfl (lv_room (Nat.le_of_ble_eq_true rfl)) dL_law_545 ⟨by omega, by omega⟩) hL hS (fun b w9 H locs hq hLm hS => ?_)
      obtain ⟨s1, a1, rfl, hs0, hcase⟩ := hq
      have hL := hLm _ _ rfl
      have hS9 := hcase.elim (fun q => q.2) (fun q => absurd q.1 hcode)
      have hJJ : JJ ac (22 + 6 * no) adr w s1 a1 (cn + 1) := ⟨_, _, _, _, _, _, _, _, _, _, _, _, _, _, _, _, _, _, _, _, _, _, _, _, _, _, _, _, _, _, _, hR, hJ.scr hS9 hcn, rfl⟩
      refine lv_istore (lv' := [(6, .int b), (5, .int r), (0, .ref b0), (1, .ref (adr 0)), (2, .ref (adm 0)), (3, .ref b9), (4, .int (nI i))]) hx hb dL_law_548 hl (by decide) rfl (fun ls hl => ?_)
      refine lv_aload_n hx hb dL_law_550 rfl (lv_at hl 4 rfl) ?_
      refine r_calli (va_runV (As := []) (rest := []) ⟨hx, hb, hml, hown, hts⟩ (k_X8_thrown l D ac _ (Am adm) adm s1 a1 hL.2.2.2.1) (cwV 0 hts gL_law_X8_thrown rfl rfl rfl (by decide +kernel) ⟨(Nat.le_of_ble_eq_true rfl), (Nat.le_of_ble_eq_true rfl)⟩) (pV hK (ci := 8) rfl (hL.2.2.2.1.cel (by omega) rfl)) rfl rfl hl.1 rfl (lv_room (Nat.le_of_ble_eq_true rfl)) dL_law_551 ⟨by omega, by omega⟩) hS (fun k9 locs hk9 hS => ?_)
      rw [hs0] at hk9
      refine lv_iload hx hb dL_law_554 (lv_at hl 1 rfl) ?_
      refine lv_icmp_eq (tgt := 561) hx hb dL_law_556 (by decide) (fun _ => ?_) (fun cq => absurd (hk9.trans hr0.symm) cq)
      refine lv_iload hx hb dL_law_561 (lv_at hl 1 rfl) ?_
      refine lv_if_ne (tgt := 578) hx hb dL_law_563 (by decide) (fun _ => ?_) (fun cq => absurd (hr0.symm.trans cq) (code_ne cd2_le hcode))
      refine lv_goto (tgt := 1900) hx hb dL_law_578 (by decide) ?_
      exact W.widen (k := c0 + 8) (n := s0 + 42) (by omega) (by omega) (K _ _ _ (⟨_, _, _, _, _, _, _, rfl, rfl, hL, hJJ⟩) hS (lv_sub hl [2, 3, 4, 5, 6] rfl))
set_option maxHeartbeats 4000000 in
set_option maxRecDepth 100000 in
/-- the law at a call of take -/
theorem lc_take {p : Program} {l : Launch} {e : Env} {s : State} {m : MethodId} {below : List Frame} {meth : Method} {c : Code} {b0 L : Nat} {xs : Nat → Int32} {D : va_G} {ac : Nat → ClassId} (E : LEn p l s m c b0 L xs D ac) {Q : State → Prop} {x9 m9 b9 cn i c0 s0 : Nat} {H : Heap} {locs : List Loc} {ls : Array Slot} (hI : LIv D ac s x9 m9 b9 cn H) (hS : va_S (Lo s) s.heap H locs) (hl : lv_has ls 7 [(0, .ref b0), (1, .ref x9), (2, .ref m9), (3, .ref b9), (4, .int (nI i))]) (hi : i + 5 ≤ L) (hcn : cn + 1 < 1000) (hc : c0 + 8 ≤ room_1.cells) (hs : s0 + 42 ≤ room_1.slots) (K : ∀ (H1 : Heap) (locs1 : List Loc) (ls1 : Array Slot), LIv D ac s x9 m9 b9 (cn + 1) H1 → va_S (Lo s) s.heap H1 locs1 → lv_has ls1 7 [(0, .ref b0), (1, .ref x9), (2, .ref m9), (3, .ref b9), (4, .int (nI i))] → W p l e room_1 s m #[Value.ref b0] below meth c H1 locs1 (c0 + 8) (s0 + 42) Q (F0 m 1900 ls1 [])) : W p l e room_1 s m #[Value.ref b0] below meth c H locs c0 s0 Q (F0 m 581 ls []) := by
  obtain ⟨hx, hb, hml, hown, hts, hlt, hK, hX, hC, hX0, hbl, hL9⟩ := E
  obtain ⟨N, adr, w, f, adm, sf, af, rfl, rfl, hL, dl, dw, fs, fr, ft, ns, so, hv, nd, du, T, nr, rq, nq, oq, pd, er, no, oc, on_, owd, obf, rb, st, mt, co, py, hd, le, pr, ra, hR, hJ, rfl⟩ := hI
  have hbA : ¬ Lo s b0 := Nat.not_le.mpr hbl
  refine lv_aload_n hx hb dL_law_581 rfl (lv_at hl 1 rfl) ?_
  refine lv_aload_n hx hb dL_law_582 rfl (lv_at hl 0 rfl) ?_
  refine lv_iload hx hb dL_law_583 (lv_at hl 4 rfl) ?_
  refine lv_iconst (v := 1) hx hb dL_law_585 (by decide) ?_
  refine lv_iadd hx hb dL_law_586 ?_
  refine m_top (show nI i + 1 = nI (i + 1) from by rw [show (1 : Int32) = nI 1 from rfl, nI_add]) ?_
  refine va_sld hx hb hX0 hbl hbA hS (vp_in_nI (show (i + 1) < L by omega) (by omega)) dL_law_587 ?_
  refine m_top (show xs (nI (i + 1)).toNatClampNeg = xs (i + 1) from by rw [nI_clamp (by omega)]) ?_
  refine lv_aload_n hx hb dL_law_588 rfl (lv_at hl 3 rfl) ?_
  refine law_help (vx_runSW (hh := [(0, 9, 12, 13), (0, 9, 15, 15)]) (As := [.ref (adr 0), .int (xs (i + 1)), .ref b9]) (rest := []) ⟨hx, hb, hml, hown, hts⟩ (kL_take l D ac _ (Ax (Lo s) adm) _ adr w b9 f hL.1 hL.2.1 hL.2.2.1 _ _ (xs (i + 1)) _ (hL.1.cel (by omega) hR.1) (k_X7_take l D ac _ hlt (Abt (Ax (Lo s) adm) b9) _ adr w hL.1 dl dw fs fr ft ns so hv nd du T nr rq nq oq pd er no oc on_ owd obf rb st mt co py hd le pr ra hR (Nat.le_refl _) (xs (i + 1)))) (vx_cwSW 3 hts gL_law_L_take rfl rfl rfl (by decide +kernel) ⟨(Nat.le_of_ble_eq_true rfl), (Nat.le_of_ble_eq_true rfl)⟩) (pSL hK ((hX.now hS).narrow (fun q h => h.1)) hC) rfl rfl hl.1 rfl (lv_room (Nat.le_of_ble_eq_true rfl)) dL_law_589 ⟨by omega, by omega⟩) hL hS (fun r u H locs hp hL hS => ?_)
  rcases hp with ⟨rfl, v, hPx, hv0⟩ | ⟨hr0, hcode, hu⟩
  · obtain ⟨N9, a9, w1, f1⟩ := u
    have hv0 : f1 0 = v.toInt64 := hv0
    obtain ⟨hN9, ha9, hP⟩ := hPx
    have hN8 : N9 = 22 + 6 * no := hN9
    have ha8 : adr = a9 := ha9.symm
    subst ha8
    subst hN8
    refine lv_istore (lv' := [(5, .int 0), (0, .ref b0), (1, .ref (adr 0)), (2, .ref (adm 0)), (3, .ref b9), (4, .int (nI i))]) hx hb dL_law_592 hl (by decide) rfl (fun ls hl => ?_)
    refine lv_aload_n hx hb dL_law_594 rfl (lv_at hl 3 rfl) ?_
    refine lv_aload_n hx hb dL_law_595 rfl (lv_at hl 1 rfl) ?_
    refine lv_iload hx hb dL_law_596 (lv_at hl 5 rfl) ?_
    refine lv_iconst (v := 1) hx hb dL_law_598 (by decide) ?_
    refine lv_iadd hx hb dL_law_599 ?_
    refine m_top (show nI i + 1 = nI (i + 1) from by rw [show (1 : Int32) = nI 1 from rfl, nI_add]) ?_
    refine va_sld hx hb hX0 hbl hbA hS (vp_in_nI (show (i + 1) < L by omega) (by omega)) dL_law_600 ?_
    refine m_top (show xs (nI (i + 1)).toNatClampNeg = xs (i + 1) from by rw [nI_clamp (by omega)]) ?_
    refine law_mod (va_runV (As := [.int (xs (i + 1))]) (rest := []) ⟨hx, hb, hml, hown, hts⟩ (k_X8_take l D ac _ (Am adm) adm sf af hL.2.2.2.1 no oc on_ owd rb st hJ.2.2.2.1 hd (han_eq hJ.2.2.2.1 hR.hin hJ.2.2.2.2.2.2.2.2.2.2.2.1) ns (fun i => oc (so i)) (fun i => on_ (so i)) (fun i => owd (so i)) (fun i => obf (so i)) hJ.2.2.1 le pr ra hJ.2.2.2.2.2.1.1 (xs (i + 1))) (cwV 1 hts gL_law_X8_take rfl rfl rfl (by decide +kernel) ⟨(Nat.le_of_ble_eq_true rfl), (Nat.le_of_ble_eq_true rfl)⟩) (pV hK (ci := 8) rfl (hL.2.2.2.1.cel (by omega) rfl)) rfl rfl hl.1 rfl (lv_room (Nat.le_of_ble_eq_true rfl)) dL_law_601 ⟨by omega, by omega⟩) hL hS (fun b w9 H locs hq hLm hS => ?_)
    obtain ⟨s1, a1, rfl, hs0, hcase⟩ := hq
    have hL := hLm _ _ rfl
    have hz0 := z_take (b := b) (cn := cn) (a1 := a1) (af := af) (s1 := s1) (sf := sf) hR hP
    rcases hcase with ⟨hne, -⟩ | ⟨-, hN⟩
    · exact absurd hz0 hne
    rw [hz0] at hs0
    obtain ⟨hrb, hJJ⟩ := t_take hR hJ hcn hP hN
    subst hrb
    refine lv_istore (lv' := [(6, .int v), (5, .int 0), (0, .ref b0), (1, .ref (adr 0)), (2, .ref (adm 0)), (3, .ref b9), (4, .int (nI i))]) hx hb dL_law_604 hl (by decide) rfl (fun ls hl => ?_)
    refine lv_aload_n hx hb dL_law_606 rfl (lv_at hl 4 rfl) ?_
    refine r_calli (va_runV (As := []) (rest := []) ⟨hx, hb, hml, hown, hts⟩ (k_X8_thrown l D ac _ (Am adm) adm s1 a1 hL.2.2.2.1) (cwV 0 hts gL_law_X8_thrown rfl rfl rfl (by decide +kernel) ⟨(Nat.le_of_ble_eq_true rfl), (Nat.le_of_ble_eq_true rfl)⟩) (pV hK (ci := 8) rfl (hL.2.2.2.1.cel (by omega) rfl)) rfl rfl hl.1 rfl (lv_room (Nat.le_of_ble_eq_true rfl)) dL_law_607 ⟨by omega, by omega⟩) hS (fun k9 locs hk9 hS => ?_)
    rw [hs0] at hk9
    refine lv_iload hx hb dL_law_610 (lv_at hl 1 rfl) ?_
    refine lv_icmp_eq (tgt := 617) hx hb dL_law_612 (by decide) (fun _ => ?_) (fun cq => absurd (hk9) cq)
    refine lv_iload hx hb dL_law_617 (lv_at hl 1 rfl) ?_
    refine lv_if_ne (tgt := 634) hx hb dL_law_619 (by decide) (fun cq => absurd rfl cq) (fun _ => ?_)
    refine lv_aload_n hx hb dL_law_622 rfl (lv_at hl 5 rfl) ?_
    refine lv_iconst (v := 0) hx hb dL_law_623 (by decide) ?_
    refine h_lald hx hb hK hL.2.1 dL_law_624 ?_
    refine m_topl (show f1 0 = v.toInt64 from hv0) ?_
    refine lv_iload hx hb dL_law_625 (lv_at hl 0 rfl) ?_
    refine lv_i2l (v := v.toInt64) hx hb dL_law_627 rfl ?_
    refine W.lcmp hx hb dL_law_628 ?_
    refine m_top (show lg_cmp v.toInt64 v.toInt64 = 0 from cmp_self) ?_
    refine lv_if_eq (tgt := 634) hx hb dL_law_629 (by decide) (fun _ => ?_) (fun cq => absurd rfl cq)
    refine lv_goto (tgt := 1900) hx hb dL_law_634 (by decide) ?_
    exact W.widen (k := c0 + 8) (n := s0 + 42) (by omega) (by omega) (K _ _ _ (⟨_, _, _, _, _, _, _, rfl, rfl, hL, hJJ⟩) hS (lv_sub hl [2, 3, 4, 5, 6] rfl))
  · subst hu
    refine lv_istore (lv' := [(5, .int r), (0, .ref b0), (1, .ref (adr 0)), (2, .ref (adm 0)), (3, .ref b9), (4, .int (nI i))]) hx hb dL_law_592 hl (by decide) rfl (fun ls hl => ?_)
    refine lv_aload_n hx hb dL_law_594 rfl (lv_at hl 3 rfl) ?_
    refine lv_aload_n hx hb dL_law_595 rfl (lv_at hl 1 rfl) ?_
    refine lv_iload hx hb dL_law_596 (lv_at hl 5 rfl) ?_
    refine lv_iconst (v := 1) hx hb dL_law_598 (by decide) ?_
    refine lv_iadd hx hb dL_law_599 ?_
    refine m_top (show nI i + 1 = nI (i + 1) from by rw [show (1 : Int32) = nI 1 from rfl, nI_add]) ?_
    refine va_sld hx hb hX0 hbl hbA hS (vp_in_nI (show (i + 1) < L by omega) (by omega)) dL_law_600 ?_
    refine m_top (show xs (nI (i + 1)).toNatClampNeg = xs (i + 1) from by rw [nI_clamp (by omega)]) ?_
    refine law_mod (va_runV (As := [.int (xs (i + 1))]) (rest := []) ⟨hx, hb, hml, hown, hts⟩ (k_X8_take l D ac _ (Am adm) adm sf af hL.2.2.2.1 no oc on_ owd rb st hJ.2.2.2.1 hd (han_eq hJ.2.2.2.1 hR.hin hJ.2.2.2.2.2.2.2.2.2.2.2.1) ns (fun i => oc (so i)) (fun i => on_ (so i)) (fun i => owd (so i)) (fun i => obf (so i)) hJ.2.2.1 le pr ra hJ.2.2.2.2.2.1.1 (xs (i + 1))) (cwV 1 hts gL_law_X8_take rfl rfl rfl (by decide +kernel) ⟨(Nat.le_of_ble_eq_true rfl), (Nat.le_of_ble_eq_true rfl)⟩) (pV hK (ci := 8) rfl (hL.2.2.2.1.cel (by omega) rfl)) rfl rfl hl.1 rfl (lv_room (Nat.le_of_ble_eq_true rfl)) dL_law_601 ⟨by omega, by omega⟩) hL hS (fun b w9 H locs hq hLm hS => ?_)
    obtain ⟨s1, a1, rfl, hs0, hcase⟩ := hq
    have hL := hLm _ _ rfl
    have hS9 := hcase.elim (fun q => q.2) (fun q => absurd q.1 hcode)
    have hJJ : JJ ac (22 + 6 * no) adr w s1 a1 (cn + 1) := ⟨_, _, _, _, _, _, _, _, _, _, _, _, _, _, _, _, _, _, _, _, _, _, _, _, _, _, _, _, _, _, _, hR, hJ.scr hS9 hcn, rfl⟩
    refine lv_istore (lv' := [(6, .int b), (5, .int r), (0, .ref b0), (1, .ref (adr 0)), (2, .ref (adm 0)), (3, .ref b9), (4, .int (nI i))]) hx hb dL_law_604 hl (by decide) rfl (fun ls hl => ?_)
    refine lv_aload_n hx hb dL_law_606 rfl (lv_at hl 4 rfl) ?_
    refine r_calli (va_runV (As := []) (rest := []) ⟨hx, hb, hml, hown, hts⟩ (k_X8_thrown l D ac _ (Am adm) adm s1 a1 hL.2.2.2.1) (cwV 0 hts gL_law_X8_thrown rfl rfl rfl (by decide +kernel) ⟨(Nat.le_of_ble_eq_true rfl), (Nat.le_of_ble_eq_true rfl)⟩) (pV hK (ci := 8) rfl (hL.2.2.2.1.cel (by omega) rfl)) rfl rfl hl.1 rfl (lv_room (Nat.le_of_ble_eq_true rfl)) dL_law_607 ⟨by omega, by omega⟩) hS (fun k9 locs hk9 hS => ?_)
    rw [hs0] at hk9
    refine lv_iload hx hb dL_law_610 (lv_at hl 1 rfl) ?_
    refine lv_icmp_eq (tgt := 617) hx hb dL_law_612 (by decide) (fun _ => ?_) (fun cq => absurd (hk9.trans hr0.symm) cq)
    refine lv_iload hx hb dL_law_617 (lv_at hl 1 rfl) ?_
    refine lv_if_ne (tgt := 634) hx hb dL_law_619 (by decide) (fun _ => ?_) (fun cq => absurd (hr0.symm.trans cq) (code_ne cd2_le hcode))
    refine lv_goto (tgt := 1900) hx hb dL_law_634 (by decide) ?_
    exact W.widen (k := c0 + 8) (n := s0 + 42) (by omega) (by omega) (K _ _ _ (⟨_, _, _, _, _, _, _, rfl, rfl, hL, hJJ⟩) hS (lv_sub hl [2, 3, 4, 5, 6] rfl))
