theorem lsub_lt {L i : Nat} (hL : L ≤ 2560) (hi : i ≤ 4000) (h : ¬ nI L - 5 < nI i) : i + 5 ≤ L := by
  by_cases h5 : 5 ≤ L
  · have e : nI L - 5 = nI (L - 5) := pk_sub (b := 5) h5
    rw [e] at h
    have := nlt_le h (by omega) (by omega)
    omega
  · exfalso
    have h1 : (nI L - 5).toInt < 0 := by
      have h6 : L = 0 ∨ L = 1 ∨ L = 2 ∨ L = 3 ∨ L = 4 := by omega
      rcases h6 with rfl | rfl | rfl | rfl | rfl <;> decide
    have h2 : (nI i).toInt = (i : Int) := nI_toInt (by omega)
    exact h (Int32.lt_iff_toInt_lt.mpr (by omega))
theorem and31 (x : Int32) : ∃ n, n < 32 ∧ x &&& 31 = nI n := by
  refine ⟨(x &&& 31).toBitVec.toNat, ?_, ?_⟩
  · have h : (x &&& 31).toBitVec.toNat ≤ 31 := by
      rw [Int32.toBitVec_and, BitVec.toNat_and]
      exact Nat.and_le_right
    omega
  · apply Int32.toBitVec_inj.mp
    show (x &&& 31).toBitVec = BitVec.ofNat 32 (x &&& 31).toBitVec.toNat
    rw [BitVec.ofNat_toNat]
    exact (BitVec.setWidth_eq _).symm
theorem Scr.rf {sf : Nat → Int32} {af : Nat → Nat → Int32} : Scr sf af sf af := ⟨fun _ _ _ => rfl, fun _ _ _ => rfl⟩
theorem LIv.skip {D : va_G} {ac : Nat → ClassId} {s : State} {x9 m9 b9 cn : Nat} {H : Heap} (h : LIv D ac s x9 m9 b9 cn H) (hc : cn + 1 < 1000) : LIv D ac s x9 m9 b9 (cn + 1) H := by
  obtain ⟨N, adr, w, f, adm, sf, af, h1, h2, hL, dl, dw, fs, fr, ft, ns, so, hv, nd, du, T, nr, rq, nq, oq, pd, er, no, oc, on_, owd, obf, rb, st, mt, co, py, hd, le, pr, ra, hR, hJ, e⟩ := h
  exact ⟨N, adr, w, f, adm, sf, af, h1, h2, hL, _, _, _, _, _, _, _, _, _, _, _, _, _, _, _, _, _, _, _, _, _, _, _, _, _, _, _, _, _, _, _, hR, hJ.scr Scr.rf hc, e⟩
set_option maxHeartbeats 4000000 in
set_option maxRecDepth 100000 in
/-- the law's loop -/
theorem law_loop {p : Program} {l : Launch} {e : Env} {s : State} {m : MethodId} {below : List Frame} {meth : Method} {c : Code} {b0 L : Nat} {xs : Nat → Int32} {D : va_G} {ac : Nat → ClassId} (E : LEn p l s m c b0 L xs D ac) (hr : meth.sig.returnType = ret) (hlocks : meth.locks = false) {x9 m9 b9 : Nat} : ∀ (k9 cn i c0 s0 : Nat) (H : Heap) (locs : List Loc) (ls : Array Slot), LIv D ac s x9 m9 b9 cn H → va_S (Lo s) s.heap H locs → lv_has ls 7 [(0, .ref b0), (1, .ref x9), (2, .ref m9), (3, .ref b9), (4, .int (nI i))] → i = 5 * cn → i ≤ 2600 → 2700 < i + 5 * k9 → c0 ≤ 47 + 8 * cn → s0 ≤ 4700 + 42 * cn → W p l e room_1 s m #[Value.ref b0] below meth c H locs c0 s0 (lw_Z below #[Value.ref b0] s) (F0 m 23 ls []) := by
  intro k9
  induction k9 with
  | zero => intro cn i c0 s0 H locs ls hI hS hl hi0 hi1 hk9; omega
  | succ k9 ih9 =>
    intro cn i c0 s0 H locs ls hI hS hl hi0 hi1 hk9 hc0 hs0
    have E0 := E
    obtain ⟨hx, hb, hml, hown, hts, hlt, hK, hX, hC, hX0, hbl, hL9⟩ := E0
    have hbA : ¬ Lo s b0 := Nat.not_le.mpr hbl
    have rc : room_1.cells = 678713 := rfl
    have rs : room_1.slots = 7059965 := rfl
    refine lv_iload hx hb dL_law_23 (lv_at hl 4 rfl) ?_
    refine lv_aload_n hx hb dL_law_25 rfl (lv_at hl 0 rfl) ?_
    refine va_slen hx hb hX0 hbl hbA hS dL_law_26 ?_
    refine lv_iconst (v := 5) hx hb dL_law_27 (by decide) ?_
    refine lv_isub hx hb dL_law_28 ?_
    refine lv_icmp_gt (tgt := 1906) hx hb dL_law_29 (by decide) (fun _ => ?_) (fun cl9 => ?_)
    · refine lv_iconst (v := 1) hx hb dL_law_1906 (by decide) ?_
      exact va_forget hS.2.2 (W.widen (k := 678713) (n := 7059965) (by omega) (by omega) (lw_ret hx hb hr hlocks dL_law_1907))
    · have hi5 : i + 5 ≤ L := lsub_lt hL9 (by omega) cl9
      have hcn : cn + 1 < 1000 := by omega
      have K : ∀ (H1 : Heap) (locs1 : List Loc) (ls1 : Array Slot), LIv D ac s x9 m9 b9 (cn + 1) H1 → va_S (Lo s) s.heap H1 locs1 → lv_has ls1 7 [(0, .ref b0), (1, .ref x9), (2, .ref m9), (3, .ref b9), (4, .int (nI i))] → W p l e room_1 s m #[Value.ref b0] below meth c H1 locs1 (c0 + 8) (s0 + 42) (lw_Z below #[Value.ref b0] s) (F0 m 1900 ls1 []) := fun H1 locs1 ls1 hI1 hS1 hl1 => by
        refine lv_iinc (v := nI (i + 5)) (lv' := [(4, .int (nI (i + 5))), (0, .ref b0), (1, .ref x9), (2, .ref m9), (3, .ref b9)]) hx hb dL_law_1900 hl1 (k := 4) rfl (nI_add i 5) (by decide) rfl (fun ls hl => ?_)
        refine lv_goto (tgt := 23) hx hb dL_law_1903 (by decide) ?_
        exact ih9 (cn + 1) (i + 5) (c0 + 8) (s0 + 42) H1 locs1 ls hI1 hS1 (lv_sub hl [1, 2, 3, 4, 0] rfl) (by omega) (by omega) (by omega) (by omega) (by omega)
      have hc9 : c0 + 8 ≤ room_1.cells := by omega
      have hs9 : s0 + 42 ≤ room_1.slots := by omega
      clear ih9
      refine lv_aload_n hx hb dL_law_32 rfl (lv_at hl 0 rfl) ?_
      refine lv_iload hx hb dL_law_33 (lv_at hl 4 rfl) ?_
      refine va_sld hx hb hX0 hbl hbA hS (vp_in_nI (show i < L by omega) (by omega)) dL_law_35 ?_
      refine lv_bipush (v := 31) hx hb dL_law_36 (by decide) ?_
      refine lv_iand hx hb dL_law_38 ?_
      obtain ⟨n9, hn9, en9⟩ := and31 (xs (nI i).toNatClampNeg)
      refine m_top (show xs (nI i).toNatClampNeg &&& 31 = nI n9 from en9) ?_
      clear en9
      have hn9 : n9 = 0 ∨ n9 = 1 ∨ n9 = 2 ∨ n9 = 3 ∨ n9 = 4 ∨ n9 = 5 ∨ n9 = 6 ∨ n9 = 7 ∨ n9 = 8 ∨ n9 = 9 ∨ n9 = 10 ∨ n9 = 11 ∨ n9 = 12 ∨ n9 = 13 ∨ n9 = 14 ∨ n9 = 15 ∨ n9 = 16 ∨ n9 = 17 ∨ n9 = 18 ∨ n9 = 19 ∨ n9 = 20 ∨ n9 = 21 ∨ n9 = 22 ∨ n9 = 23 ∨ n9 = 24 ∨ n9 = 25 ∨ n9 = 26 ∨ n9 = 27 ∨ n9 = 28 ∨ n9 = 29 ∨ n9 = 30 ∨ n9 = 31 := by omega
      rcases hn9 with rfl | rfl | rfl | rfl | rfl | rfl | rfl | rfl | rfl | rfl | rfl | rfl | rfl | rfl | rfl | rfl | rfl | rfl | rfl | rfl | rfl | rfl | rfl | rfl | rfl | rfl | rfl | rfl | rfl | rfl | rfl | rfl
      · exact lv_tableIn (x := nI 0) (off := 137) (tgt := 176) hx hb dL_law_39 (by decide) (by decide) (by decide +kernel) (by decide) (lc_word E hI hS hl hi5 hcn hc9 hs9 K)
      · exact lv_tableIn (x := nI 1) (off := 193) (tgt := 232) hx hb dL_law_39 (by decide) (by decide) (by decide +kernel) (by decide) (lc_clear E hI hS hl hi5 hcn hc9 hs9 K)
      · exact lv_tableIn (x := nI 2) (off := 206) (tgt := 245) hx hb dL_law_39 (by decide) (by decide) (by decide +kernel) (by decide) (lc_likeness E hI hS hl hi5 hcn hc9 hs9 K)
      · exact lv_tableIn (x := nI 3) (off := 262) (tgt := 301) hx hb dL_law_39 (by decide) (by decide) (by decide +kernel) (by decide) (lc_best E hI hS hl hi5 hcn hc9 hs9 K)
      · exact lv_tableIn (x := nI 4) (off := 318) (tgt := 357) hx hb dL_law_39 (by decide) (by decide) (by decide +kernel) (by decide) (lc_bestByAll E hI hS hl hi5 hcn hc9 hs9 K)
      · exact lv_tableIn (x := nI 5) (off := 374) (tgt := 413) hx hb dL_law_39 (by decide) (by decide) (by decide +kernel) (by decide) (lc_cost E hI hS hl hi5 hcn hc9 hs9 K)
      · exact lv_tableIn (x := nI 6) (off := 458) (tgt := 497) hx hb dL_law_39 (by decide) (by decide) (by decide +kernel) (by decide) (lc_order E hI hS hl hi5 hcn hc9 hs9 K)
      · exact lv_tableIn (x := nI 7) (off := 542) (tgt := 581) hx hb dL_law_39 (by decide) (by decide) (by decide +kernel) (by decide) (lc_take E hI hS hl hi5 hcn hc9 hs9 K)
      · exact lv_tableIn (x := nI 8) (off := 598) (tgt := 637) hx hb dL_law_39 (by decide) (by decide) (by decide +kernel) (by decide) (lc_giveBack E hI hS hl hi5 hcn hc9 hs9 K)
      · exact lv_tableIn (x := nI 9) (off := 654) (tgt := 693) hx hb dL_law_39 (by decide) (by decide) (by decide +kernel) (by decide) (lc_translate E hI hS hl hi5 hcn hc9 hs9 K)
      · exact lv_tableIn (x := nI 10) (off := 734) (tgt := 773) hx hb dL_law_39 (by decide) (by decide) (by decide +kernel) (by decide) (lc_deliver E hI hS hl hi5 hcn hc9 hs9 K)
      · exact lv_tableIn (x := nI 11) (off := 790) (tgt := 829) hx hb dL_law_39 (by decide) (by decide) (by decide +kernel) (by decide) (lc_why E hI hS hl hi5 hcn hc9 hs9 K)
      · exact lv_tableIn (x := nI 12) (off := 846) (tgt := 885) hx hb dL_law_39 (by decide) (by decide) (by decide +kernel) (by decide) (lc_wherefore E hI hS hl hi5 hcn hc9 hs9 K)
      · exact lv_tableIn (x := nI 13) (off := 902) (tgt := 941) hx hb dL_law_39 (by decide) (by decide) (by decide +kernel) (by decide) (lc_became E hI hS hl hi5 hcn hc9 hs9 K)
      · exact lv_tableIn (x := nI 14) (off := 970) (tgt := 1009) hx hb dL_law_39 (by decide) (by decide) (by decide +kernel) (by decide) (lc_match E hI hS hl hi5 hcn hc9 hs9 K)
      · exact lv_tableIn (x := nI 15) (off := 1026) (tgt := 1065) hx hb dL_law_39 (by decide) (by decide) (by decide +kernel) (by decide) (lc_waiting E hI hS hl hi5 hcn hc9 hs9 K)
      · exact lv_tableIn (x := nI 16) (off := 1067) (tgt := 1106) hx hb dL_law_39 (by decide) (by decide) (by decide +kernel) (by decide) (lc_orderAt E hI hS hl hi5 hcn hc9 hs9 K)
      · exact lv_tableIn (x := nI 17) (off := 1123) (tgt := 1162) hx hb dL_law_39 (by decide) (by decide) (by decide +kernel) (by decide) (lc_say E hI hS hl hi5 hcn hc9 hs9 K)
      · exact lv_tableIn (x := nI 18) (off := 1215) (tgt := 1254) hx hb dL_law_39 (by decide) (by decide) (by decide +kernel) (by decide) (lc_ruling E hI hS hl hi5 hcn hc9 hs9 K)
      · exact lv_tableIn (x := nI 19) (off := 1283) (tgt := 1322) hx hb dL_law_39 (by decide) (by decide) (by decide +kernel) (by decide) (lc_sold E hI hS hl hi5 hcn hc9 hs9 K)
      · exact lv_tableIn (x := nI 20) (off := 1296) (tgt := 1335) hx hb dL_law_39 (by decide) (by decide) (by decide +kernel) (by decide) (lc_clientOf E hI hS hl hi5 hcn hc9 hs9 K)
      · exact lv_tableIn (x := nI 21) (off := 1352) (tgt := 1391) hx hb dL_law_39 (by decide) (by decide) (by decide +kernel) (by decide) (lc_wordOf E hI hS hl hi5 hcn hc9 hs9 K)
      · exact lv_tableIn (x := nI 22) (off := 1420) (tgt := 1459) hx hb dL_law_39 (by decide) (by decide) (by decide +kernel) (by decide) (lc_becameOf E hI hS hl hi5 hcn hc9 hs9 K)
      · exact lv_tableIn (x := nI 23) (off := 1488) (tgt := 1527) hx hb dL_law_39 (by decide) (by decide) (by decide +kernel) (by decide) (lc_isDue E hI hS hl hi5 hcn hc9 hs9 K)
      · exact lv_tableIn (x := nI 24) (off := 1551) (tgt := 1590) hx hb dL_law_39 (by decide) (by decide) (by decide +kernel) (by decide) (lc_due E hI hS hl hi5 hcn hc9 hs9 K)
      · exact lv_tableIn (x := nI 25) (off := 1564) (tgt := 1603) hx hb dL_law_39 (by decide) (by decide) (by decide +kernel) (by decide) (lc_dueAt E hI hS hl hi5 hcn hc9 hs9 K)
      · exact lv_tableIn (x := nI 26) (off := 1620) (tgt := 1659) hx hb dL_law_39 (by decide) (by decide) (by decide +kernel) (by decide) (lc_mend E hI hS hl hi5 hcn hc9 hs9 K)
      · exact lv_tableIn (x := nI 27) (off := 1676) (tgt := 1715) hx hb dL_law_39 (by decide) (by decide) (by decide +kernel) (by decide) (lc_setPrices E hI hS hl hi5 hcn hc9 hs9 K)
      · exact lv_tableIn (x := nI 28) (off := 1736) (tgt := 1775) hx hb dL_law_39 (by decide) (by decide) (by decide +kernel) (by decide) (lc_paid E hI hS hl hi5 hcn hc9 hs9 K)
      · exact lv_tableIn (x := nI 29) (off := 1792) (tgt := 1831) hx hb dL_law_39 (by decide) (by decide) (by decide +kernel) (by decide) (lc_earned E hI hS hl hi5 hcn hc9 hs9 K)
      · exact lv_tableIn (x := nI 30) (off := 1848) (tgt := 1887) hx hb dL_law_39 (by decide) (by decide) (by decide +kernel) (by decide) (lc_purse E hI hS hl hi5 hcn hc9 hs9 K)
      · exact lv_tableOut (x := nI 31) (tgt := 1900) hx hb dL_law_39 (by decide) (by decide) (W.widen (k := c0 + 8) (n := s0 + 42) (by omega) (by omega) (K _ _ _ (hI.skip hcn) hS hl))
