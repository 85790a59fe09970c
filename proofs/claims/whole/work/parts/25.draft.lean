theorem dra_push {ac : Nat → ClassId} {adr : Nat → Nat} {w : Nat → va_E} {dl k : Nat} {dw : Nat → Nat} (h : DraW ac adr w dl dw) (hl : dl < 8) (hk : k < 50) : DraW ac adr (va_up (va_up w 2 (.inl (ac 0, 8, .inl (fun j => nI (va_up dw dl k j))))) 1 (.inr (4, [.ref (adr 2), .int (nI (dl + 1))]))) (dl + 1) (va_up dw dl k) := by
  refine ⟨va_up_self _ _ _, by rw [va_up_ne _ _ (by decide)]; exact va_up_self _ _ _, by omega, fun j hj => ?_⟩
  by_cases e : j = dl
  · rw [e, va_up_self]; exact hk
  · rw [va_up_ne _ _ e]; exact h.2.2.2 j (by omega)
theorem dra_clear {ac : Nat → ClassId} {adr : Nat → Nat} {w : Nat → va_E} {dl : Nat} {dw : Nat → Nat} (h : DraW ac adr w dl dw) : DraW ac adr (va_up w 1 (.inr (4, [.ref (adr 2), .int (nI 0)]))) 0 dw := by
  refine ⟨va_up_self _ _ _, by rw [va_up_ne _ _ (by decide)]; exact h.2.1, by omega, fun j hj => by omega⟩
set_option maxHeartbeats 4000000 in
set_option maxRecDepth 100000 in
/-- word -/
theorem k_X7_word (l : Launch) (D : va_G) (ac : Nat → ClassId) (H : Heap) (hlt : l.stackTraces = false) (A : Nat → Prop) (N : Nat) (adr : Nat → Nat) (w : Nat → va_E) (hM : MW D A N adr w H) (dl : Nat) (dw : Nat → Nat) (fs : Nat → Int32) (fr : Nat → Int32) (ft : Nat → Nat) (ns : Nat) (so : Nat → Nat) (hv : Nat → Int64) (nd : Nat) (du : Nat → Nat) (T : Nat → Int32) (nr : Nat) (rq : Nat → Nat) (nq : Nat) (oq : Nat → Nat) (pd : Nat → Int32) (er : Nat → Int32) (no : Nat) (oc : Nat → Nat) (on_ : Nat → Nat) (owd : Nat → Nat → Nat) (obf : Nat → Nat → Int32) (rb : Nat → Int32) (st : Nat → Int32) (mt : Nat → Int32) (co : Nat → Int32) (py : Nat → Int32) (hd : Nat → Option Nat) (le : Int32) (pr : Int32) (ra : Int32) (hR : HR ac adr w dl dw fs fr ft ns so hv nd du T nr rq nq oq pd er no oc on_ owd obf rb st mt co py hd le pr ra) (hN : 22 + 6 * no ≤ N) (x : Int32) : WXi l yX7_word wsX7_word ({ frames := 6, cells := 1, slots := 6, locals := 89 }) [.ref (adr 0), .int x] D ac H A N adr w (fun r w1 => ∃ k, x = nI k ∧ k < 50 ∧ dl < 8 ∧ r = nI (dl + 1) ∧ HR ac adr w1 (dl + 1) (va_up dw dl k) fs fr ft ns so hv nd du T nr rq nq oq pd er no oc on_ owd obf rb st mt co py hd le pr ra) (XC2 xIA xIS (cd2 (ix x 50).isNone (decide (dl = 8)))) 1 6 := by
  refine vx_ofW (cc := cX7_word) (maxL := 2) (ret := (some .int)) (by decide) rfl ?_
  intro p e s m args below meth c s₁ B hml hout hv
  obtain ⟨hargs, hsz, hK, hX⟩ := hv
  have hx := B.exec
  have hb := B.bytes
  have hr := B.returns
  have hts := atoms_spec (ws := wsX7_word) B.pre
  have hown : s.vm.findClass RX7 = some m.cls := findClass_of_methodNamed B.named
  have hlocks := B.notSynchronized
  subst hsz
  have inX4_ : ∀ w ∈ wsX40, w ∈ wsX7_word := by decide +kernel
  have inX7_ : ∀ w ∈ wsX70, w ∈ wsX7_word := by decide +kernel
  have hgIA_ : ∀ w ∈ (vx_at0 RX7 71 xIA xNames).filter goodWord, w ∈ wsX7_word := by decide +kernel
  have hgIS_ : ∀ w ∈ (vx_at0 RX7 77 xIS xNames).filter goodWord, w ∈ wsX7_word := by decide +kernel
  have hS : va_S A s.heap s.heap [] := va_S.rf
  have hl := lv_entry ([.ref (adr 0), .int x]) (n := 2) (Nat.le_of_ble_eq_true rfl)
  have hen := lg_entry_eq m [.ref (adr 0), .int x] 2
  rw [← hargs] at hen
  rw [hen]
  generalize (lg_sl ([.ref (adr 0), .int x]) ++ List.replicate (2 - (lg_sl ([.ref (adr 0), .int x])).length) Slot.unset).toArray = ls at hl ⊢
  have hl : lv_has ls 2 [(0, .ref (adr 0)), (1, .int x)] := hl
  obtain ⟨h0, hdr, hru, hm, hS1, hO1, hde, hha, hmo, hin_⟩ := id hR
  refine lv_iload_n hx hb dX7_word_0 rfl (lv_at hl 1 rfl) ?_
  refine lv_if_lt (tgt := 10) hx hb dX7_word_1 (by decide) (fun c1 => ?_) (fun c1 => ?_)
  · exact x_throw hx hb hlt hlocks hout hown (by decide) (hts _ (by decide +kernel)) (hts _ (by decide +kernel)) (fun w hw => hts w (hgIA_ w hw)) ng_IA ot_IA hX hM hS (hl.1.trans hml.symm) dX7_word_10 dX7_word_13 dX7_word_14 dX7_word_17 (Nat.le_of_ble_eq_true rfl) (Nat.le_of_ble_eq_true rfl) (Nat.le_of_ble_eq_true rfl) (Nat.le_of_ble_eq_true rfl) (Nat.le_of_ble_eq_true rfl) (Nat.le_of_ble_eq_true rfl) (Or.inl ⟨rfl, cd2_1 (ixn (n := 50) (by first | exact Or.inl c1 | exact Or.inr (le_of_nlt c7)))⟩)
  · refine lv_iload_n hx hb dX7_word_4 rfl (lv_at hl 1 rfl) ?_
    refine lv_bipush (v := 50) hx hb dX7_word_5 (by decide) ?_
    refine lv_icmp_lt (tgt := 18) hx hb dX7_word_7 (by decide) (fun c7 => ?_) (fun c7 => ?_)
    · obtain ⟨k9, hk_k9, ex_k9⟩ := ixk (n := 50) c1 (nle_of_lt c7) (by decide)
      subst ex_k9
      refine lv_aload_n hx hb dX7_word_18 rfl (lv_at hl 0 rfl) ?_
      refine m_get (ci := 7) (C := RX7) (T := TX7) (n := 13) (v := .ref (adr 1)) hx hb hts inX7_ hown hK rfl (hM.cel (by omega) h0) 0 (by decide) (hts _ (by decide +kernel)) rfl dX7_word_19 ?_
      refine m_getN (host := RX7) (ci := 4) (C := RX4) (T := TX4) (n := 2) (v := .int (nI dl)) hx hb hts inX4_ hown hK rfl (hM.cel (by omega) hdr.1) 1 (by decide) 3 rfl rfl dX7_word_22 ?_
      refine lv_bipush (v := 8) hx hb dX7_word_25 (by decide) ?_
      refine lv_icmp_lt (tgt := 38) hx hb dX7_word_27 (by decide) (fun c27 => ?_) (fun c27 => ?_)
      · have hdl8 : dl < 8 := lt_lt (b := 8) c27 (by have := hdr.2.2.1; omega) (by omega)
        refine lv_aload_n hx hb dX7_word_38 rfl (lv_at hl 0 rfl) ?_
        refine m_get (ci := 7) (C := RX7) (T := TX7) (n := 13) (v := .ref (adr 1)) hx hb hts inX7_ hown hK rfl (hM.cel (by omega) h0) 0 (by decide) (hts _ (by decide +kernel)) rfl dX7_word_39 ?_
        refine lv_iload_n hx hb dX7_word_42 rfl (lv_at hl 1 rfl) ?_
        refine w_callv (va_runV (As := [.int (nI k9)]) (rest := []) ⟨hx, hb, hml, hown, hts⟩ (k_X4_append l D ac _ A N adr w hM 1 2 dl (fun j => nI (dw j)) (by omega) (by omega) (by omega) hdr.1 hdr.2.1 (hdl8) (nI k9)) (cwV 1 hts gX7_word_X4_append rfl rfl rfl (by decide +kernel) ⟨Nat.le_of_ble_eq_true rfl, Nat.le_of_ble_eq_true rfl⟩) (pV hK (ci := 4) rfl (hM.cel (by omega) hdr.1)) rfl rfl hl.1 rfl (lv_room (Nat.le_of_ble_eq_true rfl)) dX7_word_43 ⟨Nat.le_of_ble_eq_true rfl, Nat.le_of_ble_eq_true rfl⟩) hS (fun w_2 H locs hw_2 hM hS => ?_)
        have ef_ : upd (fun j => nI (dw j)) dl (nI k9) = fun j => nI (va_up dw dl k9 j) := upd_nI
        rw [ef_] at hw_2
        clear ef_
        have h_3 : w_2 0 = .inr (7, [.ref (adr 1), .ref (adr 3), .ref (adr 7), .ref (adr 14), .ref (adr 15), .ref (adr 16), .ref (adr 18), .ref (adr 20), .ref (adr 21), .int (nI no), .int le, .int pr, .int ra]) := by rw [hw_2, va_up_ne _ _ (by omega), va_up_ne _ _ (by omega)]; exact h0
        have h_4 : w_2 1 = .inr (4, [.ref (adr 2), .int (nI (dl + 1))]) := by rw [hw_2]; exact va_up_self _ _ _
        have h_5 : w_2 2 = .inl (ac 0, 8, .inl (fun j => nI (va_up dw dl k9 j))) := by rw [hw_2, va_up_ne _ _ (by omega)]; exact va_up_self _ _ _
        refine lv_aload_n hx hb dX7_word_46 rfl (lv_at hl 0 rfl) ?_
        refine m_get (ci := 7) (C := RX7) (T := TX7) (n := 13) (v := .ref (adr 1)) hx hb hts inX7_ hown hK rfl (hM.cel (by omega) h_3) 0 (by decide) (hts _ (by decide +kernel)) rfl dX7_word_47 ?_
        refine m_getN (host := RX7) (ci := 4) (C := RX4) (T := TX4) (n := 2) (v := .int (nI (dl + 1))) hx hb hts inX4_ hown hK rfl (hM.cel (by omega) h_4) 1 (by decide) 3 rfl rfl dX7_word_50 ?_
        exact ex_i hx hb hlocks hr dX7_word_53 (Nat.le_of_ble_eq_true rfl) (Nat.le_of_ble_eq_true rfl) hM hS (⟨k9, rfl, hk_k9, by omega, rfl, by rw [hw_2]; exact ⟨(TGW.up (by omega) (TGW.up (by omega) hR.1)), (dra_push hdr hdl8 hk_k9), (RulW.up (by omega) (RulW.up (by omega) hR.2.2.1)), (MemW.up (by omega) (MemW.up (by omega) hR.2.2.2.1)), (SenF.up (by omega) (SenF.up (by omega) hR.2.2.2.2.1)), (OrdF.up (by omega) (OrdF.up (by omega) hR.2.2.2.2.2.1)), (DesW.up (by omega) (DesW.up (by omega) hR.2.2.2.2.2.2.1)), (HanW.up (by omega) (HanW.up (by omega) hR.2.2.2.2.2.2.2.1)), (MonW.up (by omega) (MonW.up (by omega) hR.2.2.2.2.2.2.2.2.1)), hR.2.2.2.2.2.2.2.2.2⟩⟩)
      · exact x_throw hx hb hlt hlocks hout hown (by decide) (hts _ (by decide +kernel)) (hts _ (by decide +kernel)) (fun w hw => hts w (hgIS_ w hw)) ng_IS ot_IS hX hM hS (hl.1.trans hml.symm) dX7_word_30 dX7_word_33 dX7_word_34 dX7_word_37 (Nat.le_of_ble_eq_true rfl) (Nat.le_of_ble_eq_true rfl) (Nat.le_of_ble_eq_true rfl) (Nat.le_of_ble_eq_true rfl) (Nat.le_of_ble_eq_true rfl) (Nat.le_of_ble_eq_true rfl) (Or.inr ⟨rfl, cd2_2 (ixs hk_k9 (by decide) rfl) (decide_eq_true (by have := nlt_le (b := 8) c27 (by have := hdr.2.2.1; omega) (by omega); have := hdr.2.2.1; omega))⟩)
    · exact x_throw hx hb hlt hlocks hout hown (by decide) (hts _ (by decide +kernel)) (hts _ (by decide +kernel)) (fun w hw => hts w (hgIA_ w hw)) ng_IA ot_IA hX hM hS (hl.1.trans hml.symm) dX7_word_10 dX7_word_13 dX7_word_14 dX7_word_17 (Nat.le_of_ble_eq_true rfl) (Nat.le_of_ble_eq_true rfl) (Nat.le_of_ble_eq_true rfl) (Nat.le_of_ble_eq_true rfl) (Nat.le_of_ble_eq_true rfl) (Nat.le_of_ble_eq_true rfl) (Or.inl ⟨rfl, cd2_1 (ixn (n := 50) (by first | exact Or.inl c1 | exact Or.inr (le_of_nlt c7)))⟩)
set_option maxHeartbeats 4000000 in
set_option maxRecDepth 100000 in
/-- clear -/
theorem k_X7_clear (l : Launch) (D : va_G) (ac : Nat → ClassId) (H : Heap) (A : Nat → Prop) (N : Nat) (adr : Nat → Nat) (w : Nat → va_E) (hM : MW D A N adr w H) (dl : Nat) (dw : Nat → Nat) (fs : Nat → Int32) (fr : Nat → Int32) (ft : Nat → Nat) (ns : Nat) (so : Nat → Nat) (hv : Nat → Int64) (nd : Nat) (du : Nat → Nat) (T : Nat → Int32) (nr : Nat) (rq : Nat → Nat) (nq : Nat) (oq : Nat → Nat) (pd : Nat → Int32) (er : Nat → Int32) (no : Nat) (oc : Nat → Nat) (on_ : Nat → Nat) (owd : Nat → Nat → Nat) (obf : Nat → Nat → Int32) (rb : Nat → Int32) (st : Nat → Int32) (mt : Nat → Int32) (co : Nat → Int32) (py : Nat → Int32) (hd : Nat → Option Nat) (le : Int32) (pr : Int32) (ra : Int32) (hR : HR ac adr w dl dw fs fr ft ns so hv nd du T nr rq nq oq pd er no oc on_ owd obf rb st mt co py hd le pr ra) (hN : 22 + 6 * no ≤ N) : WRi l yX7_clear wsX7_clear ({ frames := 0, cells := 0, slots := 0, locals := 0 }) [.ref (adr 0)] D ac H A N adr (fun r w1 => r = nI dl ∧ HR ac adr w1 0 dw fs fr ft ns so hv nd du T nr rq nq oq pd er no oc on_ owd obf rb st mt co py hd le pr ra) := by
  refine Met.ofW (cc := cX7_clear) (maxL := 2) (ret := (some .int)) (by decide) rfl ?_
  intro p e s m args below meth c s₁ B hml hv
  obtain ⟨hargs, hsz, hK⟩ := hv
  have hx := B.exec
  have hb := B.bytes
  have hr := B.returns
  have hts := atoms_spec (ws := wsX7_clear) B.pre
  have hown : s.vm.findClass RX7 = some m.cls := findClass_of_methodNamed B.named
  have hlocks := B.notSynchronized
  subst hsz
  have inX4_ : ∀ w ∈ wsX40, w ∈ wsX7_clear := by decide +kernel
  have inX7_ : ∀ w ∈ wsX70, w ∈ wsX7_clear := by decide +kernel
  have hS : va_S A s.heap s.heap [] := va_S.rf
  have hl := lv_entry ([.ref (adr 0)]) (n := 2) (Nat.le_of_ble_eq_true rfl)
  have hen := lg_entry_eq m [.ref (adr 0)] 2
  rw [← hargs] at hen
  rw [hen]
  generalize (lg_sl ([.ref (adr 0)]) ++ List.replicate (2 - (lg_sl ([.ref (adr 0)])).length) Slot.unset).toArray = ls at hl ⊢
  have hl : lv_has ls 2 [(0, .ref (adr 0))] := hl
  obtain ⟨h0, hdr, hru, hm, hS1, hO1, hde, hha, hmo, hin_⟩ := id hR
  refine lv_aload_n hx hb dX7_clear_0 rfl (lv_at hl 0 rfl) ?_
  refine m_get (ci := 7) (C := RX7) (T := TX7) (n := 13) (v := .ref (adr 1)) hx hb hts inX7_ hown hK rfl (hM.cel (by omega) h0) 0 (by decide) (hts _ (by decide +kernel)) rfl dX7_clear_1 ?_
  refine m_getN (host := RX7) (ci := 4) (C := RX4) (T := TX4) (n := 2) (v := .int (nI dl)) hx hb hts inX4_ hown hK rfl (hM.cel (by omega) hdr.1) 1 (by decide) 3 rfl rfl dX7_clear_4 ?_
  refine lv_istore_n (lv' := [(1, .int (nI dl)), (0, .ref (adr 0))]) hx hb dX7_clear_7 rfl hl (by decide) rfl (fun ls hl => ?_)
  refine lv_aload_n hx hb dX7_clear_8 rfl (lv_at hl 1 rfl) ?_
  refine m_get (ci := 7) (C := RX7) (T := TX7) (n := 13) (v := .ref (adr 1)) hx hb hts inX7_ hown hK rfl (hM.cel (by omega) h0) 0 (by decide) (hts _ (by decide +kernel)) rfl dX7_clear_9 ?_
  refine lv_iconst (v := 0) hx hb dX7_clear_12 (by decide) ?_
  refine m_putN (host := RX7) (ci := 4) (C := RX4) (T := TX4) (n := 2) (v := .int 0) (ty := tyX4 1) hx hb hts inX4_ tyX4 tyX4_ok nmX4 hown hK hM hS rfl 1 (by omega) hdr.1 1 (by decide) 3 rfl rfl (by decide +kernel) rfl rfl (Nat.le_of_ble_eq_true rfl) dX7_clear_13 (fun H locs hM hS => ?_)
  have hM : MW D A N adr (va_up w 1 (.inr (4, [.ref (adr 2), .int 0]))) H := hM
  obtain ⟨w_1, ew_1⟩ : ∃ z9_, z9_ = va_up w 1 (.inr (4, [.ref (adr 2), .int 0])) := ⟨_, rfl⟩
  rw [← ew_1] at hM
  have h_2 : w_1 0 = .inr (7, [.ref (adr 1), .ref (adr 3), .ref (adr 7), .ref (adr 14), .ref (adr 15), .ref (adr 16), .ref (adr 18), .ref (adr 20), .ref (adr 21), .int (nI no), .int le, .int pr, .int ra]) := by rw [ew_1, va_up_ne _ _ (by omega)]; exact h0
  have h_3 : w_1 1 = .inr (4, [.ref (adr 2), .int 0]) := by rw [ew_1]; exact va_up_self _ _ _
  have h_4 : w_1 2 = .inl (ac 0, 8, .inl (fun j => nI (dw j))) := by rw [ew_1, va_up_ne _ _ (by omega)]; exact hdr.2.1
  refine lv_iload_n hx hb dX7_clear_16 rfl (lv_at hl 0 rfl) ?_
  exact e_wi hx hb hlocks hr dX7_clear_17 hM hS (⟨rfl, by rw [ew_1]; exact ⟨(TGW.up (by omega) hR.1), (dra_clear hdr), (RulW.up (by omega) hR.2.2.1), (MemW.up (by omega) hR.2.2.2.1), (SenF.up (by omega) hR.2.2.2.2.1), (OrdF.up (by omega) hR.2.2.2.2.2.1), (DesW.up (by omega) hR.2.2.2.2.2.2.1), (HanW.up (by omega) hR.2.2.2.2.2.2.2.1), (MonW.up (by omega) hR.2.2.2.2.2.2.2.2.1), hR.2.2.2.2.2.2.2.2.2⟩⟩)
theorem lt_of_nle {a b : Int32} (h : ¬ a ≤ b) : b < a := by
  rw [Int32.le_iff_toInt_le] at h
  rw [Int32.lt_iff_toInt_lt]
  omega
theorem not_lt_of_le {a b : Int32} (h : a ≤ b) : ¬ b < a := by
  rw [Int32.le_iff_toInt_le] at h
  rw [Int32.lt_iff_toInt_lt]
  omega
theorem TGW.up0 {adr : Nat → Nat} {w w1 : Nat → va_E} {no : Nat} {le pr ra : Int32} (h : w1 0 = .inr (7, [.ref (adr 1), .ref (adr 3), .ref (adr 7), .ref (adr 14), .ref (adr 15), .ref (adr 16), .ref (adr 18), .ref (adr 20), .ref (adr 21), .int (nI no), .int le, .int pr, .int ra])) : TGW adr w1 no le pr ra := h
set_option maxHeartbeats 4000000 in
set_option maxRecDepth 100000 in
/-- setPrices -/
theorem k_X7_setPrices (l : Launch) (D : va_G) (ac : Nat → ClassId) (H : Heap) (hlt : l.stackTraces = false) (A : Nat → Prop) (N : Nat) (adr : Nat → Nat) (w : Nat → va_E) (hM : MW D A N adr w H) (dl : Nat) (dw : Nat → Nat) (fs : Nat → Int32) (fr : Nat → Int32) (ft : Nat → Nat) (ns : Nat) (so : Nat → Nat) (hv : Nat → Int64) (nd : Nat) (du : Nat → Nat) (T : Nat → Int32) (nr : Nat) (rq : Nat → Nat) (nq : Nat) (oq : Nat → Nat) (pd : Nat → Int32) (er : Nat → Int32) (no : Nat) (oc : Nat → Nat) (on_ : Nat → Nat) (owd : Nat → Nat → Nat) (obf : Nat → Nat → Int32) (rb : Nat → Int32) (st : Nat → Int32) (mt : Nat → Int32) (co : Nat → Int32) (py : Nat → Int32) (hd : Nat → Option Nat) (le : Int32) (pr : Int32) (ra : Int32) (hR : HR ac adr w dl dw fs fr ft ns so hv nd du T nr rq nq oq pd er no oc on_ owd obf rb st mt co py hd le pr ra) (hN : 22 + 6 * no ≤ N) (x y z : Int32) : WXv l yX7_setPrices wsX7_setPrices ({ frames := 6, cells := 1, slots := 6, locals := 89 }) [.ref (adr 0), .int x, .int y, .int z] D ac H A N adr w (fun w1 => cd1 (decide (x < 1) || decide (100 < x) || decide (y < 0) || decide (100 < y) || decide (z < 0) || decide (100 < z)) = 0 ∧ HR ac adr w1 dl dw fs fr ft ns so hv nd du T nr rq nq oq pd er no oc on_ owd obf rb st mt co py hd x y z) (XC1 xIA (cd1 (decide (x < 1) || decide (100 < x) || decide (y < 0) || decide (100 < y) || decide (z < 0) || decide (100 < z)))) 1 6 := by
  refine vx_ofW (cc := cX7_setPrices) (maxL := 4) (ret := none) (by decide) rfl ?_
  intro p e s m args below meth c s₁ B hml hout hv
  obtain ⟨hargs, hsz, hK, hX⟩ := hv
  have hx := B.exec
  have hb := B.bytes
  have hr := B.returns
  have hts := atoms_spec (ws := wsX7_setPrices) B.pre
  have hown : s.vm.findClass RX7 = some m.cls := findClass_of_methodNamed B.named
  have hlocks := B.notSynchronized
  subst hsz
  have inX7_ : ∀ w ∈ wsX70, w ∈ wsX7_setPrices := by decide +kernel
  have hgIA_ : ∀ w ∈ (vx_at0 RX7 71 xIA xNames).filter goodWord, w ∈ wsX7_setPrices := by decide +kernel
  have hS : va_S A s.heap s.heap [] := va_S.rf
  have hl := lv_entry ([.ref (adr 0), .int x, .int y, .int z]) (n := 4) (Nat.le_of_ble_eq_true rfl)
  have hen := lg_entry_eq m [.ref (adr 0), .int x, .int y, .int z] 4
  rw [← hargs] at hen
  rw [hen]
  generalize (lg_sl ([.ref (adr 0), .int x, .int y, .int z]) ++ List.replicate (4 - (lg_sl ([.ref (adr 0), .int x, .int y, .int z])).length) Slot.unset).toArray = ls at hl ⊢
  have hl : lv_has ls 4 [(0, .ref (adr 0)), (1, .int x), (2, .int y), (3, .int z)] := hl
  obtain ⟨h0, hdr, hru, hm, hS1, hO1, hde, hha, hmo, hin_⟩ := id hR
  refine lv_iload_n hx hb dX7_setPrices_0 rfl (lv_at hl 1 rfl) ?_
  refine lv_iconst (v := 1) hx hb dX7_setPrices_1 (by decide) ?_
  refine lv_icmp_lt (tgt := 11) hx hb dX7_setPrices_2 (by decide) (fun c2 => ?_) (fun c2 => ?_)
  · exact x_throw hx hb hlt hlocks hout hown (by decide) (hts _ (by decide +kernel)) (hts _ (by decide +kernel)) (fun w hw => hts w (hgIA_ w hw)) ng_IA ot_IA hX hM hS (hl.1.trans hml.symm) dX7_setPrices_11 dX7_setPrices_14 dX7_setPrices_15 dX7_setPrices_18 (Nat.le_of_ble_eq_true rfl) (Nat.le_of_ble_eq_true rfl) (Nat.le_of_ble_eq_true rfl) (Nat.le_of_ble_eq_true rfl) (Nat.le_of_ble_eq_true rfl) (Nat.le_of_ble_eq_true rfl) (⟨rfl, by unfold cd1; first | (rw [decide_eq_true c2]; rfl) | (rw [decide_eq_true (lt_of_nle c8)]; simp)⟩)
  · refine lv_iload_n hx hb dX7_setPrices_5 rfl (lv_at hl 1 rfl) ?_
    refine lv_bipush (v := 100) hx hb dX7_setPrices_6 (by decide) ?_
    refine lv_icmp_le (tgt := 19) hx hb dX7_setPrices_8 (by decide) (fun c8 => ?_) (fun c8 => ?_)
    · refine lv_iload_n hx hb dX7_setPrices_19 rfl (lv_at hl 2 rfl) ?_
      refine lv_if_lt (tgt := 39) hx hb dX7_setPrices_20 (by decide) (fun c20 => ?_) (fun c20 => ?_)
      · exact x_throw hx hb hlt hlocks hout hown (by decide) (hts _ (by decide +kernel)) (hts _ (by decide +kernel)) (fun w hw => hts w (hgIA_ w hw)) ng_IA ot_IA hX hM hS (hl.1.trans hml.symm) dX7_setPrices_39 dX7_setPrices_42 dX7_setPrices_43 dX7_setPrices_46 (Nat.le_of_ble_eq_true rfl) (Nat.le_of_ble_eq_true rfl) (Nat.le_of_ble_eq_true rfl) (Nat.le_of_ble_eq_true rfl) (Nat.le_of_ble_eq_true rfl) (Nat.le_of_ble_eq_true rfl) (⟨rfl, by unfold cd1; first | (rw [decide_eq_true c20]; simp) | (rw [decide_eq_true c26]; simp) | (rw [decide_eq_true c30]; simp) | (rw [decide_eq_true (lt_of_nle c36)]; simp)⟩)
      · refine lv_iload_n hx hb dX7_setPrices_23 rfl (lv_at hl 2 rfl) ?_
        refine lv_bipush (v := 100) hx hb dX7_setPrices_24 (by decide) ?_
        refine lv_icmp_gt (tgt := 39) hx hb dX7_setPrices_26 (by decide) (fun c26 => ?_) (fun c26 => ?_)
        · exact x_throw hx hb hlt hlocks hout hown (by decide) (hts _ (by decide +kernel)) (hts _ (by decide +kernel)) (fun w hw => hts w (hgIA_ w hw)) ng_IA ot_IA hX hM hS (hl.1.trans hml.symm) dX7_setPrices_39 dX7_setPrices_42 dX7_setPrices_43 dX7_setPrices_46 (Nat.le_of_ble_eq_true rfl) (Nat.le_of_ble_eq_true rfl) (Nat.le_of_ble_eq_true rfl) (Nat.le_of_ble_eq_true rfl) (Nat.le_of_ble_eq_true rfl) (Nat.le_of_ble_eq_true rfl) (⟨rfl, by unfold cd1; first | (rw [decide_eq_true c20]; simp) | (rw [decide_eq_true c26]; simp) | (rw [decide_eq_true c30]; simp) | (rw [decide_eq_true (lt_of_nle c36)]; simp)⟩)
        · refine lv_iload_n hx hb dX7_setPrices_29 rfl (lv_at hl 3 rfl) ?_
          refine lv_if_lt (tgt := 39) hx hb dX7_setPrices_30 (by decide) (fun c30 => ?_) (fun c30 => ?_)
          · exact x_throw hx hb hlt hlocks hout hown (by decide) (hts _ (by decide +kernel)) (hts _ (by decide +kernel)) (fun w hw => hts w (hgIA_ w hw)) ng_IA ot_IA hX hM hS (hl.1.trans hml.symm) dX7_setPrices_39 dX7_setPrices_42 dX7_setPrices_43 dX7_setPrices_46 (Nat.le_of_ble_eq_true rfl) (Nat.le_of_ble_eq_true rfl) (Nat.le_of_ble_eq_true rfl) (Nat.le_of_ble_eq_true rfl) (Nat.le_of_ble_eq_true rfl) (Nat.le_of_ble_eq_true rfl) (⟨rfl, by unfold cd1; first | (rw [decide_eq_true c20]; simp) | (rw [decide_eq_true c26]; simp) | (rw [decide_eq_true c30]; simp) | (rw [decide_eq_true (lt_of_nle c36)]; simp)⟩)
          · refine lv_iload_n hx hb dX7_setPrices_33 rfl (lv_at hl 3 rfl) ?_
            refine lv_bipush (v := 100) hx hb dX7_setPrices_34 (by decide) ?_
            refine lv_icmp_le (tgt := 47) hx hb dX7_setPrices_36 (by decide) (fun c36 => ?_) (fun c36 => ?_)
            · refine lv_aload_n hx hb dX7_setPrices_47 rfl (lv_at hl 0 rfl) ?_
              refine lv_iload_n hx hb dX7_setPrices_48 rfl (lv_at hl 1 rfl) ?_
              refine m_put (ci := 7) (C := RX7) (T := TX7) (n := 13) (v := .int x) (ty := tyX7 10) hx hb hts inX7_ tyX7 tyX7_ok nmX7 hown hK hM hS rfl 0 (by omega) h0 10 (by decide) (hts _ (by decide +kernel)) rfl (by decide +kernel) rfl rfl (Nat.le_of_ble_eq_true rfl) dX7_setPrices_49 (fun H locs hM hS => ?_)
              have hM : MW D A N adr (va_up w 0 (.inr (7, [.ref (adr 1), .ref (adr 3), .ref (adr 7), .ref (adr 14), .ref (adr 15), .ref (adr 16), .ref (adr 18), .ref (adr 20), .ref (adr 21), .int (nI no), .int x, .int pr, .int ra]))) H := hM
              obtain ⟨w_1, ew_1⟩ : ∃ z9_, z9_ = va_up w 0 (.inr (7, [.ref (adr 1), .ref (adr 3), .ref (adr 7), .ref (adr 14), .ref (adr 15), .ref (adr 16), .ref (adr 18), .ref (adr 20), .ref (adr 21), .int (nI no), .int x, .int pr, .int ra])) := ⟨_, rfl⟩
              rw [← ew_1] at hM
              have h_2 : w_1 0 = .inr (7, [.ref (adr 1), .ref (adr 3), .ref (adr 7), .ref (adr 14), .ref (adr 15), .ref (adr 16), .ref (adr 18), .ref (adr 20), .ref (adr 21), .int (nI no), .int x, .int pr, .int ra]) := by rw [ew_1]; exact va_up_self _ _ _
              refine lv_aload_n hx hb dX7_setPrices_52 rfl (lv_at hl 0 rfl) ?_
              refine lv_iload_n hx hb dX7_setPrices_53 rfl (lv_at hl 2 rfl) ?_
              refine m_put (ci := 7) (C := RX7) (T := TX7) (n := 13) (v := .int y) (ty := tyX7 11) hx hb hts inX7_ tyX7 tyX7_ok nmX7 hown hK hM hS rfl 0 (by omega) h_2 11 (by decide) (hts _ (by decide +kernel)) rfl (by decide +kernel) rfl rfl (Nat.le_of_ble_eq_true rfl) dX7_setPrices_54 (fun H locs hM hS => ?_)
              have hM : MW D A N adr (va_up w_1 0 (.inr (7, [.ref (adr 1), .ref (adr 3), .ref (adr 7), .ref (adr 14), .ref (adr 15), .ref (adr 16), .ref (adr 18), .ref (adr 20), .ref (adr 21), .int (nI no), .int x, .int y, .int ra]))) H := hM
              obtain ⟨w_3, ew_3⟩ : ∃ z9_, z9_ = va_up w_1 0 (.inr (7, [.ref (adr 1), .ref (adr 3), .ref (adr 7), .ref (adr 14), .ref (adr 15), .ref (adr 16), .ref (adr 18), .ref (adr 20), .ref (adr 21), .int (nI no), .int x, .int y, .int ra])) := ⟨_, rfl⟩
              rw [← ew_3] at hM
              have h_4 : w_3 0 = .inr (7, [.ref (adr 1), .ref (adr 3), .ref (adr 7), .ref (adr 14), .ref (adr 15), .ref (adr 16), .ref (adr 18), .ref (adr 20), .ref (adr 21), .int (nI no), .int x, .int y, .int ra]) := by rw [ew_3]; exact va_up_self _ _ _
              refine lv_aload_n hx hb dX7_setPrices_57 rfl (lv_at hl 0 rfl) ?_
              refine lv_iload_n hx hb dX7_setPrices_58 rfl (lv_at hl 3 rfl) ?_
              refine m_put (ci := 7) (C := RX7) (T := TX7) (n := 13) (v := .int z) (ty := tyX7 12) hx hb hts inX7_ tyX7 tyX7_ok nmX7 hown hK hM hS rfl 0 (by omega) h_4 12 (by decide) (hts _ (by decide +kernel)) rfl (by decide +kernel) rfl rfl (Nat.le_of_ble_eq_true rfl) dX7_setPrices_59 (fun H locs hM hS => ?_)
              have hM : MW D A N adr (va_up w_3 0 (.inr (7, [.ref (adr 1), .ref (adr 3), .ref (adr 7), .ref (adr 14), .ref (adr 15), .ref (adr 16), .ref (adr 18), .ref (adr 20), .ref (adr 21), .int (nI no), .int x, .int y, .int z]))) H := hM
              obtain ⟨w_5, ew_5⟩ : ∃ z9_, z9_ = va_up w_3 0 (.inr (7, [.ref (adr 1), .ref (adr 3), .ref (adr 7), .ref (adr 14), .ref (adr 15), .ref (adr 16), .ref (adr 18), .ref (adr 20), .ref (adr 21), .int (nI no), .int x, .int y, .int z])) := ⟨_, rfl⟩
              rw [← ew_5] at hM
              have h_6 : w_5 0 = .inr (7, [.ref (adr 1), .ref (adr 3), .ref (adr 7), .ref (adr 14), .ref (adr 15), .ref (adr 16), .ref (adr 18), .ref (adr 20), .ref (adr 21), .int (nI no), .int x, .int y, .int z]) := by rw [ew_5]; exact va_up_self _ _ _
              exact ex_v hx hb hlocks hr dX7_setPrices_62 (Nat.le_of_ble_eq_true rfl) (Nat.le_of_ble_eq_true rfl) hM hS (⟨by simp [cd1, c2, c20, c26, c30, not_lt_of_le c8, not_lt_of_le c36], by rw [ew_5, ew_3, ew_1]; exact ⟨(TGW.up0 (w := w) (va_up_self _ _ _)), (DraW.up (by omega) (DraW.up (by omega) (DraW.up (by omega) hR.2.1))), (RulW.up (by omega) (RulW.up (by omega) (RulW.up (by omega) hR.2.2.1))), (MemW.up (by omega) (MemW.up (by omega) (MemW.up (by omega) hR.2.2.2.1))), (SenF.up (by omega) (SenF.up (by omega) (SenF.up (by omega) hR.2.2.2.2.1))), (OrdF.up (by omega) (OrdF.up (by omega) (OrdF.up (by omega) hR.2.2.2.2.2.1))), (DesW.up (by omega) (DesW.up (by omega) (DesW.up (by omega) hR.2.2.2.2.2.2.1))), (HanW.up (by omega) (HanW.up (by omega) (HanW.up (by omega) hR.2.2.2.2.2.2.2.1))), (MonW.up (by omega) (MonW.up (by omega) (MonW.up (by omega) hR.2.2.2.2.2.2.2.2.1))), hR.2.2.2.2.2.2.2.2.2⟩⟩)
            · exact x_throw hx hb hlt hlocks hout hown (by decide) (hts _ (by decide +kernel)) (hts _ (by decide +kernel)) (fun w hw => hts w (hgIA_ w hw)) ng_IA ot_IA hX hM hS (hl.1.trans hml.symm) dX7_setPrices_39 dX7_setPrices_42 dX7_setPrices_43 dX7_setPrices_46 (Nat.le_of_ble_eq_true rfl) (Nat.le_of_ble_eq_true rfl) (Nat.le_of_ble_eq_true rfl) (Nat.le_of_ble_eq_true rfl) (Nat.le_of_ble_eq_true rfl) (Nat.le_of_ble_eq_true rfl) (⟨rfl, by unfold cd1; first | (rw [decide_eq_true c20]; simp) | (rw [decide_eq_true c26]; simp) | (rw [decide_eq_true c30]; simp) | (rw [decide_eq_true (lt_of_nle c36)]; simp)⟩)
    · exact x_throw hx hb hlt hlocks hout hown (by decide) (hts _ (by decide +kernel)) (hts _ (by decide +kernel)) (fun w hw => hts w (hgIA_ w hw)) ng_IA ot_IA hX hM hS (hl.1.trans hml.symm) dX7_setPrices_11 dX7_setPrices_14 dX7_setPrices_15 dX7_setPrices_18 (Nat.le_of_ble_eq_true rfl) (Nat.le_of_ble_eq_true rfl) (Nat.le_of_ble_eq_true rfl) (Nat.le_of_ble_eq_true rfl) (Nat.le_of_ble_eq_true rfl) (Nat.le_of_ble_eq_true rfl) (⟨rfl, by unfold cd1; first | (rw [decide_eq_true c2]; rfl) | (rw [decide_eq_true (lt_of_nle c8)]; simp)⟩)
