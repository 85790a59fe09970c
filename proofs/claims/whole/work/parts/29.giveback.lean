set_option maxHeartbeats 4000000 in
set_option maxRecDepth 100000 in
/-- giveBack -/
theorem k_X7_giveBack (l : Launch) (D : va_G) (ac : Nat → ClassId) (H : Heap) (hlt : l.stackTraces = false) (A : Nat → Prop) (N : Nat) (adr : Nat → Nat) (w : Nat → va_E) (hM : MW D A N adr w H) (dl : Nat) (dw : Nat → Nat) (fs : Nat → Int32) (fr : Nat → Int32) (ft : Nat → Nat) (ns : Nat) (so : Nat → Nat) (hv : Nat → Int64) (nd : Nat) (du : Nat → Nat) (T : Nat → Int32) (nr : Nat) (rq : Nat → Nat) (nq : Nat) (oq : Nat → Nat) (pd : Nat → Int32) (er : Nat → Int32) (no : Nat) (oc : Nat → Nat) (on_ : Nat → Nat) (owd : Nat → Nat → Nat) (obf : Nat → Nat → Int32) (rb : Nat → Int32) (st : Nat → Int32) (mt : Nat → Int32) (co : Nat → Int32) (py : Nat → Int32) (hd : Nat → Option Nat) (le : Int32) (pr : Int32) (ra : Int32) (hR : HR ac adr w dl dw fs fr ft ns so hv nd du T nr rq nq oq pd er no oc on_ owd obf rb st mt co py hd le pr ra) (hN : 22 + 6 * no ≤ N) (x : Int32) : WXi l yX7_giveBack wsX7_giveBack ({ frames := 8, cells := 2, slots := 12, locals := 131 }) [.ref (adr 0), .int x] D ac H A N adr w (fun r w1 => ∃ t o, t < 4 ∧ x = nI t ∧ hd t = some o ∧ r = nI o ∧ ((rb o = 0 ∧ ∃ d2, lst (nq + 1) d2 = o :: lst nq oq ∧ HR ac adr w1 dl dw fs fr ft ns so hv nd du T nr rq (nq + 1) d2 pd er no oc on_ owd (fun x => if x = o then mixF (on_ o) (fun _ => -1) (obf o) else obf x) rb (va_up st o (-1)) (va_up mt o (-1)) co py (va_up hd t none) le pr ra) ∨ (¬ rb o = 0 ∧ ∃ d2, lst (nr + 1) d2 = o :: lst nr rq ∧ HR ac adr w1 dl dw fs fr ft ns so hv nd du T (nr + 1) d2 nq oq pd er no oc on_ owd (fun x => if x = o then mixF (on_ o) (fun _ => -1) (obf o) else obf x) rb (va_up st o (-1)) (va_up mt o (-1)) co py (va_up hd t none) le pr ra))) (XC2 xIA xIS (cd2 (ix x 4).isNone ((ix x 4).bind hd).isNone)) 2 12 := by
  refine vx_ofW (cc := cX7_giveBack) (maxL := 3) (ret := (some .int)) (by decide) rfl ?_
  intro p e s m args below meth c s₁ B hml hout hv
  obtain ⟨hargs, hsz, hK, hX⟩ := hv
  have hx := B.exec
  have hb := B.bytes
  have hr := B.returns
  have hts := atoms_spec (ws := wsX7_giveBack) B.pre
  have hown : s.vm.findClass RX7 = some m.cls := findClass_of_methodNamed B.named
  have hlocks := B.notSynchronized
  subst hsz
  have inX3_ : ∀ w ∈ wsX30, w ∈ wsX7_giveBack := by decide +kernel
  have hS : va_S A s.heap s.heap [] := va_S.rf
  have hl := lv_entry ([.ref (adr 0), .int x]) (n := 3) (Nat.le_of_ble_eq_true rfl)
  have hen := lg_entry_eq m [.ref (adr 0), .int x] 3
  rw [← hargs] at hen
  rw [hen]
  generalize (lg_sl ([.ref (adr 0), .int x]) ++ List.replicate (3 - (lg_sl ([.ref (adr 0), .int x])).length) Slot.unset).toArray = ls at hl ⊢
  have hl : lv_has ls 3 [(0, .ref (adr 0)), (1, .int x)] := hl
  obtain ⟨h0, hdr, hru, hm, hS1, hO1, hde, hha, hmo, hin_⟩ := id hR
  obtain ⟨hns, hnd⟩ := hm.2.2.2.2.2.2.2
  have hso := fun i hi => (hin_.1 i hi).1
  obtain ⟨hnr60, hnq60⟩ := hde.2.2.2.2
  have hno60 := hha.2.2
  refine lv_aload_n hx hb dX7_giveBack_0 rfl (lv_at hl 0 rfl) ?_
  refine lv_iload_n hx hb dX7_giveBack_1 rfl (lv_at hl 1 rfl) ?_
  refine x_callq hlocks hout (vx_runV (As := [.int x]) (rest := []) ⟨hx, hb, hml, hown, hts⟩ (k_X7_orderInHandOf l D ac _ hlt A N adr w hM dl dw fs fr ft ns so hv nd du T nr rq nq oq pd er no oc on_ owd obf rb st mt co py hd le pr ra hR hN x) (cwV 1 hts gX7_giveBack_X7_orderInHandOf rfl rfl rfl (by decide +kernel) ⟨(Nat.le_of_ble_eq_true rfl), (Nat.le_of_ble_eq_true rfl)⟩) (pVX hK (hX.at hS) (ci := 7) rfl (hM.cel (by omega) h0)) rfl rfl hl.1 rfl (lv_room (Nat.le_of_ble_eq_true rfl)) dX7_giveBack_2 ⟨(Nat.le_of_ble_eq_true rfl), (Nat.le_of_ble_eq_true rfl)⟩) hS (fun E h => h) (Nat.le_of_ble_eq_true rfl) (Nat.le_of_ble_eq_true rfl) (fun rv_1 w_2 H locs hw_2 hM hS => ?_)
  obtain ⟨o9, hob_, rfl, e9_⟩ := hw_2
  obtain rfl := e9_.symm
  obtain ⟨t9, ht9_, ex_t9, hht_⟩ := hd_of hob_
  obtain ⟨ho_, hlo_⟩ := hin_.hlo ht9_ hht_
  have hO_ := hO1 o9 ho_
  have hsn_ := hS1 o9 ho_
  obtain ⟨hn0_, hn8_, hcl_, hwd_⟩ := hsn_.2.2.2.2.2
  refine m_topr ?_
  refine lv_astore_n (lv' := [(2, .ref (adr (22 + 6 * o9))), (0, .ref (adr 0)), (1, .int x)]) hx hb dX7_giveBack_5 rfl hl (by decide) rfl (fun ls hl => ?_)
  subst ex_t9
  have hst9 : st o9 = nI t9 := (hin_.2.2.2.2 t9 o9 ht9_ hht_).2
  have hroom := hin_.room ho_ (by rw [hst9]; exact nI_nm1 ht9_ (by decide))
  refine lv_aload_n hx hb dX7_giveBack_6 rfl (lv_at hl 1 rfl) ?_
  refine lv_iload_n hx hb dX7_giveBack_7 rfl (lv_at hl 2 rfl) ?_
  refine lv_null hx hb dX7_giveBack_8 ?_
  refine w_callv (va_runV (As := [.int (nI t9), .null]) (rest := []) ⟨hx, hb, hml, hown, hts⟩ (k_X7_putInHand_n l D ac _ A N adr w hM (by omega) no hd le pr ra h0 hha.2.1 t9 (by omega)) (cwV 2 hts gX7_giveBack_X7_putInHand rfl rfl rfl (by decide +kernel) ⟨Nat.le_of_ble_eq_true rfl, Nat.le_of_ble_eq_true rfl⟩) (pV hK (ci := 7) rfl (hM.cel (by omega) h0)) rfl rfl hl.1 rfl (lv_room (Nat.le_of_ble_eq_true rfl)) dX7_giveBack_9 ⟨Nat.le_of_ble_eq_true rfl, Nat.le_of_ble_eq_true rfl⟩) hS (fun w_4 H locs hw_4 hM hS => ?_)
  have h_5 : w_4 0 = .inr (7, [.ref (adr 1), .ref (adr 3), .ref (adr 7), .ref (adr 14), .ref (adr 15), .ref (adr 16), .ref (adr 18), .ref (adr 20), .ref (adr 21), .int (nI no), .int le, .int pr, .int ra]) := by rw [hw_4, va_up_ne _ _ (by omega)]; exact h0
  have h_6 : w_4 15 = .inl (ac 3, 4, .inr (.inr (.inr (.inr (href adr (va_up hd t9 none)))))) := by rw [hw_4]; exact va_up_self _ _ _
  have h_7 : w_4 16 = .inr (1, [.ref (adr 17), .int (nI nr)]) := by rw [hw_4, va_up_ne _ _ (by omega)]; exact hde.1
  have h_8 : w_4 17 = .inl (ac 0, 60, .inl (fun j => nI (rq j))) := by rw [hw_4, va_up_ne _ _ (by omega)]; exact hde.2.1
  have h_9 : w_4 18 = .inr (1, [.ref (adr 19), .int (nI nq)]) := by rw [hw_4, va_up_ne _ _ (by omega)]; exact hde.2.2.1
  have h_10 : w_4 19 = .inl (ac 0, 60, .inl (fun j => nI (oq j))) := by rw [hw_4, va_up_ne _ _ (by omega)]; exact hde.2.2.2.1
  have h_11 : w_4 (22 + 6 * o9) = .inr (3, [.int (nI o9), .int (rb o9), .ref (adr (23 + 6 * o9)), .int (st o9), .int (mt o9), .int (co o9), .int (py o9)]) := by rw [hw_4, va_up_ne _ _ (by omega)]; exact hO_
  have h_12 : w_4 (23 + 6 * o9) = .inr (6, [.int (nI (oc o9)), .ref (adr (23 + 6 * o9 + 1)), .ref (adr (23 + 6 * o9 + 3))]) := by rw [hw_4, va_up_ne _ _ (by omega)]; exact hsn_.1
  have h_13 : w_4 (23 + 6 * o9 + 1) = .inr (4, [.ref (adr (23 + 6 * o9 + 2)), .int (nI (on_ o9))]) := by rw [hw_4, va_up_ne _ _ (by omega)]; exact hsn_.2.1
  have h_14 : w_4 (23 + 6 * o9 + 2) = .inl (ac 0, 8, .inl (fun j => nI (owd o9 j))) := by rw [hw_4, va_up_ne _ _ (by omega)]; exact hsn_.2.2.1
  have h_15 : w_4 (23 + 6 * o9 + 3) = .inr (4, [.ref (adr (23 + 6 * o9 + 4)), .int (nI (on_ o9))]) := by rw [hw_4, va_up_ne _ _ (by omega)]; exact hsn_.2.2.2.1
  have h_16 : w_4 (23 + 6 * o9 + 4) = .inl (ac 0, 8, .inl (obf o9)) := by rw [hw_4, va_up_ne _ _ (by omega)]; exact hsn_.2.2.2.2.1
  refine lv_aload_n hx hb dX7_giveBack_12 rfl (lv_at hl 0 rfl) ?_
  refine lv_iconst (v := (-1)) hx hb dX7_giveBack_13 (by decide) ?_
  refine m_putN (host := RX7) (ci := 3) (C := RX3) (T := TX3) (n := 7) (v := .int (-1)) (ty := tyX3 3) hx hb hts inX3_ tyX3 tyX3_ok nmX3 hown hK hM hS rfl (22 + 6 * o9) (by have := ho_; omega) h_11 3 (by decide) 24 rfl rfl (by decide +kernel) rfl rfl (Nat.le_of_ble_eq_true rfl) dX7_giveBack_14 (fun H locs hM hS => ?_)
  have hM : MW D A N adr (va_up w_4 (22 + 6 * o9) (.inr (3, [.int (nI o9), .int (rb o9), .ref (adr (23 + 6 * o9)), .int (-1), .int (mt o9), .int (co o9), .int (py o9)]))) H := hM
  obtain ⟨w_17, ew_17⟩ : ∃ z9_, z9_ = va_up w_4 (22 + 6 * o9) (.inr (3, [.int (nI o9), .int (rb o9), .ref (adr (23 + 6 * o9)), .int (-1), .int (mt o9), .int (co o9), .int (py o9)])) := ⟨_, rfl⟩
  rw [← ew_17] at hM
  have h_18 : w_17 0 = .inr (7, [.ref (adr 1), .ref (adr 3), .ref (adr 7), .ref (adr 14), .ref (adr 15), .ref (adr 16), .ref (adr 18), .ref (adr 20), .ref (adr 21), .int (nI no), .int le, .int pr, .int ra]) := by rw [ew_17, va_up_ne _ _ (by omega)]; exact h_5
  have h_19 : w_17 15 = .inl (ac 3, 4, .inr (.inr (.inr (.inr (href adr (va_up hd t9 none)))))) := by rw [ew_17, va_up_ne _ _ (by omega)]; exact h_6
  have h_20 : w_17 16 = .inr (1, [.ref (adr 17), .int (nI nr)]) := by rw [ew_17, va_up_ne _ _ (by omega)]; exact h_7
  have h_21 : w_17 17 = .inl (ac 0, 60, .inl (fun j => nI (rq j))) := by rw [ew_17, va_up_ne _ _ (by omega)]; exact h_8
  have h_22 : w_17 18 = .inr (1, [.ref (adr 19), .int (nI nq)]) := by rw [ew_17, va_up_ne _ _ (by omega)]; exact h_9
  have h_23 : w_17 19 = .inl (ac 0, 60, .inl (fun j => nI (oq j))) := by rw [ew_17, va_up_ne _ _ (by omega)]; exact h_10
  have h_24 : w_17 (22 + 6 * o9) = .inr (3, [.int (nI o9), .int (rb o9), .ref (adr (23 + 6 * o9)), .int (-1), .int (mt o9), .int (co o9), .int (py o9)]) := by rw [ew_17]; exact va_up_self _ _ _
  have h_25 : w_17 (23 + 6 * o9) = .inr (6, [.int (nI (oc o9)), .ref (adr (23 + 6 * o9 + 1)), .ref (adr (23 + 6 * o9 + 3))]) := by rw [ew_17, va_up_ne _ _ (by omega)]; exact h_12
  have h_26 : w_17 (23 + 6 * o9 + 1) = .inr (4, [.ref (adr (23 + 6 * o9 + 2)), .int (nI (on_ o9))]) := by rw [ew_17, va_up_ne _ _ (by omega)]; exact h_13
  have h_27 : w_17 (23 + 6 * o9 + 2) = .inl (ac 0, 8, .inl (fun j => nI (owd o9 j))) := by rw [ew_17, va_up_ne _ _ (by omega)]; exact h_14
  have h_28 : w_17 (23 + 6 * o9 + 3) = .inr (4, [.ref (adr (23 + 6 * o9 + 4)), .int (nI (on_ o9))]) := by rw [ew_17, va_up_ne _ _ (by omega)]; exact h_15
  have h_29 : w_17 (23 + 6 * o9 + 4) = .inl (ac 0, 8, .inl (obf o9)) := by rw [ew_17, va_up_ne _ _ (by omega)]; exact h_16
  refine lv_aload_n hx hb dX7_giveBack_17 rfl (lv_at hl 0 rfl) ?_
  refine lv_iconst (v := (-1)) hx hb dX7_giveBack_18 (by decide) ?_
  refine m_putN (host := RX7) (ci := 3) (C := RX3) (T := TX3) (n := 7) (v := .int (-1)) (ty := tyX3 4) hx hb hts inX3_ tyX3 tyX3_ok nmX3 hown hK hM hS rfl (22 + 6 * o9) (by have := ho_; omega) h_24 4 (by decide) 25 rfl rfl (by decide +kernel) rfl rfl (Nat.le_of_ble_eq_true rfl) dX7_giveBack_19 (fun H locs hM hS => ?_)
  have hM : MW D A N adr (va_up w_17 (22 + 6 * o9) (.inr (3, [.int (nI o9), .int (rb o9), .ref (adr (23 + 6 * o9)), .int (-1), .int (-1), .int (co o9), .int (py o9)]))) H := hM
  obtain ⟨w_30, ew_30⟩ : ∃ z9_, z9_ = va_up w_17 (22 + 6 * o9) (.inr (3, [.int (nI o9), .int (rb o9), .ref (adr (23 + 6 * o9)), .int (-1), .int (-1), .int (co o9), .int (py o9)])) := ⟨_, rfl⟩
  rw [← ew_30] at hM
  have h_31 : w_30 0 = .inr (7, [.ref (adr 1), .ref (adr 3), .ref (adr 7), .ref (adr 14), .ref (adr 15), .ref (adr 16), .ref (adr 18), .ref (adr 20), .ref (adr 21), .int (nI no), .int le, .int pr, .int ra]) := by rw [ew_30, va_up_ne _ _ (by omega)]; exact h_18
  have h_32 : w_30 15 = .inl (ac 3, 4, .inr (.inr (.inr (.inr (href adr (va_up hd t9 none)))))) := by rw [ew_30, va_up_ne _ _ (by omega)]; exact h_19
  have h_33 : w_30 16 = .inr (1, [.ref (adr 17), .int (nI nr)]) := by rw [ew_30, va_up_ne _ _ (by omega)]; exact h_20
  have h_34 : w_30 17 = .inl (ac 0, 60, .inl (fun j => nI (rq j))) := by rw [ew_30, va_up_ne _ _ (by omega)]; exact h_21
  have h_35 : w_30 18 = .inr (1, [.ref (adr 19), .int (nI nq)]) := by rw [ew_30, va_up_ne _ _ (by omega)]; exact h_22
  have h_36 : w_30 19 = .inl (ac 0, 60, .inl (fun j => nI (oq j))) := by rw [ew_30, va_up_ne _ _ (by omega)]; exact h_23
  have h_37 : w_30 (22 + 6 * o9) = .inr (3, [.int (nI o9), .int (rb o9), .ref (adr (23 + 6 * o9)), .int (-1), .int (-1), .int (co o9), .int (py o9)]) := by rw [ew_30]; exact va_up_self _ _ _
  have h_38 : w_30 (23 + 6 * o9) = .inr (6, [.int (nI (oc o9)), .ref (adr (23 + 6 * o9 + 1)), .ref (adr (23 + 6 * o9 + 3))]) := by rw [ew_30, va_up_ne _ _ (by omega)]; exact h_25
  have h_39 : w_30 (23 + 6 * o9 + 1) = .inr (4, [.ref (adr (23 + 6 * o9 + 2)), .int (nI (on_ o9))]) := by rw [ew_30, va_up_ne _ _ (by omega)]; exact h_26
  have h_40 : w_30 (23 + 6 * o9 + 2) = .inl (ac 0, 8, .inl (fun j => nI (owd o9 j))) := by rw [ew_30, va_up_ne _ _ (by omega)]; exact h_27
  have h_41 : w_30 (23 + 6 * o9 + 3) = .inr (4, [.ref (adr (23 + 6 * o9 + 4)), .int (nI (on_ o9))]) := by rw [ew_30, va_up_ne _ _ (by omega)]; exact h_28
  have h_42 : w_30 (23 + 6 * o9 + 4) = .inl (ac 0, 8, .inl (obf o9)) := by rw [ew_30, va_up_ne _ _ (by omega)]; exact h_29
  refine lv_aload_n hx hb dX7_giveBack_22 rfl (lv_at hl 0 rfl) ?_
  refine m_getN (host := RX7) (ci := 3) (C := RX3) (T := TX3) (n := 7) (v := .ref (adr (23 + 6 * o9))) hx hb hts inX3_ hown hK rfl (hM.cel (by have := ho_; omega) h_37) 2 (by decide) 23 rfl rfl dX7_giveBack_23 ?_
  refine w_callv (va_runV (As := []) (rest := []) ⟨hx, hb, hml, hown, hts⟩ (k_X6_forgetAll l D ac _ A N adr w_30 hM (23 + 6 * o9) (adr (23 + 6 * o9 + 1)) (23 + 6 * o9 + 3) (23 + 6 * o9 + 4) ((oc o9)) ((on_ o9)) (obf o9) (by have := ho_; omega) (by have := ho_; omega) (by have := ho_; omega) (by omega) (by omega) h_38 h_41 h_42) (cwV 0 hts gX7_giveBack_X6_forgetAll rfl rfl rfl (by decide +kernel) ⟨Nat.le_of_ble_eq_true rfl, Nat.le_of_ble_eq_true rfl⟩) (pV hK (ci := 6) rfl (hM.cel (by have := ho_; omega) h_38)) rfl rfl hl.1 rfl (lv_room (Nat.le_of_ble_eq_true rfl)) dX7_giveBack_26 ⟨Nat.le_of_ble_eq_true rfl, Nat.le_of_ble_eq_true rfl⟩) hS (fun w_44 H locs hw_44 hM hS => ?_)
  have h_45 : w_44 0 = .inr (7, [.ref (adr 1), .ref (adr 3), .ref (adr 7), .ref (adr 14), .ref (adr 15), .ref (adr 16), .ref (adr 18), .ref (adr 20), .ref (adr 21), .int (nI no), .int le, .int pr, .int ra]) := by rw [hw_44, va_up_ne _ _ (by omega)]; exact h_31
  have h_46 : w_44 15 = .inl (ac 3, 4, .inr (.inr (.inr (.inr (href adr (va_up hd t9 none)))))) := by rw [hw_44, va_up_ne _ _ (by omega)]; exact h_32
  have h_47 : w_44 16 = .inr (1, [.ref (adr 17), .int (nI nr)]) := by rw [hw_44, va_up_ne _ _ (by omega)]; exact h_33
  have h_48 : w_44 17 = .inl (ac 0, 60, .inl (fun j => nI (rq j))) := by rw [hw_44, va_up_ne _ _ (by omega)]; exact h_34
  have h_49 : w_44 18 = .inr (1, [.ref (adr 19), .int (nI nq)]) := by rw [hw_44, va_up_ne _ _ (by omega)]; exact h_35
  have h_50 : w_44 19 = .inl (ac 0, 60, .inl (fun j => nI (oq j))) := by rw [hw_44, va_up_ne _ _ (by omega)]; exact h_36
  have h_51 : w_44 (22 + 6 * o9) = .inr (3, [.int (nI o9), .int (rb o9), .ref (adr (23 + 6 * o9)), .int (-1), .int (-1), .int (co o9), .int (py o9)]) := by rw [hw_44, va_up_ne _ _ (by omega)]; exact h_37
  have h_52 : w_44 (23 + 6 * o9) = .inr (6, [.int (nI (oc o9)), .ref (adr (23 + 6 * o9 + 1)), .ref (adr (23 + 6 * o9 + 3))]) := by rw [hw_44, va_up_ne _ _ (by omega)]; exact h_38
  have h_53 : w_44 (23 + 6 * o9 + 1) = .inr (4, [.ref (adr (23 + 6 * o9 + 2)), .int (nI (on_ o9))]) := by rw [hw_44, va_up_ne _ _ (by omega)]; exact h_39
  have h_54 : w_44 (23 + 6 * o9 + 2) = .inl (ac 0, 8, .inl (fun j => nI (owd o9 j))) := by rw [hw_44, va_up_ne _ _ (by omega)]; exact h_40
  have h_55 : w_44 (23 + 6 * o9 + 3) = .inr (4, [.ref (adr (23 + 6 * o9 + 4)), .int (nI (on_ o9))]) := by rw [hw_44, va_up_ne _ _ (by omega)]; exact h_41
  have h_56 : w_44 (23 + 6 * o9 + 4) = .inl (ac 0, 8, .inl (mixF ((on_ o9)) (fun _ => -1) (obf o9))) := by rw [hw_44]; exact va_up_self _ _ _
  refine lv_aload_n hx hb dX7_giveBack_29 rfl (lv_at hl 1 rfl) ?_
  refine lv_aload_n hx hb dX7_giveBack_30 rfl (lv_at hl 0 rfl) ?_
  refine m_getN (host := RX7) (ci := 3) (C := RX3) (T := TX3) (n := 7) (v := .int (rb o9)) hx hb hts inX3_ hown hK rfl (hM.cel (by have := ho_; omega) h_51) 1 (by decide) 22 rfl rfl dX7_giveBack_31 ?_
  refine r_callq (va_runV (As := [.int (rb o9)]) (rest := []) ⟨hx, hb, hml, hown, hts⟩ (k_X7_deskFor l D ac _ (adr 0) (adr 16) (adr 18) (.ref (adr 1)) (.ref (adr 3)) (.ref (adr 7)) (.ref (adr 14)) (.ref (adr 15)) (.ref (adr 20)) (.ref (adr 21)) (.int (nI no)) (.int le) (.int pr) (.int ra) (hM.cel (by omega) h_45) (rb o9)) (cwV 1 hts gX7_giveBack_X7_deskFor rfl rfl rfl (by decide +kernel) ⟨Nat.le_of_ble_eq_true rfl, Nat.le_of_ble_eq_true rfl⟩) (pV hK (ci := 7) rfl (hM.cel (by omega) h_45)) rfl rfl hl.1 rfl (lv_room (Nat.le_of_ble_eq_true rfl)) dX7_giveBack_34 ⟨Nat.le_of_ble_eq_true rfl, Nat.le_of_ble_eq_true rfl⟩) hS (fun rv_57 locs hrv_57 hS => ?_)
  subst hrv_57
  by_cases hb0_ : rb o9 = 0
  · refine m_topq (if_pos hb0_) ?_
    refine m_topr ?_
    refine lv_aload_n hx hb dX7_giveBack_37 rfl (lv_at hl 0 rfl) ?_
    refine m_getN (host := RX7) (ci := 3) (C := RX3) (T := TX3) (n := 7) (v := .int (nI o9)) hx hb hts inX3_ hown hK rfl (hM.cel (by have := ho_; omega) h_51) 0 (by decide) 21 rfl rfl dX7_giveBack_38 ?_
    refine w_callv (va_runV (As := [.int (nI o9)]) (rest := []) ⟨hx, hb, hml, hown, hts⟩ (k_X1_addFirst l D ac _ A N adr w_44 hM 18 19 nq (fun j => nI (oq j)) (by omega) (by omega) (by omega) h_49 h_50 (by omega) (nI o9)) (cwV 1 hts gX7_giveBack_X1_addFirst rfl rfl rfl (by decide +kernel) ⟨Nat.le_of_ble_eq_true rfl, Nat.le_of_ble_eq_true rfl⟩) (pV hK (ci := 1) rfl (hM.cel (by omega) h_49)) rfl rfl hl.1 rfl (lv_room (Nat.le_of_ble_eq_true rfl)) dX7_giveBack_41 ⟨Nat.le_of_ble_eq_true rfl, Nat.le_of_ble_eq_true rfl⟩) hS (fun w_59 H locs hw_59 hM hS => ?_)
    obtain ⟨f_, hw_59, hf_⟩ := hw_59
    obtain ⟨d2_, hd2_, hl2_⟩ := first_nat hf_
    subst hd2_
    have h_60 : w_59 0 = .inr (7, [.ref (adr 1), .ref (adr 3), .ref (adr 7), .ref (adr 14), .ref (adr 15), .ref (adr 16), .ref (adr 18), .ref (adr 20), .ref (adr 21), .int (nI no), .int le, .int pr, .int ra]) := by rw [hw_59, va_up_ne _ _ (by omega), va_up_ne _ _ (by omega)]; exact h_45
    have h_61 : w_59 15 = .inl (ac 3, 4, .inr (.inr (.inr (.inr (href adr (va_up hd t9 none)))))) := by rw [hw_59, va_up_ne _ _ (by omega), va_up_ne _ _ (by omega)]; exact h_46
    have h_62 : w_59 16 = .inr (1, [.ref (adr 17), .int (nI nr)]) := by rw [hw_59, va_up_ne _ _ (by omega), va_up_ne _ _ (by omega)]; exact h_47
    have h_63 : w_59 17 = .inl (ac 0, 60, .inl (fun j => nI (rq j))) := by rw [hw_59, va_up_ne _ _ (by omega), va_up_ne _ _ (by omega)]; exact h_48
    have h_64 : w_59 18 = .inr (1, [.ref (adr 19), .int (nI (nq + 1))]) := by rw [hw_59]; exact va_up_self _ _ _
    have h_65 : w_59 19 = .inl (ac 0, 60, .inl (fun j => nI (d2_ j))) := by rw [hw_59, va_up_ne _ _ (by omega)]; exact va_up_self _ _ _
    have h_66 : w_59 (22 + 6 * o9) = .inr (3, [.int (nI o9), .int (rb o9), .ref (adr (23 + 6 * o9)), .int (-1), .int (-1), .int (co o9), .int (py o9)]) := by rw [hw_59, va_up_ne _ _ (by omega), va_up_ne _ _ (by omega)]; exact h_51
    have h_67 : w_59 (23 + 6 * o9) = .inr (6, [.int (nI (oc o9)), .ref (adr (23 + 6 * o9 + 1)), .ref (adr (23 + 6 * o9 + 3))]) := by rw [hw_59, va_up_ne _ _ (by omega), va_up_ne _ _ (by omega)]; exact h_52
    have h_68 : w_59 (23 + 6 * o9 + 1) = .inr (4, [.ref (adr (23 + 6 * o9 + 2)), .int (nI (on_ o9))]) := by rw [hw_59, va_up_ne _ _ (by omega), va_up_ne _ _ (by omega)]; exact h_53
    have h_69 : w_59 (23 + 6 * o9 + 2) = .inl (ac 0, 8, .inl (fun j => nI (owd o9 j))) := by rw [hw_59, va_up_ne _ _ (by omega), va_up_ne _ _ (by omega)]; exact h_54
    have h_70 : w_59 (23 + 6 * o9 + 3) = .inr (4, [.ref (adr (23 + 6 * o9 + 4)), .int (nI (on_ o9))]) := by rw [hw_59, va_up_ne _ _ (by omega), va_up_ne _ _ (by omega)]; exact h_55
    have h_71 : w_59 (23 + 6 * o9 + 4) = .inl (ac 0, 8, .inl (mixF ((on_ o9)) (fun _ => -1) (obf o9))) := by rw [hw_59, va_up_ne _ _ (by omega), va_up_ne _ _ (by omega)]; exact h_56
    refine lv_aload_n hx hb dX7_giveBack_44 rfl (lv_at hl 0 rfl) ?_
    refine m_getN (host := RX7) (ci := 3) (C := RX3) (T := TX3) (n := 7) (v := .int (nI o9)) hx hb hts inX3_ hown hK rfl (hM.cel (by have := ho_; omega) h_66) 0 (by decide) 21 rfl rfl dX7_giveBack_45 ?_
    exact ex_i hx hb hlocks hr dX7_giveBack_48 (Nat.le_of_ble_eq_true rfl) (Nat.le_of_ble_eq_true rfl) hM hS (⟨t9, o9, ht9_, rfl, hht_, rfl, Or.inl ⟨hb0_, d2_, hl2_, by rw [hw_59, hw_44, ew_30, ew_17, hw_4]; exact ⟨(TGW.up (by omega) (TGW.up (by omega) (TGW.up (by omega) (TGW.up (by omega) (TGW.up (by omega) (TGW.up (by omega) hR.1)))))), (DraW.up (by omega) (DraW.up (by omega) (DraW.up (by omega) (DraW.up (by omega) (DraW.up (by omega) (DraW.up (by omega) hR.2.1)))))), (RulW.up (by omega) (RulW.up (by omega) (RulW.up (by omega) (RulW.up (by omega) (RulW.up (by omega) (RulW.up (by omega) hR.2.2.1)))))), (MemW.up (by omega) (MemW.up (by omega) (MemW.up (by omega) (MemW.up (by omega) (MemW.up (by omega) (MemW.up (by omega) hR.2.2.2.1)))))), (SenF.up (by omega) (SenF.up (by omega) (SenF.bf4 (SenF.up (by omega) (SenF.up (by omega) (SenF.up (by omega) hR.2.2.2.2.1)))))), (OrdF.up (by omega) (OrdF.up (by omega) (OrdF.up (by omega) (OrdF.set (OrdF.set (OrdF.up (by omega) hR.2.2.2.2.2.1) rfl (va_up_same rfl).symm (va_up_same rfl).symm (va_up_same rfl).symm) va_up_up.symm rfl (va_up_same rfl).symm (va_up_same rfl).symm)))), (DesW.oq (by omega) (DesW.up (by omega) (DesW.up (by omega) (DesW.up (by omega) (DesW.up (by omega) hR.2.2.2.2.2.2.1))))), (HanW.up (by omega) (HanW.up (by omega) (HanW.up (by omega) (HanW.up (by omega) (HanW.up (by omega) (HanW.hd hR.2.2.2.2.2.2.2.1)))))), (MonW.up (by omega) (MonW.up (by omega) (MonW.up (by omega) (MonW.up (by omega) (MonW.up (by omega) (MonW.up (by omega) hR.2.2.2.2.2.2.2.2.1)))))), (HIn.back_o hin_ ht9_ hht_ hb0_ hl2_)⟩⟩⟩)
  · refine m_topq (if_neg hb0_) ?_
    refine m_topr ?_
    refine lv_aload_n hx hb dX7_giveBack_37 rfl (lv_at hl 0 rfl) ?_
    refine m_getN (host := RX7) (ci := 3) (C := RX3) (T := TX3) (n := 7) (v := .int (nI o9)) hx hb hts inX3_ hown hK rfl (hM.cel (by have := ho_; omega) h_51) 0 (by decide) 21 rfl rfl dX7_giveBack_38 ?_
    refine w_callv (va_runV (As := [.int (nI o9)]) (rest := []) ⟨hx, hb, hml, hown, hts⟩ (k_X1_addFirst l D ac _ A N adr w_44 hM 16 17 nr (fun j => nI (rq j)) (by omega) (by omega) (by omega) h_47 h_48 (by omega) (nI o9)) (cwV 1 hts gX7_giveBack_X1_addFirst rfl rfl rfl (by decide +kernel) ⟨Nat.le_of_ble_eq_true rfl, Nat.le_of_ble_eq_true rfl⟩) (pV hK (ci := 1) rfl (hM.cel (by omega) h_47)) rfl rfl hl.1 rfl (lv_room (Nat.le_of_ble_eq_true rfl)) dX7_giveBack_41 ⟨Nat.le_of_ble_eq_true rfl, Nat.le_of_ble_eq_true rfl⟩) hS (fun w_73 H locs hw_73 hM hS => ?_)
    obtain ⟨f_, hw_73, hf_⟩ := hw_73
    obtain ⟨d2_, hd2_, hl2_⟩ := first_nat hf_
    subst hd2_
    have h_74 : w_73 0 = .inr (7, [.ref (adr 1), .ref (adr 3), .ref (adr 7), .ref (adr 14), .ref (adr 15), .ref (adr 16), .ref (adr 18), .ref (adr 20), .ref (adr 21), .int (nI no), .int le, .int pr, .int ra]) := by rw [hw_73, va_up_ne _ _ (by omega), va_up_ne _ _ (by omega)]; exact h_45
    have h_75 : w_73 15 = .inl (ac 3, 4, .inr (.inr (.inr (.inr (href adr (va_up hd t9 none)))))) := by rw [hw_73, va_up_ne _ _ (by omega), va_up_ne _ _ (by omega)]; exact h_46
    have h_76 : w_73 16 = .inr (1, [.ref (adr 17), .int (nI (nr + 1))]) := by rw [hw_73]; exact va_up_self _ _ _
    have h_77 : w_73 17 = .inl (ac 0, 60, .inl (fun j => nI (d2_ j))) := by rw [hw_73, va_up_ne _ _ (by omega)]; exact va_up_self _ _ _
    have h_78 : w_73 18 = .inr (1, [.ref (adr 19), .int (nI nq)]) := by rw [hw_73, va_up_ne _ _ (by omega), va_up_ne _ _ (by omega)]; exact h_49
    have h_79 : w_73 19 = .inl (ac 0, 60, .inl (fun j => nI (oq j))) := by rw [hw_73, va_up_ne _ _ (by omega), va_up_ne _ _ (by omega)]; exact h_50
    have h_80 : w_73 (22 + 6 * o9) = .inr (3, [.int (nI o9), .int (rb o9), .ref (adr (23 + 6 * o9)), .int (-1), .int (-1), .int (co o9), .int (py o9)]) := by rw [hw_73, va_up_ne _ _ (by omega), va_up_ne _ _ (by omega)]; exact h_51
    have h_81 : w_73 (23 + 6 * o9) = .inr (6, [.int (nI (oc o9)), .ref (adr (23 + 6 * o9 + 1)), .ref (adr (23 + 6 * o9 + 3))]) := by rw [hw_73, va_up_ne _ _ (by omega), va_up_ne _ _ (by omega)]; exact h_52
    have h_82 : w_73 (23 + 6 * o9 + 1) = .inr (4, [.ref (adr (23 + 6 * o9 + 2)), .int (nI (on_ o9))]) := by rw [hw_73, va_up_ne _ _ (by omega), va_up_ne _ _ (by omega)]; exact h_53
    have h_83 : w_73 (23 + 6 * o9 + 2) = .inl (ac 0, 8, .inl (fun j => nI (owd o9 j))) := by rw [hw_73, va_up_ne _ _ (by omega), va_up_ne _ _ (by omega)]; exact h_54
    have h_84 : w_73 (23 + 6 * o9 + 3) = .inr (4, [.ref (adr (23 + 6 * o9 + 4)), .int (nI (on_ o9))]) := by rw [hw_73, va_up_ne _ _ (by omega), va_up_ne _ _ (by omega)]; exact h_55
    have h_85 : w_73 (23 + 6 * o9 + 4) = .inl (ac 0, 8, .inl (mixF ((on_ o9)) (fun _ => -1) (obf o9))) := by rw [hw_73, va_up_ne _ _ (by omega), va_up_ne _ _ (by omega)]; exact h_56
    refine lv_aload_n hx hb dX7_giveBack_44 rfl (lv_at hl 0 rfl) ?_
    refine m_getN (host := RX7) (ci := 3) (C := RX3) (T := TX3) (n := 7) (v := .int (nI o9)) hx hb hts inX3_ hown hK rfl (hM.cel (by have := ho_; omega) h_80) 0 (by decide) 21 rfl rfl dX7_giveBack_45 ?_
    exact ex_i hx hb hlocks hr dX7_giveBack_48 (Nat.le_of_ble_eq_true rfl) (Nat.le_of_ble_eq_true rfl) hM hS (⟨t9, o9, ht9_, rfl, hht_, rfl, Or.inr ⟨hb0_, d2_, hl2_, by rw [hw_73, hw_44, ew_30, ew_17, hw_4]; exact ⟨(TGW.up (by omega) (TGW.up (by omega) (TGW.up (by omega) (TGW.up (by omega) (TGW.up (by omega) (TGW.up (by omega) hR.1)))))), (DraW.up (by omega) (DraW.up (by omega) (DraW.up (by omega) (DraW.up (by omega) (DraW.up (by omega) (DraW.up (by omega) hR.2.1)))))), (RulW.up (by omega) (RulW.up (by omega) (RulW.up (by omega) (RulW.up (by omega) (RulW.up (by omega) (RulW.up (by omega) hR.2.2.1)))))), (MemW.up (by omega) (MemW.up (by omega) (MemW.up (by omega) (MemW.up (by omega) (MemW.up (by omega) (MemW.up (by omega) hR.2.2.2.1)))))), (SenF.up (by omega) (SenF.up (by omega) (SenF.bf4 (SenF.up (by omega) (SenF.up (by omega) (SenF.up (by omega) hR.2.2.2.2.1)))))), (OrdF.up (by omega) (OrdF.up (by omega) (OrdF.up (by omega) (OrdF.set (OrdF.set (OrdF.up (by omega) hR.2.2.2.2.2.1) rfl (va_up_same rfl).symm (va_up_same rfl).symm (va_up_same rfl).symm) va_up_up.symm rfl (va_up_same rfl).symm (va_up_same rfl).symm)))), (DesW.rq (by omega) (DesW.up (by omega) (DesW.up (by omega) (DesW.up (by omega) (DesW.up (by omega) hR.2.2.2.2.2.2.1))))), (HanW.up (by omega) (HanW.up (by omega) (HanW.up (by omega) (HanW.up (by omega) (HanW.up (by omega) (HanW.hd hR.2.2.2.2.2.2.2.1)))))), (MonW.up (by omega) (MonW.up (by omega) (MonW.up (by omega) (MonW.up (by omega) (MonW.up (by omega) (MonW.up (by omega) hR.2.2.2.2.2.2.2.2.1)))))), (HIn.back_r hin_ ht9_ hht_ hb0_ hl2_)⟩⟩⟩)
set_option maxHeartbeats 4000000 in
set_option maxRecDepth 100000 in
/-- translate -/
theorem k_X7_translate (l : Launch) (D : va_G) (ac : Nat → ClassId) (H : Heap) (hlt : l.stackTraces = false) (A : Nat → Prop) (N : Nat) (adr : Nat → Nat) (w : Nat → va_E) (hM : MW D A N adr w H) (dl : Nat) (dw : Nat → Nat) (fs : Nat → Int32) (fr : Nat → Int32) (ft : Nat → Nat) (ns : Nat) (so : Nat → Nat) (hv : Nat → Int64) (nd : Nat) (du : Nat → Nat) (T : Nat → Int32) (nr : Nat) (rq : Nat → Nat) (nq : Nat) (oq : Nat → Nat) (pd : Nat → Int32) (er : Nat → Int32) (no : Nat) (oc : Nat → Nat) (on_ : Nat → Nat) (owd : Nat → Nat → Nat) (obf : Nat → Nat → Int32) (rb : Nat → Int32) (st : Nat → Int32) (mt : Nat → Int32) (co : Nat → Int32) (py : Nat → Int32) (hd : Nat → Option Nat) (le : Int32) (pr : Int32) (ra : Int32) (hR : HR ac adr w dl dw fs fr ft ns so hv nd du T nr rq nq oq pd er no oc on_ owd obf rb st mt co py hd le pr ra) (hN : 22 + 6 * no ≤ N) (x y z : Int32) : WXi l yX7_translate wsX7_translate ({ frames := 8, cells := 3, slots := 18, locals := 131 }) [.ref (adr 0), .int x, .int y, .int z] D ac H A N adr w (fun r w1 => ∃ o k, (ix x 4).bind hd = some o ∧ k < on_ o ∧ y = nI k ∧ (ix z 100).isNone = false ∧ r = nI (opn (upd (obf o) k z) (on_ o)) ∧ HR ac adr w1 dl dw fs fr ft ns so hv nd du T nr rq nq oq pd er no oc on_ owd (fun x => if x = o then upd (obf o) k z else obf x) rb st mt co py hd le pr ra) (XC3 xIA xIS xIO (cd3 ((ix z 100).isNone || (ix x 4).isNone) ((ix x 4).bind hd).isNone (((ix x 4).bind hd).elim true (fun o => (ix y (on_ o)).isNone)))) 3 18 := by
  refine vx_ofW (cc := cX7_translate) (maxL := 5) (ret := (some .int)) (by decide) rfl ?_
  intro p e s m args below meth c s₁ B hml hout hv
  obtain ⟨hargs, hsz, hK, hX⟩ := hv
  have hx := B.exec
  have hb := B.bytes
  have hr := B.returns
  have hts := atoms_spec (ws := wsX7_translate) B.pre
  have hown : s.vm.findClass RX7 = some m.cls := findClass_of_methodNamed B.named
  have hlocks := B.notSynchronized
  subst hsz
  have inX3_ : ∀ w ∈ wsX30, w ∈ wsX7_translate := by decide +kernel
  have inX6_ : ∀ w ∈ wsX60, w ∈ wsX7_translate := by decide +kernel
  have hgIA_ : ∀ w ∈ (vx_at0 RX7 71 xIA xNames).filter goodWord, w ∈ wsX7_translate := by decide +kernel
  have hS : va_S A s.heap s.heap [] := va_S.rf
  have hl := lv_entry ([.ref (adr 0), .int x, .int y, .int z]) (n := 5) (Nat.le_of_ble_eq_true rfl)
  have hen := lg_entry_eq m [.ref (adr 0), .int x, .int y, .int z] 5
  rw [← hargs] at hen
  rw [hen]
  generalize (lg_sl ([.ref (adr 0), .int x, .int y, .int z]) ++ List.replicate (5 - (lg_sl ([.ref (adr 0), .int x, .int y, .int z])).length) Slot.unset).toArray = ls at hl ⊢
  have hl : lv_has ls 5 [(0, .ref (adr 0)), (1, .int x), (2, .int y), (3, .int z)] := hl
  obtain ⟨h0, hdr, hru, hm, hS1, hO1, hde, hha, hmo, hin_⟩ := id hR
  obtain ⟨hns, hnd⟩ := hm.2.2.2.2.2.2.2
  have hso := fun i hi => (hin_.1 i hi).1
  obtain ⟨hnr60, hnq60⟩ := hde.2.2.2.2
  have hno60 := hha.2.2
  refine lv_iload_n hx hb dX7_translate_0 rfl (lv_at hl 3 rfl) ?_
  refine lv_if_lt (tgt := 10) hx hb dX7_translate_1 (by decide) (fun c1 => ?_) (fun c1 => ?_)
  · exact x_throw hx hb hlt hlocks hout hown (by decide) (hts _ (by decide +kernel)) (hts _ (by decide +kernel)) (fun w hw => hts w (hgIA_ w hw)) ng_IA ot_IA hX hM hS (hl.1.trans hml.symm) dX7_translate_10 dX7_translate_13 dX7_translate_14 dX7_translate_17 (Nat.le_of_ble_eq_true rfl) (Nat.le_of_ble_eq_true rfl) (Nat.le_of_ble_eq_true rfl) (Nat.le_of_ble_eq_true rfl) (Nat.le_of_ble_eq_true rfl) (Nat.le_of_ble_eq_true rfl) (Or.inl ⟨rfl, by rw [ixn (n := 100) (by first | exact Or.inl c1 | exact Or.inr (le_of_nlt c7))]; rfl⟩)
  · refine lv_iload_n hx hb dX7_translate_4 rfl (lv_at hl 3 rfl) ?_
    refine lv_bipush (v := 100) hx hb dX7_translate_5 (by decide) ?_
    refine lv_icmp_lt (tgt := 18) hx hb dX7_translate_7 (by decide) (fun c7 => ?_) (fun c7 => ?_)
    · obtain ⟨z9, hz9_, ez9_⟩ := ixk (n := 100) c1 (nle_of_lt c7) (by decide)
      have hz0_ : (ix z 100).isNone = false := ixs hz9_ (by decide) ez9_
      refine lv_aload_n hx hb dX7_translate_18 rfl (lv_at hl 0 rfl) ?_
      refine lv_iload_n hx hb dX7_translate_19 rfl (lv_at hl 1 rfl) ?_
      refine x_callq hlocks hout (vx_runV (As := [.int x]) (rest := []) ⟨hx, hb, hml, hown, hts⟩ (k_X7_orderInHandOf l D ac _ hlt A N adr w hM dl dw fs fr ft ns so hv nd du T nr rq nq oq pd er no oc on_ owd obf rb st mt co py hd le pr ra hR hN x) (cwV 1 hts gX7_translate_X7_orderInHandOf rfl rfl rfl (by decide +kernel) ⟨(Nat.le_of_ble_eq_true rfl), (Nat.le_of_ble_eq_true rfl)⟩) (pVX hK (hX.at hS) (ci := 7) rfl (hM.cel (by omega) h0)) rfl rfl hl.1 rfl (lv_room (Nat.le_of_ble_eq_true rfl)) dX7_translate_20 ⟨(Nat.le_of_ble_eq_true rfl), (Nat.le_of_ble_eq_true rfl)⟩) hS (fun E h => by rw [hz0_]; rcases h with ⟨h1, h2⟩ | ⟨h1, h2⟩; exact Or.inl ⟨h1, cd3_1 h2⟩; exact Or.inr (Or.inl ⟨h1, cd3_2 h2⟩)) (Nat.le_of_ble_eq_true rfl) (Nat.le_of_ble_eq_true rfl) (fun rv_1 w_2 H locs hw_2 hM hS => ?_)
      obtain ⟨o9, hob_, rfl, e9_⟩ := hw_2
      obtain rfl := e9_.symm
      obtain ⟨t9, ht9_, ex_t9, hht_⟩ := hd_of hob_
      obtain ⟨ho_, hlo_⟩ := hin_.hlo ht9_ hht_
      have hO_ := hO1 o9 ho_
      have hsn_ := hS1 o9 ho_
      obtain ⟨hn0_, hn8_, hcl_, hwd_⟩ := hsn_.2.2.2.2.2
      refine m_topr ?_
      refine m_getN (host := RX7) (ci := 3) (C := RX3) (T := TX3) (n := 7) (v := .ref (adr (23 + 6 * o9))) hx hb hts inX3_ hown hK rfl (hM.cel (by have := ho_; omega) hO_) 2 (by decide) 23 rfl rfl dX7_translate_23 ?_
      refine lv_astore (lv' := [(4, .ref (adr (23 + 6 * o9))), (0, .ref (adr 0)), (1, .int x), (2, .int y), (3, .int z)]) hx hb dX7_translate_26 hl (by decide) rfl (fun ls hl => ?_)
      refine lv_aload hx hb dX7_translate_28 (lv_at hl 0 rfl) ?_
      refine lv_iload_n hx hb dX7_translate_30 rfl (lv_at hl 3 rfl) ?_
      refine x_callv hlocks hout (vx_runS (As := [.ref (adr (23 + 6 * o9)), .int y]) (rest := []) ⟨hx, hb, hml, hown, hts⟩ (k_X7_refuseUnlessPlace l D ac _ hlt A N adr w hM (23 + 6 * o9) (oc o9) (on_ o9) (owd o9) (obf o9) (by omega) hsn_ y) (va_cwS 2 hts gX7_translate_X7_refuseUnlessPlace rfl rfl rfl (by decide +kernel) ⟨(Nat.le_of_ble_eq_true rfl), (Nat.le_of_ble_eq_true rfl)⟩) (pSX hK (hX.at hS)) rfl rfl hl.1 rfl (lv_room (Nat.le_of_ble_eq_true rfl)) dX7_translate_31 ⟨(Nat.le_of_ble_eq_true rfl), (Nat.le_of_ble_eq_true rfl)⟩) hS (fun E h => Or.inr (Or.inr ⟨h.1, cd3_3 (by rw [hz0_]; exact (ixb hob_).1) (ixb hob_).2 (by rw [hob_]; exact h.2)⟩)) (Nat.le_of_ble_eq_true rfl) (Nat.le_of_ble_eq_true rfl) (fun w_4 H locs hw_4 hM hS => ?_)
      obtain ⟨⟨p9, hk_p9, ex_p9⟩, e9_⟩ := hw_4
      obtain rfl := e9_.symm
      subst ex_p9
      refine lv_aload hx hb dX7_translate_34 (lv_at hl 0 rfl) ?_
      refine m_getN (host := RX7) (ci := 6) (C := RX6) (T := TX6) (n := 3) (v := .ref (adr (23 + 6 * o9 + 3))) hx hb hts inX6_ hown hK rfl (hM.cel (by have := ho_; omega) hsn_.1) 2 (by decide) 20 rfl rfl dX7_translate_36 ?_
      refine lv_iload_n hx hb dX7_translate_39 rfl (lv_at hl 3 rfl) ?_
      refine lv_iload_n hx hb dX7_translate_40 rfl (lv_at hl 4 rfl) ?_
      refine w_callv (va_runV (As := [.int (nI p9), .int z]) (rest := []) ⟨hx, hb, hml, hown, hts⟩ (k_X4_put l D ac _ A N adr w hM (23 + 6 * o9 + 3) (23 + 6 * o9 + 4) ((on_ o9)) (obf o9) (by have := ho_; omega) (by have := ho_; omega) (by omega) hsn_.2.2.2.1 hsn_.2.2.2.2.1 (by omega) p9 (by omega) z) (cwV 2 hts gX7_translate_X4_put rfl rfl rfl (by decide +kernel) ⟨Nat.le_of_ble_eq_true rfl, Nat.le_of_ble_eq_true rfl⟩) (pV hK (ci := 4) rfl (hM.cel (by have := ho_; omega) hsn_.2.2.2.1)) rfl rfl hl.1 rfl (lv_room (Nat.le_of_ble_eq_true rfl)) dX7_translate_41 ⟨Nat.le_of_ble_eq_true rfl, Nat.le_of_ble_eq_true rfl⟩) hS (fun w_6 H locs hw_6 hM hS => ?_)
      have h_7 : w_6 0 = .inr (7, [.ref (adr 1), .ref (adr 3), .ref (adr 7), .ref (adr 14), .ref (adr 15), .ref (adr 16), .ref (adr 18), .ref (adr 20), .ref (adr 21), .int (nI no), .int le, .int pr, .int ra]) := by rw [hw_6, va_up_ne _ _ (by omega)]; exact h0
      have h_8 : w_6 (22 + 6 * o9) = .inr (3, [.int (nI o9), .int (rb o9), .ref (adr (23 + 6 * o9)), .int (st o9), .int (mt o9), .int (co o9), .int (py o9)]) := by rw [hw_6, va_up_ne _ _ (by omega)]; exact hO_
      have h_9 : w_6 (23 + 6 * o9) = .inr (6, [.int (nI (oc o9)), .ref (adr (23 + 6 * o9 + 1)), .ref (adr (23 + 6 * o9 + 3))]) := by rw [hw_6, va_up_ne _ _ (by omega)]; exact hsn_.1
      have h_10 : w_6 (23 + 6 * o9 + 1) = .inr (4, [.ref (adr (23 + 6 * o9 + 2)), .int (nI (on_ o9))]) := by rw [hw_6, va_up_ne _ _ (by omega)]; exact hsn_.2.1
      have h_11 : w_6 (23 + 6 * o9 + 2) = .inl (ac 0, 8, .inl (fun j => nI (owd o9 j))) := by rw [hw_6, va_up_ne _ _ (by omega)]; exact hsn_.2.2.1
      have h_12 : w_6 (23 + 6 * o9 + 3) = .inr (4, [.ref (adr (23 + 6 * o9 + 4)), .int (nI (on_ o9))]) := by rw [hw_6, va_up_ne _ _ (by omega)]; exact hsn_.2.2.2.1
      have h_13 : w_6 (23 + 6 * o9 + 4) = .inl (ac 0, 8, .inl (upd (obf o9) p9 z)) := by rw [hw_6]; exact va_up_self _ _ _
      refine lv_aload hx hb dX7_translate_44 (lv_at hl 0 rfl) ?_
      refine r_calli (va_runV (As := []) (rest := []) ⟨hx, hb, hml, hown, hts⟩ (k_X6_countOpen l D ac _ (adr (23 + 6 * o9)) (adr (23 + 6 * o9 + 1)) (adr (23 + 6 * o9 + 2)) (adr (23 + 6 * o9 + 3)) (adr (23 + 6 * o9 + 4)) ((oc o9)) ((on_ o9)) (fun j => nI (owd o9 j)) (upd (obf o9) p9 z) (owd o9) ⟨(hM.cel (by have := ho_; omega) h_9), (hM.cel (by have := ho_; omega) h_10), (hM.cel (by have := ho_; omega) h_11), (hM.cel (by have := ho_; omega) h_12), (hM.cel (by have := ho_; omega) h_13), ⟨hn8_, hcl_, fun j hj => ⟨rfl, hwd_ j hj⟩⟩⟩) (cwV 0 hts gX7_translate_X6_countOpen rfl rfl rfl (by decide +kernel) ⟨Nat.le_of_ble_eq_true rfl, Nat.le_of_ble_eq_true rfl⟩) (pV hK (ci := 6) rfl (hM.cel (by have := ho_; omega) h_9)) rfl rfl hl.1 rfl (lv_room (Nat.le_of_ble_eq_true rfl)) dX7_translate_46 ⟨Nat.le_of_ble_eq_true rfl, Nat.le_of_ble_eq_true rfl⟩) hS (fun rv_14 locs hrv_14 hS => ?_)
      subst hrv_14
      exact ex_i hx hb hlocks hr dX7_translate_49 (Nat.le_of_ble_eq_true rfl) (Nat.le_of_ble_eq_true rfl) hM hS (⟨o9, p9, hob_, hk_p9, rfl, hz0_, rfl, by rw [hw_6]; exact ⟨(TGW.up (by omega) hR.1), (DraW.up (by omega) hR.2.1), (RulW.up (by omega) hR.2.2.1), (MemW.up (by omega) hR.2.2.2.1), (SenF.bf4 hR.2.2.2.2.1), (OrdF.up (by omega) hR.2.2.2.2.2.1), (DesW.up (by omega) hR.2.2.2.2.2.2.1), (HanW.up (by omega) hR.2.2.2.2.2.2.2.1), (MonW.up (by omega) hR.2.2.2.2.2.2.2.2.1), hR.2.2.2.2.2.2.2.2.2⟩⟩)
    · exact x_throw hx hb hlt hlocks hout hown (by decide) (hts _ (by decide +kernel)) (hts _ (by decide +kernel)) (fun w hw => hts w (hgIA_ w hw)) ng_IA ot_IA hX hM hS (hl.1.trans hml.symm) dX7_translate_10 dX7_translate_13 dX7_translate_14 dX7_translate_17 (Nat.le_of_ble_eq_true rfl) (Nat.le_of_ble_eq_true rfl) (Nat.le_of_ble_eq_true rfl) (Nat.le_of_ble_eq_true rfl) (Nat.le_of_ble_eq_true rfl) (Nat.le_of_ble_eq_true rfl) (Or.inl ⟨rfl, by rw [ixn (n := 100) (by first | exact Or.inl c1 | exact Or.inr (le_of_nlt c7))]; rfl⟩)
