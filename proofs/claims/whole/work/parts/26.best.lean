/-- the best match, as the class finds it among the sentences am -/
def bstV (nd : Nat) (du : Nat → Nat) (on_ : Nat → Nat) (owd : Nat → Nat → Nat) (so oc : Nat → Nat) (ns : Nat) (am : Int64) (n : Nat) (f : Nat → Int32) (cl le : Int32) : Int32 := (bst (skD am nd du) (fun i => lkO n f on_ owd (so i)) (fun i => if nI (oc (so i)) = cl then (1 : Int32) else 0) le ns).1
set_option maxHeartbeats 4000000 in
set_option maxRecDepth 100000 in
/-- bestFor -/
theorem k_X7_bestFor (l : Launch) (D : va_G) (ac : Nat → ClassId) (H : Heap) (A : Nat → Prop) (N : Nat) (adr : Nat → Nat) (w : Nat → va_E) (hM : MW D A N adr w H) (no : Nat) (oc on_ : Nat → Nat) (owd : Nat → Nat → Nat) (obf : Nat → Nat → Int32) (ns : Nat) (so : Nat → Nat) (hv : Nat → Int64) (nd : Nat) (du : Nat → Nat) (T : Nat → Int32) (hN : 22 + 6 * no ≤ N) (hS1 : SenF ac adr w no oc on_ owd obf) (hm : MemW ac adr w ns so hv nd du T) (hso : ∀ i, i < ns → so i < no) (le pr ra : Int32) (h0 : TGW adr w no le pr ra) (ra9 va9 n : Nat) (wd : Nat → Nat) (hra : ra9 < N) (hva : va9 < N) (hrn : (ra9 < 7 ∨ 13 < ra9) ∧ (va9 < 7 ∨ 13 < va9)) (hn0 : 0 < n) (hn : n ≤ 8) (hwd : ∀ j, j < n → wd j < 50) (g1 : w ra9 = .inr (4, [.ref (adr va9), .int (nI n)])) (g2 : w va9 = .inl (ac 0, 8, .inl (fun j => nI (wd j)))) (cl : Int32) : WRi l yX7_bestFor wsX7_bestFor ({ frames := 5, cells := 0, slots := 0, locals := 131 }) [.ref (adr 0), .int cl, .ref (adr ra9)] D ac H A N adr (fun r w1 => r = bstV nd du on_ owd so oc ns (shw hv wd n) n (fun j => nI (wd j)) cl le ∧ ∃ T1 : Nat → Int32, w1 = va_up w 13 (.inl (ac 0, 81, .inl T1))) := by
  refine Met.ofW (cc := cX7_bestFor) (maxL := 3) (ret := (some .int)) (by decide) rfl ?_
  intro p e s m args below meth c s₁ B hml hv
  obtain ⟨hargs, hsz, hK⟩ := hv
  have hx := B.exec
  have hb := B.bytes
  have hr := B.returns
  have hts := atoms_spec (ws := wsX7_bestFor) B.pre
  have hown : s.vm.findClass RX7 = some m.cls := findClass_of_methodNamed B.named
  have hlocks := B.notSynchronized
  subst hsz
  have inX7_ : ∀ w ∈ wsX70, w ∈ wsX7_bestFor := by decide +kernel
  have hS : va_S A s.heap s.heap [] := va_S.rf
  have hl := lv_entry ([.ref (adr 0), .int cl, .ref (adr ra9)]) (n := 3) (Nat.le_of_ble_eq_true rfl)
  have hen := lg_entry_eq m [.ref (adr 0), .int cl, .ref (adr ra9)] 3
  rw [← hargs] at hen
  rw [hen]
  generalize (lg_sl ([.ref (adr 0), .int cl, .ref (adr ra9)]) ++ List.replicate (3 - (lg_sl ([.ref (adr 0), .int cl, .ref (adr ra9)])).length) Slot.unset).toArray = ls at hl ⊢
  have hl : lv_has ls 3 [(0, .ref (adr 0)), (1, .int cl), (2, .ref (adr ra9))] := hl
  obtain ⟨hns, hnd⟩ := hm.2.2.2.2.2.2.2
  refine lv_aload_n hx hb dX7_bestFor_0 rfl (lv_at hl 0 rfl) ?_
  refine m_get (ci := 7) (C := RX7) (T := TX7) (n := 13) (v := .ref (adr 7)) hx hb hts inX7_ hown hK rfl (hM.cel (by omega) h0) 2 (by decide) (hts _ (by decide +kernel)) rfl dX7_bestFor_1 ?_
  refine lv_aload_n hx hb dX7_bestFor_4 rfl (lv_at hl 0 rfl) ?_
  refine m_get (ci := 7) (C := RX7) (T := TX7) (n := 13) (v := .ref (adr 7)) hx hb hts inX7_ hown hK rfl (hM.cel (by omega) h0) 2 (by decide) (hts _ (by decide +kernel)) rfl dX7_bestFor_5 ?_
  refine lv_aload_n hx hb dX7_bestFor_8 rfl (lv_at hl 2 rfl) ?_
  refine r_calll (va_runV (As := [.ref (adr ra9)]) (rest := [.ref (adr 7)]) ⟨hx, hb, hml, hown, hts⟩ (k_X2_sharingWith l D ac _ (adr 7) (adr 9) hv (.ref (adr 8)) (.ref (adr 10)) (.ref (adr 12)) (.int (nI ns)) (hM.cel (by omega) hm.1) (hM.cel (by omega) hm.2.2.1) (adr ra9) (adr va9) n wd (hM.cel hra g1) (hM.cel hva g2) (by omega) hwd) (cwV 1 hts gX7_bestFor_X2_sharingWith rfl rfl rfl (by decide +kernel) ⟨Nat.le_of_ble_eq_true rfl, Nat.le_of_ble_eq_true rfl⟩) (pV hK (ci := 2) rfl (hM.cel (by omega) hm.1)) rfl rfl hl.1 rfl (lv_room (Nat.le_of_ble_eq_true rfl)) dX7_bestFor_9 ⟨Nat.le_of_ble_eq_true rfl, Nat.le_of_ble_eq_true rfl⟩) hS (fun rv_1 locs hrv_1 hS => ?_)
  subst hrv_1
  refine lv_aload_n hx hb dX7_bestFor_12 rfl (lv_at hl 2 rfl) ?_
  refine lv_iload_n hx hb dX7_bestFor_13 rfl (lv_at hl 1 rfl) ?_
  refine lv_aload_n hx hb dX7_bestFor_14 rfl (lv_at hl 0 rfl) ?_
  refine m_get (ci := 7) (C := RX7) (T := TX7) (n := 13) (v := .int le) hx hb hts inX7_ hown hK rfl (hM.cel (by omega) h0) 10 (by decide) (hts _ (by decide +kernel)) rfl dX7_bestFor_15 ?_
  refine w_calli (va_runV (As := [.long (shw hv wd n), .ref (adr ra9), .int cl, .int le]) (rest := []) ⟨hx, hb, hml, hown, hts⟩ (k_X2_bestAmong l D ac _ A N adr w hM no oc on_ owd obf ns so hv nd du T (by omega) hS1 ⟨hm.1, hm.2.1, hm.2.2.1, hm.2.2.2.1, hm.2.2.2.2.1, hm.2.2.2.2.2.1, hm.2.2.2.2.2.2.1, hm.2.2.2.2.2.2.2⟩ hso ra9 va9 n (fun j => nI (wd j)) hra hva (by omega) (by omega) (by omega) g1 g2 (shw hv wd n) cl le) (cwV 4 hts gX7_bestFor_X2_bestAmong rfl rfl rfl (by decide +kernel) ⟨Nat.le_of_ble_eq_true rfl, Nat.le_of_ble_eq_true rfl⟩) (pV hK (ci := 2) rfl (hM.cel (by omega) hm.1)) rfl rfl hl.1 rfl (lv_room (Nat.le_of_ble_eq_true rfl)) dX7_bestFor_18 ⟨Nat.le_of_ble_eq_true rfl, Nat.le_of_ble_eq_true rfl⟩) hS (fun rv_2 w_3 H locs hw_3 hM hS => ?_)
  obtain ⟨hrv_2, hw_3⟩ := hw_3
  obtain ⟨T_4, hw_3⟩ := hw_3
  have h_5 : w_3 7 = .inr (2, [.ref (adr 8), .ref (adr 9), .ref (adr 10), .ref (adr 12), .int (nI ns)]) := by rw [hw_3, va_up_ne _ _ (by omega)]; exact hm.1
  have h_6 : w_3 8 = .inl (ac 4, 40, .inr (.inr (.inr (.inr (sref adr ns so))))) := by rw [hw_3, va_up_ne _ _ (by omega)]; exact hm.2.1
  have h_7 : w_3 9 = .inl (ac 1, 50, .inr (.inl hv)) := by rw [hw_3, va_up_ne _ _ (by omega)]; exact hm.2.2.1
  have h_8 : w_3 10 = .inr (1, [.ref (adr 11), .int (nI nd)]) := by rw [hw_3, va_up_ne _ _ (by omega)]; exact hm.2.2.2.1
  have h_9 : w_3 11 = .inl (ac 0, 60, .inl (fun j => nI (du j))) := by rw [hw_3, va_up_ne _ _ (by omega)]; exact hm.2.2.2.2.1
  have h_10 : w_3 12 = .inr (0, [.ref (adr 13)]) := by rw [hw_3, va_up_ne _ _ (by omega)]; exact hm.2.2.2.2.2.1
  have h_11 : w_3 13 = .inl (ac 0, 81, .inl T_4) := by rw [hw_3]; exact va_up_self _ _ _
  have h_12 : w_3 0 = .inr (7, [.ref (adr 1), .ref (adr 3), .ref (adr 7), .ref (adr 14), .ref (adr 15), .ref (adr 16), .ref (adr 18), .ref (adr 20), .ref (adr 21), .int (nI no), .int le, .int pr, .int ra]) := by rw [hw_3, va_up_ne _ _ (by omega)]; exact h0
  have h_13 : w_3 ra9 = .inr (4, [.ref (adr va9), .int (nI n)]) := by rw [hw_3, va_up_ne _ _ (by omega)]; exact g1
  have h_14 : w_3 va9 = .inl (ac 0, 8, .inl (fun j => nI (wd j))) := by rw [hw_3, va_up_ne _ _ (by omega)]; exact g2
  have h_15 : SenF ac adr w_3 no oc on_ owd obf := by rw [hw_3]; exact (SenF.up (by omega) hS1)
  have hrv_2 : rv_2 = bstV nd du on_ owd so oc ns (shw hv wd n) n (fun j => nI (wd j)) cl le := hrv_2
  subst hrv_2
  exact e_wi hx hb hlocks hr dX7_bestFor_21 hM hS (⟨rfl, _, hw_3⟩)
set_option maxHeartbeats 4000000 in
set_option maxRecDepth 100000 in
/-- likeness -/
theorem k_X7_likeness (l : Launch) (D : va_G) (ac : Nat → ClassId) (H : Heap) (hlt : l.stackTraces = false) (A : Nat → Prop) (N : Nat) (adr : Nat → Nat) (w : Nat → va_E) (hM : MW D A N adr w H) (dl : Nat) (dw : Nat → Nat) (fs : Nat → Int32) (fr : Nat → Int32) (ft : Nat → Nat) (ns : Nat) (so : Nat → Nat) (hv : Nat → Int64) (nd : Nat) (du : Nat → Nat) (T : Nat → Int32) (nr : Nat) (rq : Nat → Nat) (nq : Nat) (oq : Nat → Nat) (pd : Nat → Int32) (er : Nat → Int32) (no : Nat) (oc : Nat → Nat) (on_ : Nat → Nat) (owd : Nat → Nat → Nat) (obf : Nat → Nat → Int32) (rb : Nat → Int32) (st : Nat → Int32) (mt : Nat → Int32) (co : Nat → Int32) (py : Nat → Int32) (hd : Nat → Option Nat) (le : Int32) (pr : Int32) (ra : Int32) (hR : HR ac adr w dl dw fs fr ft ns so hv nd du T nr rq nq oq pd er no oc on_ owd obf rb st mt co py hd le pr ra) (hN : 22 + 6 * no ≤ N) (x : Int32) : WXi l yX7_likeness wsX7_likeness ({ frames := 7, cells := 2, slots := 12, locals := 111 }) [.ref (adr 0), .int x] D ac H A N adr w (fun r w1 => ∃ i, i < ns ∧ x = nI i ∧ 0 < dl ∧ r = lkO dl (fun j => nI (dw j)) on_ owd (so i) ∧ ∃ T1, HR ac adr w1 dl dw fs fr ft ns so hv nd du T1 nr rq nq oq pd er no oc on_ owd obf rb st mt co py hd le pr ra) (XC2 xIO xIS (cd2 (ix x ns).isNone (decide (dl = 0)))) 2 12 := by
  refine vx_ofW (cc := cX7_likeness) (maxL := 3) (ret := (some .int)) (by decide) rfl ?_
  intro p e s m args below meth c s₁ B hml hout hv
  obtain ⟨hargs, hsz, hK, hX⟩ := hv
  have hx := B.exec
  have hb := B.bytes
  have hr := B.returns
  have hts := atoms_spec (ws := wsX7_likeness) B.pre
  have hown : s.vm.findClass RX7 = some m.cls := findClass_of_methodNamed B.named
  have hlocks := B.notSynchronized
  subst hsz
  have inX2_ : ∀ w ∈ wsX20, w ∈ wsX7_likeness := by decide +kernel
  have inX6_ : ∀ w ∈ wsX60, w ∈ wsX7_likeness := by decide +kernel
  have inX7_ : ∀ w ∈ wsX70, w ∈ wsX7_likeness := by decide +kernel
  have hS : va_S A s.heap s.heap [] := va_S.rf
  have hl := lv_entry ([.ref (adr 0), .int x]) (n := 3) (Nat.le_of_ble_eq_true rfl)
  have hen := lg_entry_eq m [.ref (adr 0), .int x] 3
  rw [← hargs] at hen
  rw [hen]
  generalize (lg_sl ([.ref (adr 0), .int x]) ++ List.replicate (3 - (lg_sl ([.ref (adr 0), .int x])).length) Slot.unset).toArray = ls at hl ⊢
  have hl : lv_has ls 3 [(0, .ref (adr 0)), (1, .int x)] := hl
  obtain ⟨h0, hdr, hru, hm, hS1, hO1, hde, hha, hmo, hin_⟩ := id hR
  obtain ⟨hns, hnd⟩ := hm.2.2.2.2.2.2.2
  have hso := fun i hi => (hin_.1 i hi).1
  have hdl8_ := hdr.2.2.1
  refine lv_aload_n hx hb dX7_likeness_0 rfl (lv_at hl 0 rfl) ?_
  refine lv_iload_n hx hb dX7_likeness_1 rfl (lv_at hl 1 rfl) ?_
  refine x_callq hlocks hout (vx_runV (As := [.int x]) (rest := []) ⟨hx, hb, hml, hown, hts⟩ (k_X7_soldSentence l D ac _ hlt A N adr w hM dl dw fs fr ft ns so hv nd du T nr rq nq oq pd er no oc on_ owd obf rb st mt co py hd le pr ra hR hN x) (cwV 1 hts gX7_likeness_X7_soldSentence rfl rfl rfl (by decide +kernel) ⟨(Nat.le_of_ble_eq_true rfl), (Nat.le_of_ble_eq_true rfl)⟩) (pVX hK (hX.at hS) (ci := 7) rfl (hM.cel (by omega) h0)) rfl rfl hl.1 rfl (lv_room (Nat.le_of_ble_eq_true rfl)) dX7_likeness_2 ⟨(Nat.le_of_ble_eq_true rfl), (Nat.le_of_ble_eq_true rfl)⟩) hS (fun E h => Or.inl ⟨h.1, cd2_1 h.2⟩) (Nat.le_of_ble_eq_true rfl) (Nat.le_of_ble_eq_true rfl) (fun rv_1 w_2 H locs hw_2 hM hS => ?_)
  obtain ⟨i9, hi9_, ex_i9, rfl, e9_⟩ := hw_2
  obtain rfl := e9_.symm
  have ho_ : so i9 < no := (hin_.1 i9 hi9_).1
  have hsn_ := hS1 (so i9) ho_
  obtain ⟨hn0_, hn8_, hcl_, hwd_⟩ := hsn_.2.2.2.2.2
  refine m_topr ?_
  refine lv_astore_n (lv' := [(2, .ref (adr (23 + 6 * so i9))), (0, .ref (adr 0)), (1, .int x)]) hx hb dX7_likeness_5 rfl hl (by decide) rfl (fun ls hl => ?_)
  refine lv_aload_n hx hb dX7_likeness_6 rfl (lv_at hl 1 rfl) ?_
  refine x_callv hlocks hout (vx_runV (As := []) (rest := []) ⟨hx, hb, hml, hown, hts⟩ (k_X7_refuseEmptyDraft l D ac _ hlt A N adr w hM dl dw fs fr ft ns so hv nd du T nr rq nq oq pd er no oc on_ owd obf rb st mt co py hd le pr ra hR hN) (cwV 0 hts gX7_likeness_X7_refuseEmptyDraft rfl rfl rfl (by decide +kernel) ⟨(Nat.le_of_ble_eq_true rfl), (Nat.le_of_ble_eq_true rfl)⟩) (pVX hK (hX.at hS) (ci := 7) rfl (hM.cel (by omega) h0)) rfl rfl hl.1 rfl (lv_room (Nat.le_of_ble_eq_true rfl)) dX7_likeness_7 ⟨(Nat.le_of_ble_eq_true rfl), (Nat.le_of_ble_eq_true rfl)⟩) hS (fun E h => Or.inr ⟨h.1, cd2_2 (ixs hi9_ (by omega) ex_i9) h.2⟩) (Nat.le_of_ble_eq_true rfl) (Nat.le_of_ble_eq_true rfl) (fun w_4 H locs hw_4 hM hS => ?_)
  obtain ⟨hdl0_, e9_⟩ := hw_4
  obtain rfl := e9_.symm
  refine lv_aload_n hx hb dX7_likeness_10 rfl (lv_at hl 1 rfl) ?_
  refine m_get (ci := 7) (C := RX7) (T := TX7) (n := 13) (v := .ref (adr 7)) hx hb hts inX7_ hown hK rfl (hM.cel (by omega) h0) 2 (by decide) (hts _ (by decide +kernel)) rfl dX7_likeness_11 ?_
  refine m_getN (host := RX7) (ci := 2) (C := RX2) (T := TX2) (n := 5) (v := .ref (adr 12)) hx hb hts inX2_ hown hK rfl (hM.cel (by omega) hm.1) 3 (by decide) 11 rfl rfl dX7_likeness_14 ?_
  refine lv_aload_n hx hb dX7_likeness_17 rfl (lv_at hl 1 rfl) ?_
  refine m_get (ci := 7) (C := RX7) (T := TX7) (n := 13) (v := .ref (adr 1)) hx hb hts inX7_ hown hK rfl (hM.cel (by omega) h0) 0 (by decide) (hts _ (by decide +kernel)) rfl dX7_likeness_18 ?_
  refine lv_aload_n hx hb dX7_likeness_21 rfl (lv_at hl 0 rfl) ?_
  refine m_getN (host := RX7) (ci := 6) (C := RX6) (T := TX6) (n := 3) (v := .ref (adr (23 + 6 * so i9 + 1))) hx hb hts inX6_ hown hK rfl (hM.cel (by have := ho_; omega) hsn_.1) 1 (by decide) 18 rfl rfl dX7_likeness_22 ?_
  refine w_calli (va_runV (As := [.ref (adr 1), .ref (adr (23 + 6 * so i9 + 1))]) (rest := []) ⟨hx, hb, hml, hown, hts⟩ (k_X0_likenessOf l D ac _ A N adr w hM 12 13 T (by omega) (by omega) (by omega) hm.2.2.2.2.2.1 hm.2.2.2.2.2.2.1 1 2 (23 + 6 * so i9 + 1) (23 + 6 * so i9 + 2) dl ((on_ (so i9))) (fun j => nI (dw j)) (fun j => nI (owd (so i9) j)) (by omega) (by omega) (by have := ho_; omega) (by have := ho_; omega) (by omega) (by omega) (by omega) hdr.1 hdr.2.1 hsn_.2.1 hsn_.2.2.1 (Nat.lt_of_lt_of_le hdl0_ (Nat.le_max_left _ _))) (cwV 2 hts gX7_likeness_X0_likenessOf rfl rfl rfl (by decide +kernel) ⟨Nat.le_of_ble_eq_true rfl, Nat.le_of_ble_eq_true rfl⟩) (pV hK (ci := 0) rfl (hM.cel (by omega) hm.2.2.2.2.2.1)) rfl rfl hl.1 rfl (lv_room (Nat.le_of_ble_eq_true rfl)) dX7_likeness_25 ⟨Nat.le_of_ble_eq_true rfl, Nat.le_of_ble_eq_true rfl⟩) hS (fun rv_5 w_6 H locs hw_6 hM hS => ?_)
  obtain ⟨hrv_5, T_7, hw_6, eT_7⟩ := hw_6
  have h_8 : w_6 0 = .inr (7, [.ref (adr 1), .ref (adr 3), .ref (adr 7), .ref (adr 14), .ref (adr 15), .ref (adr 16), .ref (adr 18), .ref (adr 20), .ref (adr 21), .int (nI no), .int le, .int pr, .int ra]) := by rw [hw_6, va_up_ne _ _ (by omega)]; exact h0
  have h_9 : w_6 1 = .inr (4, [.ref (adr 2), .int (nI dl)]) := by rw [hw_6, va_up_ne _ _ (by omega)]; exact hdr.1
  have h_10 : w_6 2 = .inl (ac 0, 8, .inl (fun j => nI (dw j))) := by rw [hw_6, va_up_ne _ _ (by omega)]; exact hdr.2.1
  have h_11 : w_6 7 = .inr (2, [.ref (adr 8), .ref (adr 9), .ref (adr 10), .ref (adr 12), .int (nI ns)]) := by rw [hw_6, va_up_ne _ _ (by omega)]; exact hm.1
  have h_12 : w_6 8 = .inl (ac 4, 40, .inr (.inr (.inr (.inr (sref adr ns so))))) := by rw [hw_6, va_up_ne _ _ (by omega)]; exact hm.2.1
  have h_13 : w_6 9 = .inl (ac 1, 50, .inr (.inl hv)) := by rw [hw_6, va_up_ne _ _ (by omega)]; exact hm.2.2.1
  have h_14 : w_6 10 = .inr (1, [.ref (adr 11), .int (nI nd)]) := by rw [hw_6, va_up_ne _ _ (by omega)]; exact hm.2.2.2.1
  have h_15 : w_6 11 = .inl (ac 0, 60, .inl (fun j => nI (du j))) := by rw [hw_6, va_up_ne _ _ (by omega)]; exact hm.2.2.2.2.1
  have h_16 : w_6 12 = .inr (0, [.ref (adr 13)]) := by rw [hw_6, va_up_ne _ _ (by omega)]; exact hm.2.2.2.2.2.1
  have h_17 : w_6 13 = .inl (ac 0, 81, .inl T_7) := by rw [hw_6]; exact va_up_self _ _ _
  have h_18 : w_6 (23 + 6 * so i9) = .inr (6, [.int (nI (oc (so i9))), .ref (adr (23 + 6 * so i9 + 1)), .ref (adr (23 + 6 * so i9 + 3))]) := by rw [hw_6, va_up_ne _ _ (by omega)]; exact hsn_.1
  have h_19 : w_6 (23 + 6 * so i9 + 1) = .inr (4, [.ref (adr (23 + 6 * so i9 + 2)), .int (nI (on_ (so i9)))]) := by rw [hw_6, va_up_ne _ _ (by omega)]; exact hsn_.2.1
  have h_20 : w_6 (23 + 6 * so i9 + 2) = .inl (ac 0, 8, .inl (fun j => nI (owd (so i9) j))) := by rw [hw_6, va_up_ne _ _ (by omega)]; exact hsn_.2.2.1
  have h_21 : w_6 (23 + 6 * so i9 + 3) = .inr (4, [.ref (adr (23 + 6 * so i9 + 4)), .int (nI (on_ (so i9)))]) := by rw [hw_6, va_up_ne _ _ (by omega)]; exact hsn_.2.2.2.1
  have h_22 : w_6 (23 + 6 * so i9 + 4) = .inl (ac 0, 8, .inl (obf (so i9))) := by rw [hw_6, va_up_ne _ _ (by omega)]; exact hsn_.2.2.2.2.1
  have h_23 : SenF ac adr w_6 no oc on_ owd obf := by rw [hw_6]; exact (SenF.up (by omega) hS1)
  subst hrv_5
  exact ex_i hx hb hlocks hr dX7_likeness_28 (Nat.le_of_ble_eq_true rfl) (Nat.le_of_ble_eq_true rfl) hM hS (⟨i9, hi9_, ex_i9, hdl0_, rfl, _, by rw [hw_6]; exact ⟨(TGW.up (by omega) hR.1), (DraW.up (by omega) hR.2.1), (RulW.up (by omega) hR.2.2.1), (MemW.tab hm), (SenF.up (by omega) hR.2.2.2.2.1), (OrdF.up (by omega) hR.2.2.2.2.2.1), (DesW.up (by omega) hR.2.2.2.2.2.2.1), (HanW.up (by omega) hR.2.2.2.2.2.2.2.1), (MonW.up (by omega) hR.2.2.2.2.2.2.2.2.1), hR.2.2.2.2.2.2.2.2.2⟩⟩)
set_option maxHeartbeats 4000000 in
set_option maxRecDepth 100000 in
/-- best -/
theorem k_X7_best (l : Launch) (D : va_G) (ac : Nat → ClassId) (H : Heap) (hlt : l.stackTraces = false) (A : Nat → Prop) (N : Nat) (adr : Nat → Nat) (w : Nat → va_E) (hM : MW D A N adr w H) (dl : Nat) (dw : Nat → Nat) (fs : Nat → Int32) (fr : Nat → Int32) (ft : Nat → Nat) (ns : Nat) (so : Nat → Nat) (hv : Nat → Int64) (nd : Nat) (du : Nat → Nat) (T : Nat → Int32) (nr : Nat) (rq : Nat → Nat) (nq : Nat) (oq : Nat → Nat) (pd : Nat → Int32) (er : Nat → Int32) (no : Nat) (oc : Nat → Nat) (on_ : Nat → Nat) (owd : Nat → Nat → Nat) (obf : Nat → Nat → Int32) (rb : Nat → Int32) (st : Nat → Int32) (mt : Nat → Int32) (co : Nat → Int32) (py : Nat → Int32) (hd : Nat → Option Nat) (le : Int32) (pr : Int32) (ra : Int32) (hR : HR ac adr w dl dw fs fr ft ns so hv nd du T nr rq nq oq pd er no oc on_ owd obf rb st mt co py hd le pr ra) (hN : 22 + 6 * no ≤ N) (x : Int32) : WXi l yX7_best wsX7_best ({ frames := 7, cells := 2, slots := 12, locals := 153 }) [.ref (adr 0), .int x] D ac H A N adr w (fun r w1 => ∃ k, k < 4 ∧ x = nI k ∧ 0 < dl ∧ r = bstV nd du on_ owd so oc ns (shw hv dw dl) dl (fun j => nI (dw j)) x le ∧ ∃ T1, HR ac adr w1 dl dw fs fr ft ns so hv nd du T1 nr rq nq oq pd er no oc on_ owd obf rb st mt co py hd le pr ra) (XC2 xIA xIS (cd2 (ix x 4).isNone (decide (dl = 0)))) 2 12 := by
  refine vx_ofW (cc := cX7_best) (maxL := 2) (ret := (some .int)) (by decide) rfl ?_
  intro p e s m args below meth c s₁ B hml hout hv
  obtain ⟨hargs, hsz, hK, hX⟩ := hv
  have hx := B.exec
  have hb := B.bytes
  have hr := B.returns
  have hts := atoms_spec (ws := wsX7_best) B.pre
  have hown : s.vm.findClass RX7 = some m.cls := findClass_of_methodNamed B.named
  have hlocks := B.notSynchronized
  subst hsz
  have inX7_ : ∀ w ∈ wsX70, w ∈ wsX7_best := by decide +kernel
  have hS : va_S A s.heap s.heap [] := va_S.rf
  have hl := lv_entry ([.ref (adr 0), .int x]) (n := 2) (Nat.le_of_ble_eq_true rfl)
  have hen := lg_entry_eq m [.ref (adr 0), .int x] 2
  rw [← hargs] at hen
  rw [hen]
  generalize (lg_sl ([.ref (adr 0), .int x]) ++ List.replicate (2 - (lg_sl ([.ref (adr 0), .int x])).length) Slot.unset).toArray = ls at hl ⊢
  have hl : lv_has ls 2 [(0, .ref (adr 0)), (1, .int x)] := hl
  obtain ⟨h0, hdr, hru, hm, hS1, hO1, hde, hha, hmo, hin_⟩ := id hR
  obtain ⟨hns, hnd⟩ := hm.2.2.2.2.2.2.2
  have hso := fun i hi => (hin_.1 i hi).1
  have hdl8_ := hdr.2.2.1
  refine lv_iload_n hx hb dX7_best_0 rfl (lv_at hl 1 rfl) ?_
  refine x_callv hlocks hout (vx_runS (As := [.int x]) (rest := []) ⟨hx, hb, hml, hown, hts⟩ (k_X7_refuseUnlessClient l D ac _ hlt A N adr w hM x) (va_cwS 1 hts gX7_best_X7_refuseUnlessClient rfl rfl rfl (by decide +kernel) ⟨(Nat.le_of_ble_eq_true rfl), (Nat.le_of_ble_eq_true rfl)⟩) (pSX hK (hX.at hS)) rfl rfl hl.1 rfl (lv_room (Nat.le_of_ble_eq_true rfl)) dX7_best_1 ⟨(Nat.le_of_ble_eq_true rfl), (Nat.le_of_ble_eq_true rfl)⟩) hS (fun E h => Or.inl ⟨h.1, cd2_1 h.2⟩) (Nat.le_of_ble_eq_true rfl) (Nat.le_of_ble_eq_true rfl) (fun w_2 H locs hw_2 hM hS => ?_)
  obtain ⟨⟨k9, hk_k9, ex_k9⟩, e9_⟩ := hw_2
  obtain rfl := e9_.symm
  refine lv_aload_n hx hb dX7_best_4 rfl (lv_at hl 0 rfl) ?_
  refine x_callv hlocks hout (vx_runV (As := []) (rest := []) ⟨hx, hb, hml, hown, hts⟩ (k_X7_refuseEmptyDraft l D ac _ hlt A N adr w hM dl dw fs fr ft ns so hv nd du T nr rq nq oq pd er no oc on_ owd obf rb st mt co py hd le pr ra hR hN) (cwV 0 hts gX7_best_X7_refuseEmptyDraft rfl rfl rfl (by decide +kernel) ⟨(Nat.le_of_ble_eq_true rfl), (Nat.le_of_ble_eq_true rfl)⟩) (pVX hK (hX.at hS) (ci := 7) rfl (hM.cel (by omega) h0)) rfl rfl hl.1 rfl (lv_room (Nat.le_of_ble_eq_true rfl)) dX7_best_5 ⟨(Nat.le_of_ble_eq_true rfl), (Nat.le_of_ble_eq_true rfl)⟩) hS (fun E h => Or.inr ⟨h.1, cd2_2 (ixs hk_k9 (by decide) ex_k9) h.2⟩) (Nat.le_of_ble_eq_true rfl) (Nat.le_of_ble_eq_true rfl) (fun w_4 H locs hw_4 hM hS => ?_)
  obtain ⟨hdl0_, e9_⟩ := hw_4
  obtain rfl := e9_.symm
  refine lv_aload_n hx hb dX7_best_8 rfl (lv_at hl 0 rfl) ?_
  refine lv_iload_n hx hb dX7_best_9 rfl (lv_at hl 1 rfl) ?_
  refine lv_aload_n hx hb dX7_best_10 rfl (lv_at hl 0 rfl) ?_
  refine m_get (ci := 7) (C := RX7) (T := TX7) (n := 13) (v := .ref (adr 1)) hx hb hts inX7_ hown hK rfl (hM.cel (by omega) h0) 0 (by decide) (hts _ (by decide +kernel)) rfl dX7_best_11 ?_
  refine w_calli (va_runV (As := [.int x, .ref (adr 1)]) (rest := []) ⟨hx, hb, hml, hown, hts⟩ (k_X7_bestFor l D ac _ A N adr w hM no oc on_ owd obf ns so hv nd du T (by omega) hS1 ⟨hm.1, hm.2.1, hm.2.2.1, hm.2.2.2.1, hm.2.2.2.2.1, hm.2.2.2.2.2.1, hm.2.2.2.2.2.2.1, hm.2.2.2.2.2.2.2⟩ hso le pr ra h0 1 2 dl dw (by omega) (by omega) (by omega) (by omega) (by omega) hdr.2.2.2 hdr.1 hdr.2.1 x) (cwV 2 hts gX7_best_X7_bestFor rfl rfl rfl (by decide +kernel) ⟨Nat.le_of_ble_eq_true rfl, Nat.le_of_ble_eq_true rfl⟩) (pV hK (ci := 7) rfl (hM.cel (by omega) h0)) rfl rfl hl.1 rfl (lv_room (Nat.le_of_ble_eq_true rfl)) dX7_best_14 ⟨Nat.le_of_ble_eq_true rfl, Nat.le_of_ble_eq_true rfl⟩) hS (fun rv_5 w_6 H locs hw_6 hM hS => ?_)
  obtain ⟨hrv_5, hw_6⟩ := hw_6
  obtain ⟨T_7, hw_6⟩ := hw_6
  have h_8 : w_6 0 = .inr (7, [.ref (adr 1), .ref (adr 3), .ref (adr 7), .ref (adr 14), .ref (adr 15), .ref (adr 16), .ref (adr 18), .ref (adr 20), .ref (adr 21), .int (nI no), .int le, .int pr, .int ra]) := by rw [hw_6, va_up_ne _ _ (by omega)]; exact h0
  have h_9 : w_6 1 = .inr (4, [.ref (adr 2), .int (nI dl)]) := by rw [hw_6, va_up_ne _ _ (by omega)]; exact hdr.1
  have h_10 : w_6 2 = .inl (ac 0, 8, .inl (fun j => nI (dw j))) := by rw [hw_6, va_up_ne _ _ (by omega)]; exact hdr.2.1
  have h_11 : w_6 7 = .inr (2, [.ref (adr 8), .ref (adr 9), .ref (adr 10), .ref (adr 12), .int (nI ns)]) := by rw [hw_6, va_up_ne _ _ (by omega)]; exact hm.1
  have h_12 : w_6 8 = .inl (ac 4, 40, .inr (.inr (.inr (.inr (sref adr ns so))))) := by rw [hw_6, va_up_ne _ _ (by omega)]; exact hm.2.1
  have h_13 : w_6 9 = .inl (ac 1, 50, .inr (.inl hv)) := by rw [hw_6, va_up_ne _ _ (by omega)]; exact hm.2.2.1
  have h_14 : w_6 10 = .inr (1, [.ref (adr 11), .int (nI nd)]) := by rw [hw_6, va_up_ne _ _ (by omega)]; exact hm.2.2.2.1
  have h_15 : w_6 11 = .inl (ac 0, 60, .inl (fun j => nI (du j))) := by rw [hw_6, va_up_ne _ _ (by omega)]; exact hm.2.2.2.2.1
  have h_16 : w_6 12 = .inr (0, [.ref (adr 13)]) := by rw [hw_6, va_up_ne _ _ (by omega)]; exact hm.2.2.2.2.2.1
  have h_17 : w_6 13 = .inl (ac 0, 81, .inl T_7) := by rw [hw_6]; exact va_up_self _ _ _
  have h_18 : SenF ac adr w_6 no oc on_ owd obf := by rw [hw_6]; exact (SenF.up (by omega) hS1)
  subst hrv_5
  exact ex_i hx hb hlocks hr dX7_best_17 (Nat.le_of_ble_eq_true rfl) (Nat.le_of_ble_eq_true rfl) hM hS (⟨k9, hk_k9, ex_k9, hdl0_, rfl, _, by rw [hw_6]; exact ⟨(TGW.up (by omega) hR.1), (DraW.up (by omega) hR.2.1), (RulW.up (by omega) hR.2.2.1), (MemW.tab hm), (SenF.up (by omega) hR.2.2.2.2.1), (OrdF.up (by omega) hR.2.2.2.2.2.1), (DesW.up (by omega) hR.2.2.2.2.2.2.1), (HanW.up (by omega) hR.2.2.2.2.2.2.2.1), (MonW.up (by omega) hR.2.2.2.2.2.2.2.2.1), hR.2.2.2.2.2.2.2.2.2⟩⟩)
set_option maxHeartbeats 4000000 in
set_option maxRecDepth 100000 in
/-- bestByAll -/
theorem k_X7_bestByAll (l : Launch) (D : va_G) (ac : Nat → ClassId) (H : Heap) (hlt : l.stackTraces = false) (A : Nat → Prop) (N : Nat) (adr : Nat → Nat) (w : Nat → va_E) (hM : MW D A N adr w H) (dl : Nat) (dw : Nat → Nat) (fs : Nat → Int32) (fr : Nat → Int32) (ft : Nat → Nat) (ns : Nat) (so : Nat → Nat) (hv : Nat → Int64) (nd : Nat) (du : Nat → Nat) (T : Nat → Int32) (nr : Nat) (rq : Nat → Nat) (nq : Nat) (oq : Nat → Nat) (pd : Nat → Int32) (er : Nat → Int32) (no : Nat) (oc : Nat → Nat) (on_ : Nat → Nat) (owd : Nat → Nat → Nat) (obf : Nat → Nat → Int32) (rb : Nat → Int32) (st : Nat → Int32) (mt : Nat → Int32) (co : Nat → Int32) (py : Nat → Int32) (hd : Nat → Option Nat) (le : Int32) (pr : Int32) (ra : Int32) (hR : HR ac adr w dl dw fs fr ft ns so hv nd du T nr rq nq oq pd er no oc on_ owd obf rb st mt co py hd le pr ra) (hN : 22 + 6 * no ≤ N) (x : Int32) : WXi l yX7_bestByAll wsX7_bestByAll ({ frames := 7, cells := 2, slots := 12, locals := 131 }) [.ref (adr 0), .int x] D ac H A N adr w (fun r w1 => ∃ k, k < 4 ∧ x = nI k ∧ 0 < dl ∧ r = bstV nd du on_ owd so oc ns (-1) dl (fun j => nI (dw j)) x le ∧ ∃ T1, HR ac adr w1 dl dw fs fr ft ns so hv nd du T1 nr rq nq oq pd er no oc on_ owd obf rb st mt co py hd le pr ra) (XC2 xIA xIS (cd2 (ix x 4).isNone (decide (dl = 0)))) 2 12 := by
  refine vx_ofW (cc := cX7_bestByAll) (maxL := 2) (ret := (some .int)) (by decide) rfl ?_
  intro p e s m args below meth c s₁ B hml hout hv
  obtain ⟨hargs, hsz, hK, hX⟩ := hv
  have hx := B.exec
  have hb := B.bytes
  have hr := B.returns
  have hts := atoms_spec (ws := wsX7_bestByAll) B.pre
  have hown : s.vm.findClass RX7 = some m.cls := findClass_of_methodNamed B.named
  have hlocks := B.notSynchronized
  subst hsz
  have inX7_ : ∀ w ∈ wsX70, w ∈ wsX7_bestByAll := by decide +kernel
  have hS : va_S A s.heap s.heap [] := va_S.rf
  have hl := lv_entry ([.ref (adr 0), .int x]) (n := 2) (Nat.le_of_ble_eq_true rfl)
  have hen := lg_entry_eq m [.ref (adr 0), .int x] 2
  rw [← hargs] at hen
  rw [hen]
  generalize (lg_sl ([.ref (adr 0), .int x]) ++ List.replicate (2 - (lg_sl ([.ref (adr 0), .int x])).length) Slot.unset).toArray = ls at hl ⊢
  have hl : lv_has ls 2 [(0, .ref (adr 0)), (1, .int x)] := hl
  obtain ⟨h0, hdr, hru, hm, hS1, hO1, hde, hha, hmo, hin_⟩ := id hR
  obtain ⟨hns, hnd⟩ := hm.2.2.2.2.2.2.2
  have hso := fun i hi => (hin_.1 i hi).1
  have hdl8_ := hdr.2.2.1
  refine lv_iload_n hx hb dX7_bestByAll_0 rfl (lv_at hl 1 rfl) ?_
  refine x_callv hlocks hout (vx_runS (As := [.int x]) (rest := []) ⟨hx, hb, hml, hown, hts⟩ (k_X7_refuseUnlessClient l D ac _ hlt A N adr w hM x) (va_cwS 1 hts gX7_bestByAll_X7_refuseUnlessClient rfl rfl rfl (by decide +kernel) ⟨(Nat.le_of_ble_eq_true rfl), (Nat.le_of_ble_eq_true rfl)⟩) (pSX hK (hX.at hS)) rfl rfl hl.1 rfl (lv_room (Nat.le_of_ble_eq_true rfl)) dX7_bestByAll_1 ⟨(Nat.le_of_ble_eq_true rfl), (Nat.le_of_ble_eq_true rfl)⟩) hS (fun E h => Or.inl ⟨h.1, cd2_1 h.2⟩) (Nat.le_of_ble_eq_true rfl) (Nat.le_of_ble_eq_true rfl) (fun w_2 H locs hw_2 hM hS => ?_)
  obtain ⟨⟨k9, hk_k9, ex_k9⟩, e9_⟩ := hw_2
  obtain rfl := e9_.symm
  refine lv_aload_n hx hb dX7_bestByAll_4 rfl (lv_at hl 0 rfl) ?_
  refine x_callv hlocks hout (vx_runV (As := []) (rest := []) ⟨hx, hb, hml, hown, hts⟩ (k_X7_refuseEmptyDraft l D ac _ hlt A N adr w hM dl dw fs fr ft ns so hv nd du T nr rq nq oq pd er no oc on_ owd obf rb st mt co py hd le pr ra hR hN) (cwV 0 hts gX7_bestByAll_X7_refuseEmptyDraft rfl rfl rfl (by decide +kernel) ⟨(Nat.le_of_ble_eq_true rfl), (Nat.le_of_ble_eq_true rfl)⟩) (pVX hK (hX.at hS) (ci := 7) rfl (hM.cel (by omega) h0)) rfl rfl hl.1 rfl (lv_room (Nat.le_of_ble_eq_true rfl)) dX7_bestByAll_5 ⟨(Nat.le_of_ble_eq_true rfl), (Nat.le_of_ble_eq_true rfl)⟩) hS (fun E h => Or.inr ⟨h.1, cd2_2 (ixs hk_k9 (by decide) ex_k9) h.2⟩) (Nat.le_of_ble_eq_true rfl) (Nat.le_of_ble_eq_true rfl) (fun w_4 H locs hw_4 hM hS => ?_)
  obtain ⟨hdl0_, e9_⟩ := hw_4
  obtain rfl := e9_.symm
  refine lv_aload_n hx hb dX7_bestByAll_8 rfl (lv_at hl 0 rfl) ?_
  refine m_get (ci := 7) (C := RX7) (T := TX7) (n := 13) (v := .ref (adr 7)) hx hb hts inX7_ hown hK rfl (hM.cel (by omega) h0) 2 (by decide) (hts _ (by decide +kernel)) rfl dX7_bestByAll_9 ?_
  refine lv_ldc2 (v := -1) hx hb hown (hts _ (by decide +kernel)) dX7_bestByAll_12 ?_
  refine lv_aload_n hx hb dX7_bestByAll_15 rfl (lv_at hl 0 rfl) ?_
  refine m_get (ci := 7) (C := RX7) (T := TX7) (n := 13) (v := .ref (adr 1)) hx hb hts inX7_ hown hK rfl (hM.cel (by omega) h0) 0 (by decide) (hts _ (by decide +kernel)) rfl dX7_bestByAll_16 ?_
  refine lv_iload_n hx hb dX7_bestByAll_19 rfl (lv_at hl 1 rfl) ?_
  refine lv_aload_n hx hb dX7_bestByAll_20 rfl (lv_at hl 0 rfl) ?_
  refine m_get (ci := 7) (C := RX7) (T := TX7) (n := 13) (v := .int le) hx hb hts inX7_ hown hK rfl (hM.cel (by omega) h0) 10 (by decide) (hts _ (by decide +kernel)) rfl dX7_bestByAll_21 ?_
  refine w_calli (va_runV (As := [.long (-1), .ref (adr 1), .int x, .int le]) (rest := []) ⟨hx, hb, hml, hown, hts⟩ (k_X2_bestAmong l D ac _ A N adr w hM no oc on_ owd obf ns so hv nd du T (by omega) hS1 ⟨hm.1, hm.2.1, hm.2.2.1, hm.2.2.2.1, hm.2.2.2.2.1, hm.2.2.2.2.2.1, hm.2.2.2.2.2.2.1, hm.2.2.2.2.2.2.2⟩ hso 1 2 dl (fun j => nI (dw j)) (by omega) (by omega) (by omega) (by omega) (by omega) hdr.1 hdr.2.1 (-1) x le) (cwV 4 hts gX7_bestByAll_X2_bestAmong rfl rfl rfl (by decide +kernel) ⟨Nat.le_of_ble_eq_true rfl, Nat.le_of_ble_eq_true rfl⟩) (pV hK (ci := 2) rfl (hM.cel (by omega) hm.1)) rfl rfl hl.1 rfl (lv_room (Nat.le_of_ble_eq_true rfl)) dX7_bestByAll_24 ⟨Nat.le_of_ble_eq_true rfl, Nat.le_of_ble_eq_true rfl⟩) hS (fun rv_5 w_6 H locs hw_6 hM hS => ?_)
  obtain ⟨hrv_5, hw_6⟩ := hw_6
  obtain ⟨T_7, hw_6⟩ := hw_6
  have h_8 : w_6 0 = .inr (7, [.ref (adr 1), .ref (adr 3), .ref (adr 7), .ref (adr 14), .ref (adr 15), .ref (adr 16), .ref (adr 18), .ref (adr 20), .ref (adr 21), .int (nI no), .int le, .int pr, .int ra]) := by rw [hw_6, va_up_ne _ _ (by omega)]; exact h0
  have h_9 : w_6 1 = .inr (4, [.ref (adr 2), .int (nI dl)]) := by rw [hw_6, va_up_ne _ _ (by omega)]; exact hdr.1
  have h_10 : w_6 2 = .inl (ac 0, 8, .inl (fun j => nI (dw j))) := by rw [hw_6, va_up_ne _ _ (by omega)]; exact hdr.2.1
  have h_11 : w_6 7 = .inr (2, [.ref (adr 8), .ref (adr 9), .ref (adr 10), .ref (adr 12), .int (nI ns)]) := by rw [hw_6, va_up_ne _ _ (by omega)]; exact hm.1
  have h_12 : w_6 8 = .inl (ac 4, 40, .inr (.inr (.inr (.inr (sref adr ns so))))) := by rw [hw_6, va_up_ne _ _ (by omega)]; exact hm.2.1
  have h_13 : w_6 9 = .inl (ac 1, 50, .inr (.inl hv)) := by rw [hw_6, va_up_ne _ _ (by omega)]; exact hm.2.2.1
  have h_14 : w_6 10 = .inr (1, [.ref (adr 11), .int (nI nd)]) := by rw [hw_6, va_up_ne _ _ (by omega)]; exact hm.2.2.2.1
  have h_15 : w_6 11 = .inl (ac 0, 60, .inl (fun j => nI (du j))) := by rw [hw_6, va_up_ne _ _ (by omega)]; exact hm.2.2.2.2.1
  have h_16 : w_6 12 = .inr (0, [.ref (adr 13)]) := by rw [hw_6, va_up_ne _ _ (by omega)]; exact hm.2.2.2.2.2.1
  have h_17 : w_6 13 = .inl (ac 0, 81, .inl T_7) := by rw [hw_6]; exact va_up_self _ _ _
  have h_18 : SenF ac adr w_6 no oc on_ owd obf := by rw [hw_6]; exact (SenF.up (by omega) hS1)
  have hrv_5 : rv_5 = bstV nd du on_ owd so oc ns (-1) dl (fun j => nI (dw j)) x le := hrv_5
  subst hrv_5
  exact ex_i hx hb hlocks hr dX7_bestByAll_27 (Nat.le_of_ble_eq_true rfl) (Nat.le_of_ble_eq_true rfl) hM hS (⟨k9, hk_k9, ex_k9, hdl0_, rfl, _, by rw [hw_6]; exact ⟨(TGW.up (by omega) hR.1), (DraW.up (by omega) hR.2.1), (RulW.up (by omega) hR.2.2.1), (MemW.tab hm), (SenF.up (by omega) hR.2.2.2.2.1), (OrdF.up (by omega) hR.2.2.2.2.2.1), (DesW.up (by omega) hR.2.2.2.2.2.2.1), (HanW.up (by omega) hR.2.2.2.2.2.2.2.1), (MonW.up (by omega) hR.2.2.2.2.2.2.2.2.1), hR.2.2.2.2.2.2.2.2.2⟩⟩)
set_option maxHeartbeats 4000000 in
set_option maxRecDepth 100000 in
/-- cost -/
theorem k_X7_cost (l : Launch) (D : va_G) (ac : Nat → ClassId) (H : Heap) (hlt : l.stackTraces = false) (A : Nat → Prop) (N : Nat) (adr : Nat → Nat) (w : Nat → va_E) (hM : MW D A N adr w H) (dl : Nat) (dw : Nat → Nat) (fs : Nat → Int32) (fr : Nat → Int32) (ft : Nat → Nat) (ns : Nat) (so : Nat → Nat) (hv : Nat → Int64) (nd : Nat) (du : Nat → Nat) (T : Nat → Int32) (nr : Nat) (rq : Nat → Nat) (nq : Nat) (oq : Nat → Nat) (pd : Nat → Int32) (er : Nat → Int32) (no : Nat) (oc : Nat → Nat) (on_ : Nat → Nat) (owd : Nat → Nat → Nat) (obf : Nat → Nat → Int32) (rb : Nat → Int32) (st : Nat → Int32) (mt : Nat → Int32) (co : Nat → Int32) (py : Nat → Int32) (hd : Nat → Option Nat) (le : Int32) (pr : Int32) (ra : Int32) (hR : HR ac adr w dl dw fs fr ft ns so hv nd du T nr rq nq oq pd er no oc on_ owd obf rb st mt co py hd le pr ra) (hN : 22 + 6 * no ≤ N) (x b : Int32) : WXi l yX7_cost wsX7_cost ({ frames := 7, cells := 2, slots := 12, locals := 153 }) [.ref (adr 0), .int x, .int b] D ac H A N adr w (fun r w1 => ∃ k, k < 4 ∧ x = nI k ∧ 0 < dl ∧ r = cstI (nI dl) pr (shO dl (fun j => nI (dw j)) on_ owd ns so (bstV nd du on_ owd so oc ns (shw hv dw dl) dl (fun j => nI (dw j)) x le)) b ∧ ∃ T1, HR ac adr w1 dl dw fs fr ft ns so hv nd du T1 nr rq nq oq pd er no oc on_ owd obf rb st mt co py hd le pr ra) (XC2 xIA xIS (cd2 (ix x 4).isNone (decide (dl = 0)))) 2 12 := by
  refine vx_ofW (cc := cX7_cost) (maxL := 4) (ret := (some .int)) (by decide) rfl ?_
  intro p e s m args below meth c s₁ B hml hout hv
  obtain ⟨hargs, hsz, hK, hX⟩ := hv
  have hx := B.exec
  have hb := B.bytes
  have hr := B.returns
  have hts := atoms_spec (ws := wsX7_cost) B.pre
  have hown : s.vm.findClass RX7 = some m.cls := findClass_of_methodNamed B.named
  have hlocks := B.notSynchronized
  subst hsz
  have inX4_ : ∀ w ∈ wsX40, w ∈ wsX7_cost := by decide +kernel
  have inX7_ : ∀ w ∈ wsX70, w ∈ wsX7_cost := by decide +kernel
  have hS : va_S A s.heap s.heap [] := va_S.rf
  have hl := lv_entry ([.ref (adr 0), .int x, .int b]) (n := 4) (Nat.le_of_ble_eq_true rfl)
  have hen := lg_entry_eq m [.ref (adr 0), .int x, .int b] 4
  rw [← hargs] at hen
  rw [hen]
  generalize (lg_sl ([.ref (adr 0), .int x, .int b]) ++ List.replicate (4 - (lg_sl ([.ref (adr 0), .int x, .int b])).length) Slot.unset).toArray = ls at hl ⊢
  have hl : lv_has ls 4 [(0, .ref (adr 0)), (1, .int x), (2, .int b)] := hl
  obtain ⟨h0, hdr, hru, hm, hS1, hO1, hde, hha, hmo, hin_⟩ := id hR
  obtain ⟨hns, hnd⟩ := hm.2.2.2.2.2.2.2
  have hso := fun i hi => (hin_.1 i hi).1
  have hdl8_ := hdr.2.2.1
  refine lv_iload_n hx hb dX7_cost_0 rfl (lv_at hl 1 rfl) ?_
  refine x_callv hlocks hout (vx_runS (As := [.int x]) (rest := []) ⟨hx, hb, hml, hown, hts⟩ (k_X7_refuseUnlessClient l D ac _ hlt A N adr w hM x) (va_cwS 1 hts gX7_cost_X7_refuseUnlessClient rfl rfl rfl (by decide +kernel) ⟨(Nat.le_of_ble_eq_true rfl), (Nat.le_of_ble_eq_true rfl)⟩) (pSX hK (hX.at hS)) rfl rfl hl.1 rfl (lv_room (Nat.le_of_ble_eq_true rfl)) dX7_cost_1 ⟨(Nat.le_of_ble_eq_true rfl), (Nat.le_of_ble_eq_true rfl)⟩) hS (fun E h => Or.inl ⟨h.1, cd2_1 h.2⟩) (Nat.le_of_ble_eq_true rfl) (Nat.le_of_ble_eq_true rfl) (fun w_2 H locs hw_2 hM hS => ?_)
  obtain ⟨⟨k9, hk_k9, ex_k9⟩, e9_⟩ := hw_2
  obtain rfl := e9_.symm
  refine lv_aload_n hx hb dX7_cost_4 rfl (lv_at hl 0 rfl) ?_
  refine x_callv hlocks hout (vx_runV (As := []) (rest := []) ⟨hx, hb, hml, hown, hts⟩ (k_X7_refuseEmptyDraft l D ac _ hlt A N adr w hM dl dw fs fr ft ns so hv nd du T nr rq nq oq pd er no oc on_ owd obf rb st mt co py hd le pr ra hR hN) (cwV 0 hts gX7_cost_X7_refuseEmptyDraft rfl rfl rfl (by decide +kernel) ⟨(Nat.le_of_ble_eq_true rfl), (Nat.le_of_ble_eq_true rfl)⟩) (pVX hK (hX.at hS) (ci := 7) rfl (hM.cel (by omega) h0)) rfl rfl hl.1 rfl (lv_room (Nat.le_of_ble_eq_true rfl)) dX7_cost_5 ⟨(Nat.le_of_ble_eq_true rfl), (Nat.le_of_ble_eq_true rfl)⟩) hS (fun E h => Or.inr ⟨h.1, cd2_2 (ixs hk_k9 (by decide) ex_k9) h.2⟩) (Nat.le_of_ble_eq_true rfl) (Nat.le_of_ble_eq_true rfl) (fun w_4 H locs hw_4 hM hS => ?_)
  obtain ⟨hdl0_, e9_⟩ := hw_4
  obtain rfl := e9_.symm
  refine lv_aload_n hx hb dX7_cost_8 rfl (lv_at hl 0 rfl) ?_
  refine m_get (ci := 7) (C := RX7) (T := TX7) (n := 13) (v := .ref (adr 7)) hx hb hts inX7_ hown hK rfl (hM.cel (by omega) h0) 2 (by decide) (hts _ (by decide +kernel)) rfl dX7_cost_9 ?_
  refine lv_aload_n hx hb dX7_cost_12 rfl (lv_at hl 0 rfl) ?_
  refine m_get (ci := 7) (C := RX7) (T := TX7) (n := 13) (v := .ref (adr 1)) hx hb hts inX7_ hown hK rfl (hM.cel (by omega) h0) 0 (by decide) (hts _ (by decide +kernel)) rfl dX7_cost_13 ?_
  refine lv_aload_n hx hb dX7_cost_16 rfl (lv_at hl 0 rfl) ?_
  refine lv_iload_n hx hb dX7_cost_17 rfl (lv_at hl 1 rfl) ?_
  refine lv_aload_n hx hb dX7_cost_18 rfl (lv_at hl 0 rfl) ?_
  refine m_get (ci := 7) (C := RX7) (T := TX7) (n := 13) (v := .ref (adr 1)) hx hb hts inX7_ hown hK rfl (hM.cel (by omega) h0) 0 (by decide) (hts _ (by decide +kernel)) rfl dX7_cost_19 ?_
  refine w_calli (va_runV (As := [.int x, .ref (adr 1)]) (rest := [.ref (adr 1), .ref (adr 7)]) ⟨hx, hb, hml, hown, hts⟩ (k_X7_bestFor l D ac _ A N adr w hM no oc on_ owd obf ns so hv nd du T (by omega) hS1 ⟨hm.1, hm.2.1, hm.2.2.1, hm.2.2.2.1, hm.2.2.2.2.1, hm.2.2.2.2.2.1, hm.2.2.2.2.2.2.1, hm.2.2.2.2.2.2.2⟩ hso le pr ra h0 1 2 dl dw (by omega) (by omega) (by omega) (by omega) (by omega) hdr.2.2.2 hdr.1 hdr.2.1 x) (cwV 2 hts gX7_cost_X7_bestFor rfl rfl rfl (by decide +kernel) ⟨Nat.le_of_ble_eq_true rfl, Nat.le_of_ble_eq_true rfl⟩) (pV hK (ci := 7) rfl (hM.cel (by omega) h0)) rfl rfl hl.1 rfl (lv_room (Nat.le_of_ble_eq_true rfl)) dX7_cost_22 ⟨Nat.le_of_ble_eq_true rfl, Nat.le_of_ble_eq_true rfl⟩) hS (fun rv_5 w_6 H locs hw_6 hM hS => ?_)
  obtain ⟨hrv_5, hw_6⟩ := hw_6
  obtain ⟨T_7, hw_6⟩ := hw_6
  have h_8 : w_6 0 = .inr (7, [.ref (adr 1), .ref (adr 3), .ref (adr 7), .ref (adr 14), .ref (adr 15), .ref (adr 16), .ref (adr 18), .ref (adr 20), .ref (adr 21), .int (nI no), .int le, .int pr, .int ra]) := by rw [hw_6, va_up_ne _ _ (by omega)]; exact h0
  have h_9 : w_6 1 = .inr (4, [.ref (adr 2), .int (nI dl)]) := by rw [hw_6, va_up_ne _ _ (by omega)]; exact hdr.1
  have h_10 : w_6 2 = .inl (ac 0, 8, .inl (fun j => nI (dw j))) := by rw [hw_6, va_up_ne _ _ (by omega)]; exact hdr.2.1
  have h_11 : w_6 7 = .inr (2, [.ref (adr 8), .ref (adr 9), .ref (adr 10), .ref (adr 12), .int (nI ns)]) := by rw [hw_6, va_up_ne _ _ (by omega)]; exact hm.1
  have h_12 : w_6 8 = .inl (ac 4, 40, .inr (.inr (.inr (.inr (sref adr ns so))))) := by rw [hw_6, va_up_ne _ _ (by omega)]; exact hm.2.1
  have h_13 : w_6 9 = .inl (ac 1, 50, .inr (.inl hv)) := by rw [hw_6, va_up_ne _ _ (by omega)]; exact hm.2.2.1
  have h_14 : w_6 10 = .inr (1, [.ref (adr 11), .int (nI nd)]) := by rw [hw_6, va_up_ne _ _ (by omega)]; exact hm.2.2.2.1
  have h_15 : w_6 11 = .inl (ac 0, 60, .inl (fun j => nI (du j))) := by rw [hw_6, va_up_ne _ _ (by omega)]; exact hm.2.2.2.2.1
  have h_16 : w_6 12 = .inr (0, [.ref (adr 13)]) := by rw [hw_6, va_up_ne _ _ (by omega)]; exact hm.2.2.2.2.2.1
  have h_17 : w_6 13 = .inl (ac 0, 81, .inl T_7) := by rw [hw_6]; exact va_up_self _ _ _
  have h_18 : SenF ac adr w_6 no oc on_ owd obf := by rw [hw_6]; exact (SenF.up (by omega) hS1)
  subst hrv_5
  refine w_calli (va_runV (As := [.ref (adr 1), .int (bstV nd du on_ owd so oc ns (shw hv dw dl) dl (fun j => nI (dw j)) x le)]) (rest := []) ⟨hx, hb, hml, hown, hts⟩ (k_X2_shareOf l D ac _ A N adr w_6 hM no oc on_ owd obf ns so hv nd du T_7 (by omega) h_18 ⟨h_11, h_12, h_13, h_14, h_15, h_16, h_17, hm.2.2.2.2.2.2.2⟩ hso 1 2 dl (fun j => nI (dw j)) (by omega) (by omega) (by omega) (by omega) (by omega) h_9 h_10 (bstV nd du on_ owd so oc ns (shw hv dw dl) dl (fun j => nI (dw j)) x le)) (cwV 2 hts gX7_cost_X2_shareOf rfl rfl rfl (by decide +kernel) ⟨Nat.le_of_ble_eq_true rfl, Nat.le_of_ble_eq_true rfl⟩) (pV hK (ci := 2) rfl (hM.cel (by omega) h_11)) rfl rfl hl.1 rfl (lv_room (Nat.le_of_ble_eq_true rfl)) dX7_cost_25 ⟨Nat.le_of_ble_eq_true rfl, Nat.le_of_ble_eq_true rfl⟩) hS (fun rv_19 w_20 H locs hw_20 hM hS => ?_)
  obtain ⟨hrv_19, hw_20⟩ := hw_20
  obtain ⟨T_21, hw_20⟩ := hw_20
  have h_22 : w_20 0 = .inr (7, [.ref (adr 1), .ref (adr 3), .ref (adr 7), .ref (adr 14), .ref (adr 15), .ref (adr 16), .ref (adr 18), .ref (adr 20), .ref (adr 21), .int (nI no), .int le, .int pr, .int ra]) := by rw [hw_20, va_up_ne _ _ (by omega)]; exact h_8
  have h_23 : w_20 1 = .inr (4, [.ref (adr 2), .int (nI dl)]) := by rw [hw_20, va_up_ne _ _ (by omega)]; exact h_9
  have h_24 : w_20 2 = .inl (ac 0, 8, .inl (fun j => nI (dw j))) := by rw [hw_20, va_up_ne _ _ (by omega)]; exact h_10
  have h_25 : w_20 7 = .inr (2, [.ref (adr 8), .ref (adr 9), .ref (adr 10), .ref (adr 12), .int (nI ns)]) := by rw [hw_20, va_up_ne _ _ (by omega)]; exact h_11
  have h_26 : w_20 8 = .inl (ac 4, 40, .inr (.inr (.inr (.inr (sref adr ns so))))) := by rw [hw_20, va_up_ne _ _ (by omega)]; exact h_12
  have h_27 : w_20 9 = .inl (ac 1, 50, .inr (.inl hv)) := by rw [hw_20, va_up_ne _ _ (by omega)]; exact h_13
  have h_28 : w_20 10 = .inr (1, [.ref (adr 11), .int (nI nd)]) := by rw [hw_20, va_up_ne _ _ (by omega)]; exact h_14
  have h_29 : w_20 11 = .inl (ac 0, 60, .inl (fun j => nI (du j))) := by rw [hw_20, va_up_ne _ _ (by omega)]; exact h_15
  have h_30 : w_20 12 = .inr (0, [.ref (adr 13)]) := by rw [hw_20, va_up_ne _ _ (by omega)]; exact h_16
  have h_31 : w_20 13 = .inl (ac 0, 81, .inl T_21) := by rw [hw_20]; exact va_up_self _ _ _
  have h_32 : SenF ac adr w_20 no oc on_ owd obf := by rw [hw_20]; exact (SenF.up (by omega) h_18)
  subst hrv_19
  refine lv_istore_n (lv' := [(3, .int (shO dl (fun j => nI (dw j)) on_ owd ns so (bstV nd du on_ owd so oc ns (shw hv dw dl) dl (fun j => nI (dw j)) x le))), (0, .ref (adr 0)), (1, .int x), (2, .int b)]) hx hb dX7_cost_28 rfl hl (by decide) rfl (fun ls hl => ?_)
  refine lv_aload_n hx hb dX7_cost_29 rfl (lv_at hl 1 rfl) ?_
  refine lv_aload_n hx hb dX7_cost_30 rfl (lv_at hl 1 rfl) ?_
  refine m_get (ci := 7) (C := RX7) (T := TX7) (n := 13) (v := .ref (adr 1)) hx hb hts inX7_ hown hK rfl (hM.cel (by omega) h_22) 0 (by decide) (hts _ (by decide +kernel)) rfl dX7_cost_31 ?_
  refine m_getN (host := RX7) (ci := 4) (C := RX4) (T := TX4) (n := 2) (v := .int (nI dl)) hx hb hts inX4_ hown hK rfl (hM.cel (by omega) h_23) 1 (by decide) 3 rfl rfl dX7_cost_34 ?_
  refine lv_iload_n hx hb dX7_cost_37 rfl (lv_at hl 0 rfl) ?_
  refine lv_iload_n hx hb dX7_cost_38 rfl (lv_at hl 3 rfl) ?_
  refine r_calli (va_runV (As := [.int (nI dl), .int (shO dl (fun j => nI (dw j)) on_ owd ns so (bstV nd du on_ owd so oc ns (shw hv dw dl) dl (fun j => nI (dw j)) x le)), .int b]) (rest := []) ⟨hx, hb, hml, hown, hts⟩ (k_X7_costOf l D ac _ (adr 0) (.ref (adr 1)) (.ref (adr 3)) (.ref (adr 7)) (.ref (adr 14)) (.ref (adr 15)) (.ref (adr 16)) (.ref (adr 18)) (.ref (adr 20)) (.ref (adr 21)) (.int (nI no)) (.int le) (.int ra) pr (hM.cel (by omega) h_22) (nI dl) (shO dl (fun j => nI (dw j)) on_ owd ns so (bstV nd du on_ owd so oc ns (shw hv dw dl) dl (fun j => nI (dw j)) x le)) b) (cwV 3 hts gX7_cost_X7_costOf rfl rfl rfl (by decide +kernel) ⟨Nat.le_of_ble_eq_true rfl, Nat.le_of_ble_eq_true rfl⟩) (pV hK (ci := 7) rfl (hM.cel (by omega) h_22)) rfl rfl hl.1 rfl (lv_room (Nat.le_of_ble_eq_true rfl)) dX7_cost_39 ⟨Nat.le_of_ble_eq_true rfl, Nat.le_of_ble_eq_true rfl⟩) hS (fun rv_33 locs hrv_33 hS => ?_)
  subst hrv_33
  exact ex_i hx hb hlocks hr dX7_cost_42 (Nat.le_of_ble_eq_true rfl) (Nat.le_of_ble_eq_true rfl) hM hS (⟨k9, hk_k9, ex_k9, hdl0_, rfl, _, by rw [hw_20, hw_6, va_up_up]; exact ⟨(TGW.up (by omega) hR.1), (DraW.up (by omega) hR.2.1), (RulW.up (by omega) hR.2.2.1), (MemW.tab hm), (SenF.up (by omega) hR.2.2.2.2.1), (OrdF.up (by omega) hR.2.2.2.2.2.1), (DesW.up (by omega) hR.2.2.2.2.2.2.1), (HanW.up (by omega) hR.2.2.2.2.2.2.2.1), (MonW.up (by omega) hR.2.2.2.2.2.2.2.2.1), hR.2.2.2.2.2.2.2.2.2⟩⟩)
