set_option maxHeartbeats 4000000 in
set_option maxRecDepth 100000 in
/-- X7_match -/
theorem k_X7_match (l : Launch) (D : va_G) (ac : Nat → ClassId) (H : Heap) (hlt : l.stackTraces = false) (A : Nat → Prop) (N : Nat) (adr : Nat → Nat) (w : Nat → va_E) (hM : MW D A N adr w H) (dl : Nat) (dw : Nat → Nat) (fs : Nat → Int32) (fr : Nat → Int32) (ft : Nat → Nat) (ns : Nat) (so : Nat → Nat) (hv : Nat → Int64) (nd : Nat) (du : Nat → Nat) (T : Nat → Int32) (nr : Nat) (rq : Nat → Nat) (nq : Nat) (oq : Nat → Nat) (pd : Nat → Int32) (er : Nat → Int32) (no : Nat) (oc : Nat → Nat) (on_ : Nat → Nat) (owd : Nat → Nat → Nat) (obf : Nat → Nat → Int32) (rb : Nat → Int32) (st : Nat → Int32) (mt : Nat → Int32) (co : Nat → Int32) (py : Nat → Int32) (hd : Nat → Option Nat) (le : Int32) (pr : Int32) (ra : Int32) (hR : HR ac adr w dl dw fs fr ft ns so hv nd du T nr rq nq oq pd er no oc on_ owd obf rb st mt co py hd le pr ra) (hN : 22 + 6 * no ≤ N) (x : Int32) : WXi l yX7_match wsX7_match ({ frames := 8, cells := 2, slots := 12, locals := 131 }) [.ref (adr 0), .int x] D ac H A N adr w (fun r w1 => ∃ o, (ix x 4).bind hd = some o ∧ r = mt o ∧ w1 = w) (XC2 xIA xIS (cd2 (ix x 4).isNone ((ix x 4).bind hd).isNone)) 2 12 := by
  refine vx_ofW (cc := cX7_match) (maxL := 2) (ret := (some .int)) (by decide) rfl ?_
  intro p e s m args below meth c s₁ B hml hout hv
  obtain ⟨hargs, hsz, hK, hX⟩ := hv
  have hx := B.exec
  have hb := B.bytes
  have hr := B.returns
  have hts := atoms_spec (ws := wsX7_match) B.pre
  have hown : s.vm.findClass RX7 = some m.cls := findClass_of_methodNamed B.named
  have hlocks := B.notSynchronized
  subst hsz
  have inX3_ : ∀ w ∈ wsX30, w ∈ wsX7_match := by decide +kernel
  have hS : va_S A s.heap s.heap [] := va_S.rf
  have hl := lv_entry ([.ref (adr 0), .int x]) (n := 2) (Nat.le_of_ble_eq_true rfl)
  have hen := lg_entry_eq m [.ref (adr 0), .int x] 2
  rw [← hargs] at hen
  rw [hen]
  generalize (lg_sl ([.ref (adr 0), .int x]) ++ List.replicate (2 - (lg_sl ([.ref (adr 0), .int x])).length) Slot.unset).toArray = ls at hl ⊢
  have hl : lv_has ls 2 [(0, .ref (adr 0)), (1, .int x)] := hl
  obtain ⟨h0, hdr, hru, hm, hS1, hO1, hde, hha, hmo, hin_⟩ := id hR
  refine lv_aload_n hx hb dX7_match_0 rfl (lv_at hl 0 rfl) ?_
  refine lv_iload_n hx hb dX7_match_1 rfl (lv_at hl 1 rfl) ?_
  refine x_callq hlocks hout (vx_runV (As := [.int x]) (rest := []) ⟨hx, hb, hml, hown, hts⟩ (k_X7_orderInHandOf l D ac _ hlt A N adr w hM dl dw fs fr ft ns so hv nd du T nr rq nq oq pd er no oc on_ owd obf rb st mt co py hd le pr ra hR hN x) (cwV 1 hts gX7_match_X7_orderInHandOf rfl rfl rfl (by decide +kernel) ⟨(Nat.le_of_ble_eq_true rfl), (Nat.le_of_ble_eq_true rfl)⟩) (pVX hK (hX.at hS) (ci := 7) rfl (hM.cel (by omega) h0)) rfl rfl hl.1 rfl (lv_room (Nat.le_of_ble_eq_true rfl)) dX7_match_2 ⟨(Nat.le_of_ble_eq_true rfl), (Nat.le_of_ble_eq_true rfl)⟩) hS (fun E h => h) (Nat.le_of_ble_eq_true rfl) (Nat.le_of_ble_eq_true rfl) (fun rv_1 w_2 H locs hw_2 hM hS => ?_)
  obtain ⟨o9, hob_, rfl, e9_⟩ := hw_2
  obtain rfl := e9_.symm
  obtain ⟨t9, ht9_, ex_t9, hht_⟩ := hd_of hob_
  obtain ⟨ho_, hlo_⟩ := hin_.hlo ht9_ hht_
  have hO_ := hO1 o9 ho_
  have hsn_ := hS1 o9 ho_
  obtain ⟨hn0_, hn8_, hcl_, hwd_⟩ := hsn_.2.2.2.2.2
  refine m_topr ?_
  refine m_getN (host := RX7) (ci := 3) (C := RX3) (T := TX3) (n := 7) (v := .int (mt o9)) hx hb hts inX3_ hown hK rfl (hM.cel (by have := ho_; omega) hO_) 4 (by decide) 25 rfl rfl dX7_match_5 ?_
  exact ex_i hx hb hlocks hr dX7_match_8 (Nat.le_of_ble_eq_true rfl) (Nat.le_of_ble_eq_true rfl) hM hS (⟨o9, hob_, rfl, rfl⟩)
set_option maxHeartbeats 4000000 in
set_option maxRecDepth 100000 in
/-- X7_why -/
theorem k_X7_why (l : Launch) (D : va_G) (ac : Nat → ClassId) (H : Heap) (hlt : l.stackTraces = false) (A : Nat → Prop) (N : Nat) (adr : Nat → Nat) (w : Nat → va_E) (hM : MW D A N adr w H) (dl : Nat) (dw : Nat → Nat) (fs : Nat → Int32) (fr : Nat → Int32) (ft : Nat → Nat) (ns : Nat) (so : Nat → Nat) (hv : Nat → Int64) (nd : Nat) (du : Nat → Nat) (T : Nat → Int32) (nr : Nat) (rq : Nat → Nat) (nq : Nat) (oq : Nat → Nat) (pd : Nat → Int32) (er : Nat → Int32) (no : Nat) (oc : Nat → Nat) (on_ : Nat → Nat) (owd : Nat → Nat → Nat) (obf : Nat → Nat → Int32) (rb : Nat → Int32) (st : Nat → Int32) (mt : Nat → Int32) (co : Nat → Int32) (py : Nat → Int32) (hd : Nat → Option Nat) (le : Int32) (pr : Int32) (ra : Int32) (hR : HR ac adr w dl dw fs fr ft ns so hv nd du T nr rq nq oq pd er no oc on_ owd obf rb st mt co py hd le pr ra) (hN : 22 + 6 * no ≤ N) (x : Int32) : WXi l yX7_why wsX7_why ({ frames := 8, cells := 2, slots := 12, locals := 132 }) [.ref (adr 0), .int x] D ac H A N adr w (fun r w1 => ∃ o, (ix x 4).bind hd = some o ∧ WhyP (rb o) (on_ o) fr (oc o) (owd o) (obf o) r ∧ w1 = w) (XC2 xIA xIS (cd2 (ix x 4).isNone ((ix x 4).bind hd).isNone)) 2 12 := by
  refine vx_ofW (cc := cX7_why) (maxL := 2) (ret := (some .int)) (by decide) rfl ?_
  intro p e s m args below meth c s₁ B hml hout hv
  obtain ⟨hargs, hsz, hK, hX⟩ := hv
  have hx := B.exec
  have hb := B.bytes
  have hr := B.returns
  have hts := atoms_spec (ws := wsX7_why) B.pre
  have hown : s.vm.findClass RX7 = some m.cls := findClass_of_methodNamed B.named
  have hlocks := B.notSynchronized
  subst hsz
  have inX7_ : ∀ w ∈ wsX70, w ∈ wsX7_why := by decide +kernel
  have hS : va_S A s.heap s.heap [] := va_S.rf
  have hl := lv_entry ([.ref (adr 0), .int x]) (n := 2) (Nat.le_of_ble_eq_true rfl)
  have hen := lg_entry_eq m [.ref (adr 0), .int x] 2
  rw [← hargs] at hen
  rw [hen]
  generalize (lg_sl ([.ref (adr 0), .int x]) ++ List.replicate (2 - (lg_sl ([.ref (adr 0), .int x])).length) Slot.unset).toArray = ls at hl ⊢
  have hl : lv_has ls 2 [(0, .ref (adr 0)), (1, .int x)] := hl
  obtain ⟨h0, hdr, hru, hm, hS1, hO1, hde, hha, hmo, hin_⟩ := id hR
  refine lv_aload_n hx hb dX7_why_0 rfl (lv_at hl 0 rfl) ?_
  refine lv_iload_n hx hb dX7_why_1 rfl (lv_at hl 1 rfl) ?_
  refine x_callq hlocks hout (vx_runV (As := [.int x]) (rest := []) ⟨hx, hb, hml, hown, hts⟩ (k_X7_orderInHandOf l D ac _ hlt A N adr w hM dl dw fs fr ft ns so hv nd du T nr rq nq oq pd er no oc on_ owd obf rb st mt co py hd le pr ra hR hN x) (cwV 1 hts gX7_why_X7_orderInHandOf rfl rfl rfl (by decide +kernel) ⟨(Nat.le_of_ble_eq_true rfl), (Nat.le_of_ble_eq_true rfl)⟩) (pVX hK (hX.at hS) (ci := 7) rfl (hM.cel (by omega) h0)) rfl rfl hl.1 rfl (lv_room (Nat.le_of_ble_eq_true rfl)) dX7_why_2 ⟨(Nat.le_of_ble_eq_true rfl), (Nat.le_of_ble_eq_true rfl)⟩) hS (fun E h => h) (Nat.le_of_ble_eq_true rfl) (Nat.le_of_ble_eq_true rfl) (fun rv_1 w_2 H locs hw_2 hM hS => ?_)
  obtain ⟨o9, hob_, rfl, e9_⟩ := hw_2
  obtain rfl := e9_.symm
  obtain ⟨t9, ht9_, ex_t9, hht_⟩ := hd_of hob_
  obtain ⟨ho_, hlo_⟩ := hin_.hlo ht9_ hht_
  have hO_ := hO1 o9 ho_
  have hsn_ := hS1 o9 ho_
  obtain ⟨hn0_, hn8_, hcl_, hwd_⟩ := hsn_.2.2.2.2.2
  refine m_topr ?_
  refine lv_aload_n hx hb dX7_why_5 rfl (lv_at hl 0 rfl) ?_
  refine m_get (ci := 7) (C := RX7) (T := TX7) (n := 13) (v := .ref (adr 3)) hx hb hts inX7_ hown hK rfl (hM.cel (by omega) h0) 1 (by decide) (hts _ (by decide +kernel)) rfl dX7_why_6 ?_
  refine r_calli (va_runV (As := [.ref (adr 3)]) (rest := []) ⟨hx, hb, hml, hown, hts⟩ (k_X3_whyNot l D ac _ (adr (23 + 6 * o9)) (adr (23 + 6 * o9 + 1)) (adr (23 + 6 * o9 + 2)) (adr (23 + 6 * o9 + 3)) (adr (23 + 6 * o9 + 4)) ((oc o9)) ((on_ o9)) (fun j => nI (owd o9 j)) (obf o9) (owd o9) ⟨(hM.cel (by have := ho_; omega) hsn_.1), (hM.cel (by have := ho_; omega) hsn_.2.1), (hM.cel (by have := ho_; omega) hsn_.2.2.1), (hM.cel (by have := ho_; omega) hsn_.2.2.2.1), (hM.cel (by have := ho_; omega) hsn_.2.2.2.2.1), ⟨hn8_, hcl_, fun j hj => ⟨rfl, hwd_ j hj⟩⟩⟩ (adr 3) (adr 4) (adr 5) (adr 6) fs fr (fun j => nI (ft j)) ⟨(hM.cel (by omega) hru.1), (hM.cel (by omega) hru.2.1), (hM.cel (by omega) hru.2.2.1), (hM.cel (by omega) hru.2.2.2)⟩ (adr (22 + 6 * o9)) (nI o9) (rb o9) (st o9) (mt o9) (co o9) (py o9) (hM.cel (by have := ho_; omega) hO_)) (cwV 1 hts gX7_why_X3_whyNot rfl rfl rfl (by decide +kernel) ⟨Nat.le_of_ble_eq_true rfl, Nat.le_of_ble_eq_true rfl⟩) (pV hK (ci := 3) rfl (hM.cel (by have := ho_; omega) hO_)) rfl rfl hl.1 rfl (lv_room (Nat.le_of_ble_eq_true rfl)) dX7_why_9 ⟨Nat.le_of_ble_eq_true rfl, Nat.le_of_ble_eq_true rfl⟩) hS (fun rv_3 locs hrv_3 hS => ?_)
  exact ex_i hx hb hlocks hr dX7_why_12 (Nat.le_of_ble_eq_true rfl) (Nat.le_of_ble_eq_true rfl) hM hS (⟨o9, hob_, hrv_3, rfl⟩)
set_option maxHeartbeats 4000000 in
set_option maxRecDepth 100000 in
/-- X7_wherefore -/
theorem k_X7_wherefore (l : Launch) (D : va_G) (ac : Nat → ClassId) (H : Heap) (hlt : l.stackTraces = false) (A : Nat → Prop) (N : Nat) (adr : Nat → Nat) (w : Nat → va_E) (hM : MW D A N adr w H) (dl : Nat) (dw : Nat → Nat) (fs : Nat → Int32) (fr : Nat → Int32) (ft : Nat → Nat) (ns : Nat) (so : Nat → Nat) (hv : Nat → Int64) (nd : Nat) (du : Nat → Nat) (T : Nat → Int32) (nr : Nat) (rq : Nat → Nat) (nq : Nat) (oq : Nat → Nat) (pd : Nat → Int32) (er : Nat → Int32) (no : Nat) (oc : Nat → Nat) (on_ : Nat → Nat) (owd : Nat → Nat → Nat) (obf : Nat → Nat → Int32) (rb : Nat → Int32) (st : Nat → Int32) (mt : Nat → Int32) (co : Nat → Int32) (py : Nat → Int32) (hd : Nat → Option Nat) (le : Int32) (pr : Int32) (ra : Int32) (hR : HR ac adr w dl dw fs fr ft ns so hv nd du T nr rq nq oq pd er no oc on_ owd obf rb st mt co py hd le pr ra) (hN : 22 + 6 * no ≤ N) (x : Int32) : WXi l yX7_wherefore wsX7_wherefore ({ frames := 8, cells := 2, slots := 12, locals := 133 }) [.ref (adr 0), .int x] D ac H A N adr w (fun r w1 => ∃ o, (ix x 4).bind hd = some o ∧ WheP (rb o) (on_ o) fr (oc o) (owd o) (obf o) r ∧ w1 = w) (XC2 xIA xIS (cd2 (ix x 4).isNone ((ix x 4).bind hd).isNone)) 2 12 := by
  refine vx_ofW (cc := cX7_wherefore) (maxL := 2) (ret := (some .int)) (by decide) rfl ?_
  intro p e s m args below meth c s₁ B hml hout hv
  obtain ⟨hargs, hsz, hK, hX⟩ := hv
  have hx := B.exec
  have hb := B.bytes
  have hr := B.returns
  have hts := atoms_spec (ws := wsX7_wherefore) B.pre
  have hown : s.vm.findClass RX7 = some m.cls := findClass_of_methodNamed B.named
  have hlocks := B.notSynchronized
  subst hsz
  have inX7_ : ∀ w ∈ wsX70, w ∈ wsX7_wherefore := by decide +kernel
  have hS : va_S A s.heap s.heap [] := va_S.rf
  have hl := lv_entry ([.ref (adr 0), .int x]) (n := 2) (Nat.le_of_ble_eq_true rfl)
  have hen := lg_entry_eq m [.ref (adr 0), .int x] 2
  rw [← hargs] at hen
  rw [hen]
  generalize (lg_sl ([.ref (adr 0), .int x]) ++ List.replicate (2 - (lg_sl ([.ref (adr 0), .int x])).length) Slot.unset).toArray = ls at hl ⊢
  have hl : lv_has ls 2 [(0, .ref (adr 0)), (1, .int x)] := hl
  obtain ⟨h0, hdr, hru, hm, hS1, hO1, hde, hha, hmo, hin_⟩ := id hR
  refine lv_aload_n hx hb dX7_wherefore_0 rfl (lv_at hl 0 rfl) ?_
  refine lv_iload_n hx hb dX7_wherefore_1 rfl (lv_at hl 1 rfl) ?_
  refine x_callq hlocks hout (vx_runV (As := [.int x]) (rest := []) ⟨hx, hb, hml, hown, hts⟩ (k_X7_orderInHandOf l D ac _ hlt A N adr w hM dl dw fs fr ft ns so hv nd du T nr rq nq oq pd er no oc on_ owd obf rb st mt co py hd le pr ra hR hN x) (cwV 1 hts gX7_wherefore_X7_orderInHandOf rfl rfl rfl (by decide +kernel) ⟨(Nat.le_of_ble_eq_true rfl), (Nat.le_of_ble_eq_true rfl)⟩) (pVX hK (hX.at hS) (ci := 7) rfl (hM.cel (by omega) h0)) rfl rfl hl.1 rfl (lv_room (Nat.le_of_ble_eq_true rfl)) dX7_wherefore_2 ⟨(Nat.le_of_ble_eq_true rfl), (Nat.le_of_ble_eq_true rfl)⟩) hS (fun E h => h) (Nat.le_of_ble_eq_true rfl) (Nat.le_of_ble_eq_true rfl) (fun rv_1 w_2 H locs hw_2 hM hS => ?_)
  obtain ⟨o9, hob_, rfl, e9_⟩ := hw_2
  obtain rfl := e9_.symm
  obtain ⟨t9, ht9_, ex_t9, hht_⟩ := hd_of hob_
  obtain ⟨ho_, hlo_⟩ := hin_.hlo ht9_ hht_
  have hO_ := hO1 o9 ho_
  have hsn_ := hS1 o9 ho_
  obtain ⟨hn0_, hn8_, hcl_, hwd_⟩ := hsn_.2.2.2.2.2
  refine m_topr ?_
  refine lv_aload_n hx hb dX7_wherefore_5 rfl (lv_at hl 0 rfl) ?_
  refine m_get (ci := 7) (C := RX7) (T := TX7) (n := 13) (v := .ref (adr 3)) hx hb hts inX7_ hown hK rfl (hM.cel (by omega) h0) 1 (by decide) (hts _ (by decide +kernel)) rfl dX7_wherefore_6 ?_
  refine r_calli (va_runV (As := [.ref (adr 3)]) (rest := []) ⟨hx, hb, hml, hown, hts⟩ (k_X3_whereNot l D ac _ (adr (23 + 6 * o9)) (adr (23 + 6 * o9 + 1)) (adr (23 + 6 * o9 + 2)) (adr (23 + 6 * o9 + 3)) (adr (23 + 6 * o9 + 4)) ((oc o9)) ((on_ o9)) (fun j => nI (owd o9 j)) (obf o9) (owd o9) ⟨(hM.cel (by have := ho_; omega) hsn_.1), (hM.cel (by have := ho_; omega) hsn_.2.1), (hM.cel (by have := ho_; omega) hsn_.2.2.1), (hM.cel (by have := ho_; omega) hsn_.2.2.2.1), (hM.cel (by have := ho_; omega) hsn_.2.2.2.2.1), ⟨hn8_, hcl_, fun j hj => ⟨rfl, hwd_ j hj⟩⟩⟩ (adr 3) (adr 4) (adr 5) (adr 6) fs fr (fun j => nI (ft j)) ⟨(hM.cel (by omega) hru.1), (hM.cel (by omega) hru.2.1), (hM.cel (by omega) hru.2.2.1), (hM.cel (by omega) hru.2.2.2)⟩ (adr (22 + 6 * o9)) (nI o9) (rb o9) (st o9) (mt o9) (co o9) (py o9) (hM.cel (by have := ho_; omega) hO_)) (cwV 1 hts gX7_wherefore_X3_whereNot rfl rfl rfl (by decide +kernel) ⟨Nat.le_of_ble_eq_true rfl, Nat.le_of_ble_eq_true rfl⟩) (pV hK (ci := 3) rfl (hM.cel (by have := ho_; omega) hO_)) rfl rfl hl.1 rfl (lv_room (Nat.le_of_ble_eq_true rfl)) dX7_wherefore_9 ⟨Nat.le_of_ble_eq_true rfl, Nat.le_of_ble_eq_true rfl⟩) hS (fun rv_3 locs hrv_3 hS => ?_)
  exact ex_i hx hb hlocks hr dX7_wherefore_12 (Nat.le_of_ble_eq_true rfl) (Nat.le_of_ble_eq_true rfl) hM hS (⟨o9, hob_, hrv_3, rfl⟩)
theorem cd2_1 {a b : Bool} (h : a = true) : cd2 a b = 1 := by rw [h]; rfl
theorem cd2_2 {a b : Bool} (h : a = false) (h2 : b = true) : cd2 a b = 2 := by rw [h, h2]; rfl
theorem cd3_1 {a b c : Bool} (h : cd2 a b = 1) : cd3 a b c = 1 := by
  cases a <;> cases b <;> first | rfl | (exact absurd h (by decide))
theorem cd3_2 {a b c : Bool} (h : cd2 a b = 2) : cd3 a b c = 2 := by
  cases a <;> cases b <;> first | rfl | (exact absurd h (by decide))
theorem cd3_3 {a b c : Bool} (h : a = false) (h2 : b = false) (h3 : c = true) : cd3 a b c = 3 := by rw [h, h2, h3]; rfl
theorem ixb {hd : Nat → Option Nat} {x : Int32} {o : Nat} (h : (ix x 4).bind hd = some o) : (ix x 4).isNone = false ∧ ((ix x 4).bind hd).isNone = false := by
  rw [h]
  refine ⟨?_, rfl⟩
  rcases hq : ix x 4 with _ | t
  · rw [hq] at h; exact absurd h (fun z => nomatch z)
  · rfl
set_option maxHeartbeats 4000000 in
set_option maxRecDepth 100000 in
/-- X7_became -/
theorem k_X7_became (l : Launch) (D : va_G) (ac : Nat → ClassId) (H : Heap) (hlt : l.stackTraces = false) (A : Nat → Prop) (N : Nat) (adr : Nat → Nat) (w : Nat → va_E) (hM : MW D A N adr w H) (dl : Nat) (dw : Nat → Nat) (fs : Nat → Int32) (fr : Nat → Int32) (ft : Nat → Nat) (ns : Nat) (so : Nat → Nat) (hv : Nat → Int64) (nd : Nat) (du : Nat → Nat) (T : Nat → Int32) (nr : Nat) (rq : Nat → Nat) (nq : Nat) (oq : Nat → Nat) (pd : Nat → Int32) (er : Nat → Int32) (no : Nat) (oc : Nat → Nat) (on_ : Nat → Nat) (owd : Nat → Nat → Nat) (obf : Nat → Nat → Int32) (rb : Nat → Int32) (st : Nat → Int32) (mt : Nat → Int32) (co : Nat → Int32) (py : Nat → Int32) (hd : Nat → Option Nat) (le : Int32) (pr : Int32) (ra : Int32) (hR : HR ac adr w dl dw fs fr ft ns so hv nd du T nr rq nq oq pd er no oc on_ owd obf rb st mt co py hd le pr ra) (hN : 22 + 6 * no ≤ N) (x y : Int32) : WXi l yX7_became wsX7_became ({ frames := 8, cells := 3, slots := 18, locals := 131 }) [.ref (adr 0), .int x, .int y] D ac H A N adr w (fun r w1 => ∃ o k, (ix x 4).bind hd = some o ∧ k < on_ o ∧ y = nI k ∧ r = obf o k ∧ w1 = w) (XC3 xIA xIS xIO (cd3 (ix x 4).isNone ((ix x 4).bind hd).isNone (((ix x 4).bind hd).elim true (fun o => (ix y (on_ o)).isNone)))) 3 18 := by
  refine vx_ofW (cc := cX7_became) (maxL := 4) (ret := (some .int)) (by decide) rfl ?_
  intro p e s m args below meth c s₁ B hml hout hv
  obtain ⟨hargs, hsz, hK, hX⟩ := hv
  have hx := B.exec
  have hb := B.bytes
  have hr := B.returns
  have hts := atoms_spec (ws := wsX7_became) B.pre
  have hown : s.vm.findClass RX7 = some m.cls := findClass_of_methodNamed B.named
  have hlocks := B.notSynchronized
  subst hsz
  have inX3_ : ∀ w ∈ wsX30, w ∈ wsX7_became := by decide +kernel
  have inX6_ : ∀ w ∈ wsX60, w ∈ wsX7_became := by decide +kernel
  have hS : va_S A s.heap s.heap [] := va_S.rf
  have hl := lv_entry ([.ref (adr 0), .int x, .int y]) (n := 4) (Nat.le_of_ble_eq_true rfl)
  have hen := lg_entry_eq m [.ref (adr 0), .int x, .int y] 4
  rw [← hargs] at hen
  rw [hen]
  generalize (lg_sl ([.ref (adr 0), .int x, .int y]) ++ List.replicate (4 - (lg_sl ([.ref (adr 0), .int x, .int y])).length) Slot.unset).toArray = ls at hl ⊢
  have hl : lv_has ls 4 [(0, .ref (adr 0)), (1, .int x), (2, .int y)] := hl
  obtain ⟨h0, hdr, hru, hm, hS1, hO1, hde, hha, hmo, hin_⟩ := id hR
  refine lv_aload_n hx hb dX7_became_0 rfl (lv_at hl 0 rfl) ?_
  refine lv_iload_n hx hb dX7_became_1 rfl (lv_at hl 1 rfl) ?_
  refine x_callq hlocks hout (vx_runV (As := [.int x]) (rest := []) ⟨hx, hb, hml, hown, hts⟩ (k_X7_orderInHandOf l D ac _ hlt A N adr w hM dl dw fs fr ft ns so hv nd du T nr rq nq oq pd er no oc on_ owd obf rb st mt co py hd le pr ra hR hN x) (cwV 1 hts gX7_became_X7_orderInHandOf rfl rfl rfl (by decide +kernel) ⟨(Nat.le_of_ble_eq_true rfl), (Nat.le_of_ble_eq_true rfl)⟩) (pVX hK (hX.at hS) (ci := 7) rfl (hM.cel (by omega) h0)) rfl rfl hl.1 rfl (lv_room (Nat.le_of_ble_eq_true rfl)) dX7_became_2 ⟨(Nat.le_of_ble_eq_true rfl), (Nat.le_of_ble_eq_true rfl)⟩) hS (fun E h => by rcases h with ⟨h1, h2⟩ | ⟨h1, h2⟩; exact Or.inl ⟨h1, cd3_1 h2⟩; exact Or.inr (Or.inl ⟨h1, cd3_2 h2⟩)) (Nat.le_of_ble_eq_true rfl) (Nat.le_of_ble_eq_true rfl) (fun rv_1 w_2 H locs hw_2 hM hS => ?_)
  obtain ⟨o9, hob_, rfl, e9_⟩ := hw_2
  obtain rfl := e9_.symm
  obtain ⟨t9, ht9_, ex_t9, hht_⟩ := hd_of hob_
  obtain ⟨ho_, hlo_⟩ := hin_.hlo ht9_ hht_
  have hO_ := hO1 o9 ho_
  have hsn_ := hS1 o9 ho_
  obtain ⟨hn0_, hn8_, hcl_, hwd_⟩ := hsn_.2.2.2.2.2
  refine m_topr ?_
  refine m_getN (host := RX7) (ci := 3) (C := RX3) (T := TX3) (n := 7) (v := .ref (adr (23 + 6 * o9))) hx hb hts inX3_ hown hK rfl (hM.cel (by have := ho_; omega) hO_) 2 (by decide) 23 rfl rfl dX7_became_5 ?_
  refine lv_astore_n (lv' := [(3, .ref (adr (23 + 6 * o9))), (0, .ref (adr 0)), (1, .int x), (2, .int y)]) hx hb dX7_became_8 rfl hl (by decide) rfl (fun ls hl => ?_)
  refine lv_aload_n hx hb dX7_became_9 rfl (lv_at hl 0 rfl) ?_
  refine lv_iload_n hx hb dX7_became_10 rfl (lv_at hl 3 rfl) ?_
  refine x_callv hlocks hout (vx_runS (As := [.ref (adr (23 + 6 * o9)), .int y]) (rest := []) ⟨hx, hb, hml, hown, hts⟩ (k_X7_refuseUnlessPlace l D ac _ hlt A N adr w hM (23 + 6 * o9) (oc o9) (on_ o9) (owd o9) (obf o9) (by omega) hsn_ y) (va_cwS 2 hts gX7_became_X7_refuseUnlessPlace rfl rfl rfl (by decide +kernel) ⟨(Nat.le_of_ble_eq_true rfl), (Nat.le_of_ble_eq_true rfl)⟩) (pSX hK (hX.at hS)) rfl rfl hl.1 rfl (lv_room (Nat.le_of_ble_eq_true rfl)) dX7_became_11 ⟨(Nat.le_of_ble_eq_true rfl), (Nat.le_of_ble_eq_true rfl)⟩) hS (fun E h => Or.inr (Or.inr ⟨h.1, cd3_3 (ixb hob_).1 (ixb hob_).2 (by rw [hob_]; exact h.2)⟩)) (Nat.le_of_ble_eq_true rfl) (Nat.le_of_ble_eq_true rfl) (fun w_4 H locs hw_4 hM hS => ?_)
  obtain ⟨⟨p9, hk_p9, ex_p9⟩, e9_⟩ := hw_4
  obtain rfl := e9_.symm
  refine lv_aload_n hx hb dX7_became_14 rfl (lv_at hl 0 rfl) ?_
  refine m_getN (host := RX7) (ci := 6) (C := RX6) (T := TX6) (n := 3) (v := .ref (adr (23 + 6 * o9 + 3))) hx hb hts inX6_ hown hK rfl (hM.cel (by have := ho_; omega) hsn_.1) 2 (by decide) 20 rfl rfl dX7_became_15 ?_
  refine lv_iload_n hx hb dX7_became_18 rfl (lv_at hl 3 rfl) ?_
  refine r_calli (va_runV (As := [.int y]) (rest := []) ⟨hx, hb, hml, hown, hts⟩ (k_X4_at l D ac _ (adr (23 + 6 * o9 + 3)) (adr (23 + 6 * o9 + 4)) (on_ o9) (obf o9) (hM.cel (by have := ho_; omega) hsn_.2.2.2.1) (hM.cel (by have := ho_; omega) hsn_.2.2.2.2.1) (by omega) y) (cwV 1 hts gX7_became_X4_at rfl rfl rfl (by decide +kernel) ⟨Nat.le_of_ble_eq_true rfl, Nat.le_of_ble_eq_true rfl⟩) (pV hK (ci := 4) rfl (hM.cel (by have := ho_; omega) hsn_.2.2.2.1)) rfl rfl hl.1 rfl (lv_room (Nat.le_of_ble_eq_true rfl)) dX7_became_19 ⟨Nat.le_of_ble_eq_true rfl, Nat.le_of_ble_eq_true rfl⟩) hS (fun rv_5 locs hrv_5 hS => ?_)
  subst hrv_5
  refine m_top (show ((ix y (on_ o9)).elim (-1) (obf o9)) = obf o9 p9 from by rw [ex_p9, ix_nI hk_p9 (by omega)]; rfl) ?_
  exact ex_i hx hb hlocks hr dX7_became_22 (Nat.le_of_ble_eq_true rfl) (Nat.le_of_ble_eq_true rfl) hM hS (⟨o9, p9, hob_, hk_p9, ex_p9, rfl, rfl⟩)
set_option maxHeartbeats 4000000 in
set_option maxRecDepth 100000 in
/-- X7_waiting -/
theorem k_X7_waiting (l : Launch) (D : va_G) (ac : Nat → ClassId) (H : Heap) (A : Nat → Prop) (N : Nat) (adr : Nat → Nat) (w : Nat → va_E) (hM : MW D A N adr w H) (dl : Nat) (dw : Nat → Nat) (fs : Nat → Int32) (fr : Nat → Int32) (ft : Nat → Nat) (ns : Nat) (so : Nat → Nat) (hv : Nat → Int64) (nd : Nat) (du : Nat → Nat) (T : Nat → Int32) (nr : Nat) (rq : Nat → Nat) (nq : Nat) (oq : Nat → Nat) (pd : Nat → Int32) (er : Nat → Int32) (no : Nat) (oc : Nat → Nat) (on_ : Nat → Nat) (owd : Nat → Nat → Nat) (obf : Nat → Nat → Int32) (rb : Nat → Int32) (st : Nat → Int32) (mt : Nat → Int32) (co : Nat → Int32) (py : Nat → Int32) (hd : Nat → Option Nat) (le : Int32) (pr : Int32) (ra : Int32) (hR : HR ac adr w dl dw fs fr ft ns so hv nd du T nr rq nq oq pd er no oc on_ owd obf rb st mt co py hd le pr ra) (hN : 22 + 6 * no ≤ N) (x : Int32) : WRi l yX7_waiting wsX7_waiting ({ frames := 1, cells := 0, slots := 0, locals := 21 }) [.ref (adr 0), .int x] D ac H A N adr (fun r w1 => r = (if x = 0 then nI nq else nI nr) ∧ w1 = w) := by
  refine Met.ofW (cc := cX7_waiting) (maxL := 2) (ret := (some .int)) (by decide) rfl ?_
  intro p e s m args below meth c s₁ B hml hv
  obtain ⟨hargs, hsz, hK⟩ := hv
  have hx := B.exec
  have hb := B.bytes
  have hr := B.returns
  have hts := atoms_spec (ws := wsX7_waiting) B.pre
  have hown : s.vm.findClass RX7 = some m.cls := findClass_of_methodNamed B.named
  have hlocks := B.notSynchronized
  subst hsz
  have inX1_ : ∀ w ∈ wsX10, w ∈ wsX7_waiting := by decide +kernel
  have hS : va_S A s.heap s.heap [] := va_S.rf
  have hl := lv_entry ([.ref (adr 0), .int x]) (n := 2) (Nat.le_of_ble_eq_true rfl)
  have hen := lg_entry_eq m [.ref (adr 0), .int x] 2
  rw [← hargs] at hen
  rw [hen]
  generalize (lg_sl ([.ref (adr 0), .int x]) ++ List.replicate (2 - (lg_sl ([.ref (adr 0), .int x])).length) Slot.unset).toArray = ls at hl ⊢
  have hl : lv_has ls 2 [(0, .ref (adr 0)), (1, .int x)] := hl
  obtain ⟨h0, hdr, hru, hm, hS1, hO1, hde, hha, hmo, hin_⟩ := id hR
  refine lv_aload_n hx hb dX7_waiting_0 rfl (lv_at hl 0 rfl) ?_
  refine lv_iload_n hx hb dX7_waiting_1 rfl (lv_at hl 1 rfl) ?_
  refine r_callq (va_runV (As := [.int x]) (rest := []) ⟨hx, hb, hml, hown, hts⟩ (k_X7_deskFor l D ac _ (adr 0) (adr 16) (adr 18) (.ref (adr 1)) (.ref (adr 3)) (.ref (adr 7)) (.ref (adr 14)) (.ref (adr 15)) (.ref (adr 20)) (.ref (adr 21)) (.int (nI no)) (.int le) (.int pr) (.int ra) (hM.cel (by omega) h0) x) (cwV 1 hts gX7_waiting_X7_deskFor rfl rfl rfl (by decide +kernel) ⟨Nat.le_of_ble_eq_true rfl, Nat.le_of_ble_eq_true rfl⟩) (pV hK (ci := 7) rfl (hM.cel (by omega) h0)) rfl rfl hl.1 rfl (lv_room (Nat.le_of_ble_eq_true rfl)) dX7_waiting_2 ⟨Nat.le_of_ble_eq_true rfl, Nat.le_of_ble_eq_true rfl⟩) hS (fun rv_1 locs hrv_1 hS => ?_)
  subst hrv_1
  by_cases hb0_ : x = 0
  · refine m_topq (if_pos hb0_) ?_
    refine m_topr ?_
    refine m_getN (host := RX7) (ci := 1) (C := RX1) (T := TX1) (n := 2) (v := .int (nI nq)) hx hb hts inX1_ hown hK rfl (hM.cel (by omega) hde.2.2.1) 1 (by decide) 8 rfl rfl dX7_waiting_5 ?_
    exact e_wi hx hb hlocks hr dX7_waiting_8 hM hS (by refine ⟨?_, rfl⟩; first | rw [if_pos hb0_] | rw [if_neg hb0_])
  · refine m_topq (if_neg hb0_) ?_
    refine m_topr ?_
    refine m_getN (host := RX7) (ci := 1) (C := RX1) (T := TX1) (n := 2) (v := .int (nI nr)) hx hb hts inX1_ hown hK rfl (hM.cel (by omega) hde.1) 1 (by decide) 8 rfl rfl dX7_waiting_5 ?_
    exact e_wi hx hb hlocks hr dX7_waiting_8 hM hS (by refine ⟨?_, rfl⟩; first | rw [if_pos hb0_] | rw [if_neg hb0_])
set_option maxHeartbeats 4000000 in
set_option maxRecDepth 100000 in
/-- X7_orderAt -/
theorem k_X7_orderAt (l : Launch) (D : va_G) (ac : Nat → ClassId) (H : Heap) (hlt : l.stackTraces = false) (A : Nat → Prop) (N : Nat) (adr : Nat → Nat) (w : Nat → va_E) (hM : MW D A N adr w H) (dl : Nat) (dw : Nat → Nat) (fs : Nat → Int32) (fr : Nat → Int32) (ft : Nat → Nat) (ns : Nat) (so : Nat → Nat) (hv : Nat → Int64) (nd : Nat) (du : Nat → Nat) (T : Nat → Int32) (nr : Nat) (rq : Nat → Nat) (nq : Nat) (oq : Nat → Nat) (pd : Nat → Int32) (er : Nat → Int32) (no : Nat) (oc : Nat → Nat) (on_ : Nat → Nat) (owd : Nat → Nat → Nat) (obf : Nat → Nat → Int32) (rb : Nat → Int32) (st : Nat → Int32) (mt : Nat → Int32) (co : Nat → Int32) (py : Nat → Int32) (hd : Nat → Option Nat) (le : Int32) (pr : Int32) (ra : Int32) (hR : HR ac adr w dl dw fs fr ft ns so hv nd du T nr rq nq oq pd er no oc on_ owd obf rb st mt co py hd le pr ra) (hN : 22 + 6 * no ≤ N) (x : Int32) : WXi l yX7_orderAt wsX7_orderAt ({ frames := 6, cells := 1, slots := 6, locals := 89 }) [.ref (adr 0), .int x] D ac H A N adr w (fun r w1 => ∃ i, i < no ∧ x = nI i ∧ r = st i ∧ w1 = w) (XC1 xIO (cd1 (ix x no).isNone)) 1 6 := by
  refine vx_ofW (cc := cX7_orderAt) (maxL := 3) (ret := (some .int)) (by decide) rfl ?_
  intro p e s m args below meth c s₁ B hml hout hv
  obtain ⟨hargs, hsz, hK, hX⟩ := hv
  have hx := B.exec
  have hb := B.bytes
  have hr := B.returns
  have hts := atoms_spec (ws := wsX7_orderAt) B.pre
  have hown : s.vm.findClass RX7 = some m.cls := findClass_of_methodNamed B.named
  have hlocks := B.notSynchronized
  subst hsz
  have inX3_ : ∀ w ∈ wsX30, w ∈ wsX7_orderAt := by decide +kernel
  have hgIO_ : ∀ w ∈ (vx_at0 RX7 239 xIO xNames).filter goodWord, w ∈ wsX7_orderAt := by decide +kernel
  have hS : va_S A s.heap s.heap [] := va_S.rf
  have hl := lv_entry ([.ref (adr 0), .int x]) (n := 3) (Nat.le_of_ble_eq_true rfl)
  have hen := lg_entry_eq m [.ref (adr 0), .int x] 3
  rw [← hargs] at hen
  rw [hen]
  generalize (lg_sl ([.ref (adr 0), .int x]) ++ List.replicate (3 - (lg_sl ([.ref (adr 0), .int x])).length) Slot.unset).toArray = ls at hl ⊢
  have hl : lv_has ls 3 [(0, .ref (adr 0)), (1, .int x)] := hl
  obtain ⟨h0, hdr, hru, hm, hS1, hO1, hde, hha, hmo, hin_⟩ := id hR
  refine lv_aload_n hx hb dX7_orderAt_0 rfl (lv_at hl 0 rfl) ?_
  refine lv_iload_n hx hb dX7_orderAt_1 rfl (lv_at hl 1 rfl) ?_
  refine r_callq (va_runV (As := [.int x]) (rest := []) ⟨hx, hb, hml, hown, hts⟩ (k_X7_orderNumbered l D ac _ (adr 0) (adr 14) (oref adr no) (.ref (adr 1)) (.ref (adr 3)) (.ref (adr 7)) (.ref (adr 15)) (.ref (adr 16)) (.ref (adr 18)) (.ref (adr 20)) (.ref (adr 21)) (.int (nI no)) (.int le) (.int pr) (.int ra) (hM.cel (by omega) h0) (hM.cel (by omega) hha.1) x) (cwV 1 hts gX7_orderAt_X7_orderNumbered rfl rfl rfl (by decide +kernel) ⟨Nat.le_of_ble_eq_true rfl, Nat.le_of_ble_eq_true rfl⟩) (pV hK (ci := 7) rfl (hM.cel (by omega) h0)) rfl rfl hl.1 rfl (lv_room (Nat.le_of_ble_eq_true rfl)) dX7_orderAt_2 ⟨Nat.le_of_ble_eq_true rfl, Nat.le_of_ble_eq_true rfl⟩) hS (fun rv_1 locs hrv_1 hS => ?_)
  subst hrv_1
  refine m_topq (show _ = (ix x no).map (fun i => adr (22 + 6 * i)) from onum_eq (by have := hha.2.2; omega)) ?_
  rcases hi : ix x no with _ | jhi
  · refine m_topn ?_
    refine lv_astore_nN (lv' := [(2, .null), (0, .ref (adr 0)), (1, .int x)]) hx hb dX7_orderAt_5 rfl hl (by decide) rfl (fun ls hl => ?_)
    refine lv_aload_nN hx hb dX7_orderAt_6 rfl (lv_at hl 0 rfl) ?_
    refine lv_ifnonnullN hx hb dX7_orderAt_7 ?_
    exact x_throw hx hb hlt hlocks hout hown (by decide) (hts _ (by decide +kernel)) (hts _ (by decide +kernel)) (fun w hw => hts w (hgIO_ w hw)) ng_IO ot_IO hX hM hS (hl.1.trans hml.symm) dX7_orderAt_10 dX7_orderAt_13 dX7_orderAt_14 dX7_orderAt_17 (Nat.le_of_ble_eq_true rfl) (Nat.le_of_ble_eq_true rfl) (Nat.le_of_ble_eq_true rfl) (Nat.le_of_ble_eq_true rfl) (Nat.le_of_ble_eq_true rfl) (Nat.le_of_ble_eq_true rfl) (⟨rfl, by first | rfl | (rw [hi]; rfl)⟩)
  · refine m_topr ?_
    obtain ⟨ho_, he_⟩ := ix_of hi (by have := hha.2.2; omega)
    have hO_ := hO1 jhi ho_
    refine lv_astore_n (lv' := [(2, .ref (adr (22 + 6 * jhi))), (0, .ref (adr 0)), (1, .int x)]) hx hb dX7_orderAt_5 rfl hl (by decide) rfl (fun ls hl => ?_)
    refine lv_aload_n hx hb dX7_orderAt_6 rfl (lv_at hl 0 rfl) ?_
    refine lv_ifnonnull (tgt := 18) hx hb dX7_orderAt_7 (by decide) ?_
    refine lv_aload_n hx hb dX7_orderAt_18 rfl (lv_at hl 0 rfl) ?_
    refine m_getN (host := RX7) (ci := 3) (C := RX3) (T := TX3) (n := 7) (v := .int (st jhi)) hx hb hts inX3_ hown hK rfl (hM.cel (by have := ho_; omega) hO_) 3 (by decide) 24 rfl rfl dX7_orderAt_19 ?_
    exact ex_i hx hb hlocks hr dX7_orderAt_22 (Nat.le_of_ble_eq_true rfl) (Nat.le_of_ble_eq_true rfl) hM hS (⟨jhi, ho_, he_, rfl, rfl⟩)
set_option maxHeartbeats 4000000 in
set_option maxRecDepth 100000 in
/-- X7_ruling -/
theorem k_X7_ruling (l : Launch) (D : va_G) (ac : Nat → ClassId) (H : Heap) (hlt : l.stackTraces = false) (A : Nat → Prop) (N : Nat) (adr : Nat → Nat) (w : Nat → va_E) (hM : MW D A N adr w H) (dl : Nat) (dw : Nat → Nat) (fs : Nat → Int32) (fr : Nat → Int32) (ft : Nat → Nat) (ns : Nat) (so : Nat → Nat) (hv : Nat → Int64) (nd : Nat) (du : Nat → Nat) (T : Nat → Int32) (nr : Nat) (rq : Nat → Nat) (nq : Nat) (oq : Nat → Nat) (pd : Nat → Int32) (er : Nat → Int32) (no : Nat) (oc : Nat → Nat) (on_ : Nat → Nat) (owd : Nat → Nat → Nat) (obf : Nat → Nat → Int32) (rb : Nat → Int32) (st : Nat → Int32) (mt : Nat → Int32) (co : Nat → Int32) (py : Nat → Int32) (hd : Nat → Option Nat) (le : Int32) (pr : Int32) (ra : Int32) (hR : HR ac adr w dl dw fs fr ft ns so hv nd du T nr rq nq oq pd er no oc on_ owd obf rb st mt co py hd le pr ra) (hN : 22 + 6 * no ≤ N) (x y : Int32) : WXi l yX7_ruling wsX7_ruling ({ frames := 8, cells := 2, slots := 12, locals := 130 }) [.ref (adr 0), .int x, .int y] D ac H A N adr w (fun r w1 => ∃ k j, k < 4 ∧ j < 50 ∧ x = nI k ∧ y = nI j ∧ r = fr (k * 50 + j) ∧ w1 = w) (XC1 xIA (cd1 ((ix x 4).isNone || (ix y 50).isNone))) 2 12 := by
  refine vx_ofW (cc := cX7_ruling) (maxL := 3) (ret := (some .int)) (by decide) rfl ?_
  intro p e s m args below meth c s₁ B hml hout hv
  obtain ⟨hargs, hsz, hK, hX⟩ := hv
  have hx := B.exec
  have hb := B.bytes
  have hr := B.returns
  have hts := atoms_spec (ws := wsX7_ruling) B.pre
  have hown : s.vm.findClass RX7 = some m.cls := findClass_of_methodNamed B.named
  have hlocks := B.notSynchronized
  subst hsz
  have inX7_ : ∀ w ∈ wsX70, w ∈ wsX7_ruling := by decide +kernel
  have hS : va_S A s.heap s.heap [] := va_S.rf
  have hl := lv_entry ([.ref (adr 0), .int x, .int y]) (n := 3) (Nat.le_of_ble_eq_true rfl)
  have hen := lg_entry_eq m [.ref (adr 0), .int x, .int y] 3
  rw [← hargs] at hen
  rw [hen]
  generalize (lg_sl ([.ref (adr 0), .int x, .int y]) ++ List.replicate (3 - (lg_sl ([.ref (adr 0), .int x, .int y])).length) Slot.unset).toArray = ls at hl ⊢
  have hl : lv_has ls 3 [(0, .ref (adr 0)), (1, .int x), (2, .int y)] := hl
  obtain ⟨h0, hdr, hru, hm, hS1, hO1, hde, hha, hmo, hin_⟩ := id hR
  refine lv_iload_n hx hb dX7_ruling_0 rfl (lv_at hl 1 rfl) ?_
  refine lv_iload_n hx hb dX7_ruling_1 rfl (lv_at hl 2 rfl) ?_
  refine x_callv hlocks hout (vx_runS (As := [.int x, .int y]) (rest := []) ⟨hx, hb, hml, hown, hts⟩ (k_X7_refuseUnlessClientAndWord l D ac _ hlt A N adr w hM x y) (va_cwS 2 hts gX7_ruling_X7_refuseUnlessClientAndWord rfl rfl rfl (by decide +kernel) ⟨(Nat.le_of_ble_eq_true rfl), (Nat.le_of_ble_eq_true rfl)⟩) (pSX hK (hX.at hS)) rfl rfl hl.1 rfl (lv_room (Nat.le_of_ble_eq_true rfl)) dX7_ruling_2 ⟨(Nat.le_of_ble_eq_true rfl), (Nat.le_of_ble_eq_true rfl)⟩) hS (fun E h => ⟨h.1, by rw [h.2]; rfl⟩) (Nat.le_of_ble_eq_true rfl) (Nat.le_of_ble_eq_true rfl) (fun w_2 H locs hw_2 hM hS => ?_)
  obtain ⟨⟨k9, hk_k9, ex_k9⟩, ⟨j9, hk_j9, ex_j9⟩, e9_⟩ := hw_2
  obtain rfl := e9_.symm
  subst ex_k9
  subst ex_j9
  refine lv_aload_n hx hb dX7_ruling_5 rfl (lv_at hl 0 rfl) ?_
  refine m_get (ci := 7) (C := RX7) (T := TX7) (n := 13) (v := .ref (adr 3)) hx hb hts inX7_ hown hK rfl (hM.cel (by omega) h0) 1 (by decide) (hts _ (by decide +kernel)) rfl dX7_ruling_6 ?_
  refine lv_iload_n hx hb dX7_ruling_9 rfl (lv_at hl 1 rfl) ?_
  refine lv_iload_n hx hb dX7_ruling_10 rfl (lv_at hl 2 rfl) ?_
  refine r_calli (va_runV (As := [.int (nI k9), .int (nI j9)]) (rest := []) ⟨hx, hb, hml, hown, hts⟩ (k_X5_rulingOf l D ac _ (adr 3) (adr 4) (adr 5) (adr 6) fs fr (fun j => nI (ft j)) ⟨(hM.cel (by omega) hru.1), (hM.cel (by omega) hru.2.1), (hM.cel (by omega) hru.2.2.1), (hM.cel (by omega) hru.2.2.2)⟩ k9 j9 (by omega) (by omega)) (cwV 2 hts gX7_ruling_X5_rulingOf rfl rfl rfl (by decide +kernel) ⟨Nat.le_of_ble_eq_true rfl, Nat.le_of_ble_eq_true rfl⟩) (pV hK (ci := 5) rfl (hM.cel (by omega) hru.1)) rfl rfl hl.1 rfl (lv_room (Nat.le_of_ble_eq_true rfl)) dX7_ruling_11 ⟨Nat.le_of_ble_eq_true rfl, Nat.le_of_ble_eq_true rfl⟩) hS (fun rv_3 locs hrv_3 hS => ?_)
  subst hrv_3
  exact ex_i hx hb hlocks hr dX7_ruling_14 (Nat.le_of_ble_eq_true rfl) (Nat.le_of_ble_eq_true rfl) hM hS (⟨k9, j9, hk_k9, hk_j9, rfl, rfl, rfl, rfl⟩)
set_option maxHeartbeats 4000000 in
set_option maxRecDepth 100000 in
/-- X7_sold -/
theorem k_X7_sold (l : Launch) (D : va_G) (ac : Nat → ClassId) (H : Heap) (A : Nat → Prop) (N : Nat) (adr : Nat → Nat) (w : Nat → va_E) (hM : MW D A N adr w H) (dl : Nat) (dw : Nat → Nat) (fs : Nat → Int32) (fr : Nat → Int32) (ft : Nat → Nat) (ns : Nat) (so : Nat → Nat) (hv : Nat → Int64) (nd : Nat) (du : Nat → Nat) (T : Nat → Int32) (nr : Nat) (rq : Nat → Nat) (nq : Nat) (oq : Nat → Nat) (pd : Nat → Int32) (er : Nat → Int32) (no : Nat) (oc : Nat → Nat) (on_ : Nat → Nat) (owd : Nat → Nat → Nat) (obf : Nat → Nat → Int32) (rb : Nat → Int32) (st : Nat → Int32) (mt : Nat → Int32) (co : Nat → Int32) (py : Nat → Int32) (hd : Nat → Option Nat) (le : Int32) (pr : Int32) (ra : Int32) (hR : HR ac adr w dl dw fs fr ft ns so hv nd du T nr rq nq oq pd er no oc on_ owd obf rb st mt co py hd le pr ra) (hN : 22 + 6 * no ≤ N)  : WRi l yX7_sold wsX7_sold ({ frames := 0, cells := 0, slots := 0, locals := 0 }) [.ref (adr 0)] D ac H A N adr (fun r w1 => r = nI ns ∧ w1 = w) := by
  refine Met.ofW (cc := cX7_sold) (maxL := 1) (ret := (some .int)) (by decide) rfl ?_
  intro p e s m args below meth c s₁ B hml hv
  obtain ⟨hargs, hsz, hK⟩ := hv
  have hx := B.exec
  have hb := B.bytes
  have hr := B.returns
  have hts := atoms_spec (ws := wsX7_sold) B.pre
  have hown : s.vm.findClass RX7 = some m.cls := findClass_of_methodNamed B.named
  have hlocks := B.notSynchronized
  subst hsz
  have inX2_ : ∀ w ∈ wsX20, w ∈ wsX7_sold := by decide +kernel
  have inX7_ : ∀ w ∈ wsX70, w ∈ wsX7_sold := by decide +kernel
  have hS : va_S A s.heap s.heap [] := va_S.rf
  have hl := lv_entry ([.ref (adr 0)]) (n := 1) (Nat.le_of_ble_eq_true rfl)
  have hen := lg_entry_eq m [.ref (adr 0)] 1
  rw [← hargs] at hen
  rw [hen]
  generalize (lg_sl ([.ref (adr 0)]) ++ List.replicate (1 - (lg_sl ([.ref (adr 0)])).length) Slot.unset).toArray = ls at hl ⊢
  have hl : lv_has ls 1 [(0, .ref (adr 0))] := hl
  obtain ⟨h0, hdr, hru, hm, hS1, hO1, hde, hha, hmo, hin_⟩ := id hR
  refine lv_aload_n hx hb dX7_sold_0 rfl (lv_at hl 0 rfl) ?_
  refine m_get (ci := 7) (C := RX7) (T := TX7) (n := 13) (v := .ref (adr 7)) hx hb hts inX7_ hown hK rfl (hM.cel (by omega) h0) 2 (by decide) (hts _ (by decide +kernel)) rfl dX7_sold_1 ?_
  refine m_getN (host := RX7) (ci := 2) (C := RX2) (T := TX2) (n := 5) (v := .int (nI ns)) hx hb hts inX2_ hown hK rfl (hM.cel (by omega) hm.1) 4 (by decide) 12 rfl rfl dX7_sold_4 ?_
  exact e_wi hx hb hlocks hr dX7_sold_7 hM hS (⟨rfl, rfl⟩)
set_option maxHeartbeats 4000000 in
set_option maxRecDepth 100000 in
/-- X7_clientOf -/
theorem k_X7_clientOf (l : Launch) (D : va_G) (ac : Nat → ClassId) (H : Heap) (hlt : l.stackTraces = false) (A : Nat → Prop) (N : Nat) (adr : Nat → Nat) (w : Nat → va_E) (hM : MW D A N adr w H) (dl : Nat) (dw : Nat → Nat) (fs : Nat → Int32) (fr : Nat → Int32) (ft : Nat → Nat) (ns : Nat) (so : Nat → Nat) (hv : Nat → Int64) (nd : Nat) (du : Nat → Nat) (T : Nat → Int32) (nr : Nat) (rq : Nat → Nat) (nq : Nat) (oq : Nat → Nat) (pd : Nat → Int32) (er : Nat → Int32) (no : Nat) (oc : Nat → Nat) (on_ : Nat → Nat) (owd : Nat → Nat → Nat) (obf : Nat → Nat → Int32) (rb : Nat → Int32) (st : Nat → Int32) (mt : Nat → Int32) (co : Nat → Int32) (py : Nat → Int32) (hd : Nat → Option Nat) (le : Int32) (pr : Int32) (ra : Int32) (hR : HR ac adr w dl dw fs fr ft ns so hv nd du T nr rq nq oq pd er no oc on_ owd obf rb st mt co py hd le pr ra) (hN : 22 + 6 * no ≤ N) (x : Int32) : WXi l yX7_clientOf wsX7_clientOf ({ frames := 7, cells := 1, slots := 6, locals := 111 }) [.ref (adr 0), .int x] D ac H A N adr w (fun r w1 => ∃ i, i < ns ∧ x = nI i ∧ r = nI (oc (so i)) ∧ w1 = w) (XC1 xIO (cd1 (ix x ns).isNone)) 1 6 := by
  refine vx_ofW (cc := cX7_clientOf) (maxL := 2) (ret := (some .int)) (by decide) rfl ?_
  intro p e s m args below meth c s₁ B hml hout hv
  obtain ⟨hargs, hsz, hK, hX⟩ := hv
  have hx := B.exec
  have hb := B.bytes
  have hr := B.returns
  have hts := atoms_spec (ws := wsX7_clientOf) B.pre
  have hown : s.vm.findClass RX7 = some m.cls := findClass_of_methodNamed B.named
  have hlocks := B.notSynchronized
  subst hsz
  have inX6_ : ∀ w ∈ wsX60, w ∈ wsX7_clientOf := by decide +kernel
  have hS : va_S A s.heap s.heap [] := va_S.rf
  have hl := lv_entry ([.ref (adr 0), .int x]) (n := 2) (Nat.le_of_ble_eq_true rfl)
  have hen := lg_entry_eq m [.ref (adr 0), .int x] 2
  rw [← hargs] at hen
  rw [hen]
  generalize (lg_sl ([.ref (adr 0), .int x]) ++ List.replicate (2 - (lg_sl ([.ref (adr 0), .int x])).length) Slot.unset).toArray = ls at hl ⊢
  have hl : lv_has ls 2 [(0, .ref (adr 0)), (1, .int x)] := hl
  obtain ⟨h0, hdr, hru, hm, hS1, hO1, hde, hha, hmo, hin_⟩ := id hR
  refine lv_aload_n hx hb dX7_clientOf_0 rfl (lv_at hl 0 rfl) ?_
  refine lv_iload_n hx hb dX7_clientOf_1 rfl (lv_at hl 1 rfl) ?_
  refine x_callq hlocks hout (vx_runV (As := [.int x]) (rest := []) ⟨hx, hb, hml, hown, hts⟩ (k_X7_soldSentence l D ac _ hlt A N adr w hM dl dw fs fr ft ns so hv nd du T nr rq nq oq pd er no oc on_ owd obf rb st mt co py hd le pr ra hR hN x) (cwV 1 hts gX7_clientOf_X7_soldSentence rfl rfl rfl (by decide +kernel) ⟨(Nat.le_of_ble_eq_true rfl), (Nat.le_of_ble_eq_true rfl)⟩) (pVX hK (hX.at hS) (ci := 7) rfl (hM.cel (by omega) h0)) rfl rfl hl.1 rfl (lv_room (Nat.le_of_ble_eq_true rfl)) dX7_clientOf_2 ⟨(Nat.le_of_ble_eq_true rfl), (Nat.le_of_ble_eq_true rfl)⟩) hS (fun E h => ⟨h.1, by unfold cd1; rw [h.2]; rfl⟩) (Nat.le_of_ble_eq_true rfl) (Nat.le_of_ble_eq_true rfl) (fun rv_1 w_2 H locs hw_2 hM hS => ?_)
  obtain ⟨i9, hi9_, ex_i9, rfl, e9_⟩ := hw_2
  obtain rfl := e9_.symm
  have ho_ : so i9 < no := (hin_.1 i9 hi9_).1
  have hsn_ := hS1 (so i9) ho_
  obtain ⟨hn0_, hn8_, hcl_, hwd_⟩ := hsn_.2.2.2.2.2
  refine m_topr ?_
  refine m_getN (host := RX7) (ci := 6) (C := RX6) (T := TX6) (n := 3) (v := .int (nI (oc (so i9)))) hx hb hts inX6_ hown hK rfl (hM.cel (by have := ho_; omega) hsn_.1) 0 (by decide) 16 rfl rfl dX7_clientOf_5 ?_
  exact ex_i hx hb hlocks hr dX7_clientOf_8 (Nat.le_of_ble_eq_true rfl) (Nat.le_of_ble_eq_true rfl) hM hS (⟨i9, hi9_, ex_i9, rfl, rfl⟩)
theorem cwo1 {x : Int32} {ns : Nat} {f : Nat → Bool} (h : (ix x ns).isNone = true) : cd1 ((ix x ns).elim true f) = 1 := by
  rcases hq : ix x ns with _ | i
  · rfl
  · rw [hq] at h; exact absurd h Bool.false_ne_true
theorem cwo2 {x : Int32} {ns i : Nat} {f : Nat → Bool} (hi : i < ns) (hn : ns < 2 ^ 31) (hx : x = nI i) (h : f i = true) : cd1 ((ix x ns).elim true f) = 1 := by
  rw [hx, ix_nI hi hn]
  show cd1 (f i) = 1
  rw [h]
  rfl
set_option maxHeartbeats 4000000 in
set_option maxRecDepth 100000 in
/-- X7_wordOf -/
theorem k_X7_wordOf (l : Launch) (D : va_G) (ac : Nat → ClassId) (H : Heap) (hlt : l.stackTraces = false) (A : Nat → Prop) (N : Nat) (adr : Nat → Nat) (w : Nat → va_E) (hM : MW D A N adr w H) (dl : Nat) (dw : Nat → Nat) (fs : Nat → Int32) (fr : Nat → Int32) (ft : Nat → Nat) (ns : Nat) (so : Nat → Nat) (hv : Nat → Int64) (nd : Nat) (du : Nat → Nat) (T : Nat → Int32) (nr : Nat) (rq : Nat → Nat) (nq : Nat) (oq : Nat → Nat) (pd : Nat → Int32) (er : Nat → Int32) (no : Nat) (oc : Nat → Nat) (on_ : Nat → Nat) (owd : Nat → Nat → Nat) (obf : Nat → Nat → Int32) (rb : Nat → Int32) (st : Nat → Int32) (mt : Nat → Int32) (co : Nat → Int32) (py : Nat → Int32) (hd : Nat → Option Nat) (le : Int32) (pr : Int32) (ra : Int32) (hR : HR ac adr w dl dw fs fr ft ns so hv nd du T nr rq nq oq pd er no oc on_ owd obf rb st mt co py hd le pr ra) (hN : 22 + 6 * no ≤ N) (x y : Int32) : WXi l yX7_wordOf wsX7_wordOf ({ frames := 7, cells := 2, slots := 12, locals := 111 }) [.ref (adr 0), .int x, .int y] D ac H A N adr w (fun r w1 => ∃ i k, i < ns ∧ x = nI i ∧ k < on_ (so i) ∧ y = nI k ∧ r = nI (owd (so i) k) ∧ w1 = w) (XC1 xIO (cd1 ((ix x ns).elim true (fun i => (ix y (on_ (so i))).isNone)))) 2 12 := by
  refine vx_ofW (cc := cX7_wordOf) (maxL := 4) (ret := (some .int)) (by decide) rfl ?_
  intro p e s m args below meth c s₁ B hml hout hv
  obtain ⟨hargs, hsz, hK, hX⟩ := hv
  have hx := B.exec
  have hb := B.bytes
  have hr := B.returns
  have hts := atoms_spec (ws := wsX7_wordOf) B.pre
  have hown : s.vm.findClass RX7 = some m.cls := findClass_of_methodNamed B.named
  have hlocks := B.notSynchronized
  subst hsz
  have inX6_ : ∀ w ∈ wsX60, w ∈ wsX7_wordOf := by decide +kernel
  have hS : va_S A s.heap s.heap [] := va_S.rf
  have hl := lv_entry ([.ref (adr 0), .int x, .int y]) (n := 4) (Nat.le_of_ble_eq_true rfl)
  have hen := lg_entry_eq m [.ref (adr 0), .int x, .int y] 4
  rw [← hargs] at hen
  rw [hen]
  generalize (lg_sl ([.ref (adr 0), .int x, .int y]) ++ List.replicate (4 - (lg_sl ([.ref (adr 0), .int x, .int y])).length) Slot.unset).toArray = ls at hl ⊢
  have hl : lv_has ls 4 [(0, .ref (adr 0)), (1, .int x), (2, .int y)] := hl
  obtain ⟨h0, hdr, hru, hm, hS1, hO1, hde, hha, hmo, hin_⟩ := id hR
  refine lv_aload_n hx hb dX7_wordOf_0 rfl (lv_at hl 0 rfl) ?_
  refine lv_iload_n hx hb dX7_wordOf_1 rfl (lv_at hl 1 rfl) ?_
  refine x_callq hlocks hout (vx_runV (As := [.int x]) (rest := []) ⟨hx, hb, hml, hown, hts⟩ (k_X7_soldSentence l D ac _ hlt A N adr w hM dl dw fs fr ft ns so hv nd du T nr rq nq oq pd er no oc on_ owd obf rb st mt co py hd le pr ra hR hN x) (cwV 1 hts gX7_wordOf_X7_soldSentence rfl rfl rfl (by decide +kernel) ⟨(Nat.le_of_ble_eq_true rfl), (Nat.le_of_ble_eq_true rfl)⟩) (pVX hK (hX.at hS) (ci := 7) rfl (hM.cel (by omega) h0)) rfl rfl hl.1 rfl (lv_room (Nat.le_of_ble_eq_true rfl)) dX7_wordOf_2 ⟨(Nat.le_of_ble_eq_true rfl), (Nat.le_of_ble_eq_true rfl)⟩) hS (fun E h => ⟨h.1, cwo1 h.2⟩) (Nat.le_of_ble_eq_true rfl) (Nat.le_of_ble_eq_true rfl) (fun rv_1 w_2 H locs hw_2 hM hS => ?_)
  obtain ⟨i9, hi9_, ex_i9, rfl, e9_⟩ := hw_2
  obtain rfl := e9_.symm
  have ho_ : so i9 < no := (hin_.1 i9 hi9_).1
  have hsn_ := hS1 (so i9) ho_
  obtain ⟨hn0_, hn8_, hcl_, hwd_⟩ := hsn_.2.2.2.2.2
  refine m_topr ?_
  refine lv_astore_n (lv' := [(3, .ref (adr (23 + 6 * so i9))), (0, .ref (adr 0)), (1, .int x), (2, .int y)]) hx hb dX7_wordOf_5 rfl hl (by decide) rfl (fun ls hl => ?_)
  refine lv_aload_n hx hb dX7_wordOf_6 rfl (lv_at hl 0 rfl) ?_
  refine lv_iload_n hx hb dX7_wordOf_7 rfl (lv_at hl 3 rfl) ?_
  refine x_callv hlocks hout (vx_runS (As := [.ref (adr (23 + 6 * so i9)), .int y]) (rest := []) ⟨hx, hb, hml, hown, hts⟩ (k_X7_refuseUnlessPlace l D ac _ hlt A N adr w hM (23 + 6 * so i9) (oc (so i9)) (on_ (so i9)) (owd (so i9)) (obf (so i9)) (by omega) hsn_ y) (va_cwS 2 hts gX7_wordOf_X7_refuseUnlessPlace rfl rfl rfl (by decide +kernel) ⟨(Nat.le_of_ble_eq_true rfl), (Nat.le_of_ble_eq_true rfl)⟩) (pSX hK (hX.at hS)) rfl rfl hl.1 rfl (lv_room (Nat.le_of_ble_eq_true rfl)) dX7_wordOf_8 ⟨(Nat.le_of_ble_eq_true rfl), (Nat.le_of_ble_eq_true rfl)⟩) hS (fun E h => ⟨h.1, cwo2 hi9_ (by have := hm.2.2.2.2.2.2.2.1; omega) ex_i9 h.2⟩) (Nat.le_of_ble_eq_true rfl) (Nat.le_of_ble_eq_true rfl) (fun w_4 H locs hw_4 hM hS => ?_)
  obtain ⟨⟨p9, hk_p9, ex_p9⟩, e9_⟩ := hw_4
  obtain rfl := e9_.symm
  refine lv_aload_n hx hb dX7_wordOf_11 rfl (lv_at hl 0 rfl) ?_
  refine m_getN (host := RX7) (ci := 6) (C := RX6) (T := TX6) (n := 3) (v := .ref (adr (23 + 6 * so i9 + 1))) hx hb hts inX6_ hown hK rfl (hM.cel (by have := ho_; omega) hsn_.1) 1 (by decide) 18 rfl rfl dX7_wordOf_12 ?_
  refine lv_iload_n hx hb dX7_wordOf_15 rfl (lv_at hl 3 rfl) ?_
  refine r_calli (va_runV (As := [.int y]) (rest := []) ⟨hx, hb, hml, hown, hts⟩ (k_X4_at l D ac _ (adr (23 + 6 * so i9 + 1)) (adr (23 + 6 * so i9 + 2)) (on_ (so i9)) (fun j => nI (owd (so i9) j)) (hM.cel (by have := ho_; omega) hsn_.2.1) (hM.cel (by have := ho_; omega) hsn_.2.2.1) (by omega) y) (cwV 1 hts gX7_wordOf_X4_at rfl rfl rfl (by decide +kernel) ⟨Nat.le_of_ble_eq_true rfl, Nat.le_of_ble_eq_true rfl⟩) (pV hK (ci := 4) rfl (hM.cel (by have := ho_; omega) hsn_.2.1)) rfl rfl hl.1 rfl (lv_room (Nat.le_of_ble_eq_true rfl)) dX7_wordOf_16 ⟨Nat.le_of_ble_eq_true rfl, Nat.le_of_ble_eq_true rfl⟩) hS (fun rv_5 locs hrv_5 hS => ?_)
  subst hrv_5
  refine m_top (show ((ix y (on_ (so i9))).elim (-1) (fun j => nI (owd (so i9) j))) = nI (owd (so i9) p9) from by rw [ex_p9, ix_nI hk_p9 (by omega)]; rfl) ?_
  exact ex_i hx hb hlocks hr dX7_wordOf_19 (Nat.le_of_ble_eq_true rfl) (Nat.le_of_ble_eq_true rfl) hM hS (⟨i9, p9, hi9_, ex_i9, hk_p9, ex_p9, rfl, rfl⟩)
set_option maxHeartbeats 4000000 in
set_option maxRecDepth 100000 in
/-- X7_becameOf -/
theorem k_X7_becameOf (l : Launch) (D : va_G) (ac : Nat → ClassId) (H : Heap) (hlt : l.stackTraces = false) (A : Nat → Prop) (N : Nat) (adr : Nat → Nat) (w : Nat → va_E) (hM : MW D A N adr w H) (dl : Nat) (dw : Nat → Nat) (fs : Nat → Int32) (fr : Nat → Int32) (ft : Nat → Nat) (ns : Nat) (so : Nat → Nat) (hv : Nat → Int64) (nd : Nat) (du : Nat → Nat) (T : Nat → Int32) (nr : Nat) (rq : Nat → Nat) (nq : Nat) (oq : Nat → Nat) (pd : Nat → Int32) (er : Nat → Int32) (no : Nat) (oc : Nat → Nat) (on_ : Nat → Nat) (owd : Nat → Nat → Nat) (obf : Nat → Nat → Int32) (rb : Nat → Int32) (st : Nat → Int32) (mt : Nat → Int32) (co : Nat → Int32) (py : Nat → Int32) (hd : Nat → Option Nat) (le : Int32) (pr : Int32) (ra : Int32) (hR : HR ac adr w dl dw fs fr ft ns so hv nd du T nr rq nq oq pd er no oc on_ owd obf rb st mt co py hd le pr ra) (hN : 22 + 6 * no ≤ N) (x y : Int32) : WXi l yX7_becameOf wsX7_becameOf ({ frames := 7, cells := 2, slots := 12, locals := 111 }) [.ref (adr 0), .int x, .int y] D ac H A N adr w (fun r w1 => ∃ i k, i < ns ∧ x = nI i ∧ k < on_ (so i) ∧ y = nI k ∧ r = obf (so i) k ∧ w1 = w) (XC1 xIO (cd1 ((ix x ns).elim true (fun i => (ix y (on_ (so i))).isNone)))) 2 12 := by
  refine vx_ofW (cc := cX7_becameOf) (maxL := 4) (ret := (some .int)) (by decide) rfl ?_
  intro p e s m args below meth c s₁ B hml hout hv
  obtain ⟨hargs, hsz, hK, hX⟩ := hv
  have hx := B.exec
  have hb := B.bytes
  have hr := B.returns
  have hts := atoms_spec (ws := wsX7_becameOf) B.pre
  have hown : s.vm.findClass RX7 = some m.cls := findClass_of_methodNamed B.named
  have hlocks := B.notSynchronized
  subst hsz
  have inX6_ : ∀ w ∈ wsX60, w ∈ wsX7_becameOf := by decide +kernel
  have hS : va_S A s.heap s.heap [] := va_S.rf
  have hl := lv_entry ([.ref (adr 0), .int x, .int y]) (n := 4) (Nat.le_of_ble_eq_true rfl)
  have hen := lg_entry_eq m [.ref (adr 0), .int x, .int y] 4
  rw [← hargs] at hen
  rw [hen]
  generalize (lg_sl ([.ref (adr 0), .int x, .int y]) ++ List.replicate (4 - (lg_sl ([.ref (adr 0), .int x, .int y])).length) Slot.unset).toArray = ls at hl ⊢
  have hl : lv_has ls 4 [(0, .ref (adr 0)), (1, .int x), (2, .int y)] := hl
  obtain ⟨h0, hdr, hru, hm, hS1, hO1, hde, hha, hmo, hin_⟩ := id hR
  refine lv_aload_n hx hb dX7_becameOf_0 rfl (lv_at hl 0 rfl) ?_
  refine lv_iload_n hx hb dX7_becameOf_1 rfl (lv_at hl 1 rfl) ?_
  refine x_callq hlocks hout (vx_runV (As := [.int x]) (rest := []) ⟨hx, hb, hml, hown, hts⟩ (k_X7_soldSentence l D ac _ hlt A N adr w hM dl dw fs fr ft ns so hv nd du T nr rq nq oq pd er no oc on_ owd obf rb st mt co py hd le pr ra hR hN x) (cwV 1 hts gX7_becameOf_X7_soldSentence rfl rfl rfl (by decide +kernel) ⟨(Nat.le_of_ble_eq_true rfl), (Nat.le_of_ble_eq_true rfl)⟩) (pVX hK (hX.at hS) (ci := 7) rfl (hM.cel (by omega) h0)) rfl rfl hl.1 rfl (lv_room (Nat.le_of_ble_eq_true rfl)) dX7_becameOf_2 ⟨(Nat.le_of_ble_eq_true rfl), (Nat.le_of_ble_eq_true rfl)⟩) hS (fun E h => ⟨h.1, cwo1 h.2⟩) (Nat.le_of_ble_eq_true rfl) (Nat.le_of_ble_eq_true rfl) (fun rv_1 w_2 H locs hw_2 hM hS => ?_)
  obtain ⟨i9, hi9_, ex_i9, rfl, e9_⟩ := hw_2
  obtain rfl := e9_.symm
  have ho_ : so i9 < no := (hin_.1 i9 hi9_).1
  have hsn_ := hS1 (so i9) ho_
  obtain ⟨hn0_, hn8_, hcl_, hwd_⟩ := hsn_.2.2.2.2.2
  refine m_topr ?_
  refine lv_astore_n (lv' := [(3, .ref (adr (23 + 6 * so i9))), (0, .ref (adr 0)), (1, .int x), (2, .int y)]) hx hb dX7_becameOf_5 rfl hl (by decide) rfl (fun ls hl => ?_)
  refine lv_aload_n hx hb dX7_becameOf_6 rfl (lv_at hl 0 rfl) ?_
  refine lv_iload_n hx hb dX7_becameOf_7 rfl (lv_at hl 3 rfl) ?_
  refine x_callv hlocks hout (vx_runS (As := [.ref (adr (23 + 6 * so i9)), .int y]) (rest := []) ⟨hx, hb, hml, hown, hts⟩ (k_X7_refuseUnlessPlace l D ac _ hlt A N adr w hM (23 + 6 * so i9) (oc (so i9)) (on_ (so i9)) (owd (so i9)) (obf (so i9)) (by omega) hsn_ y) (va_cwS 2 hts gX7_becameOf_X7_refuseUnlessPlace rfl rfl rfl (by decide +kernel) ⟨(Nat.le_of_ble_eq_true rfl), (Nat.le_of_ble_eq_true rfl)⟩) (pSX hK (hX.at hS)) rfl rfl hl.1 rfl (lv_room (Nat.le_of_ble_eq_true rfl)) dX7_becameOf_8 ⟨(Nat.le_of_ble_eq_true rfl), (Nat.le_of_ble_eq_true rfl)⟩) hS (fun E h => ⟨h.1, cwo2 hi9_ (by have := hm.2.2.2.2.2.2.2.1; omega) ex_i9 h.2⟩) (Nat.le_of_ble_eq_true rfl) (Nat.le_of_ble_eq_true rfl) (fun w_4 H locs hw_4 hM hS => ?_)
  obtain ⟨⟨p9, hk_p9, ex_p9⟩, e9_⟩ := hw_4
  obtain rfl := e9_.symm
  refine lv_aload_n hx hb dX7_becameOf_11 rfl (lv_at hl 0 rfl) ?_
  refine m_getN (host := RX7) (ci := 6) (C := RX6) (T := TX6) (n := 3) (v := .ref (adr (23 + 6 * so i9 + 3))) hx hb hts inX6_ hown hK rfl (hM.cel (by have := ho_; omega) hsn_.1) 2 (by decide) 20 rfl rfl dX7_becameOf_12 ?_
  refine lv_iload_n hx hb dX7_becameOf_15 rfl (lv_at hl 3 rfl) ?_
  refine r_calli (va_runV (As := [.int y]) (rest := []) ⟨hx, hb, hml, hown, hts⟩ (k_X4_at l D ac _ (adr (23 + 6 * so i9 + 3)) (adr (23 + 6 * so i9 + 4)) (on_ (so i9)) (obf (so i9)) (hM.cel (by have := ho_; omega) hsn_.2.2.2.1) (hM.cel (by have := ho_; omega) hsn_.2.2.2.2.1) (by omega) y) (cwV 1 hts gX7_becameOf_X4_at rfl rfl rfl (by decide +kernel) ⟨Nat.le_of_ble_eq_true rfl, Nat.le_of_ble_eq_true rfl⟩) (pV hK (ci := 4) rfl (hM.cel (by have := ho_; omega) hsn_.2.2.2.1)) rfl rfl hl.1 rfl (lv_room (Nat.le_of_ble_eq_true rfl)) dX7_becameOf_16 ⟨Nat.le_of_ble_eq_true rfl, Nat.le_of_ble_eq_true rfl⟩) hS (fun rv_5 locs hrv_5 hS => ?_)
  subst hrv_5
  refine m_top (show ((ix y (on_ (so i9))).elim (-1) (obf (so i9))) = obf (so i9) p9 from by rw [ex_p9, ix_nI hk_p9 (by omega)]; rfl) ?_
  exact ex_i hx hb hlocks hr dX7_becameOf_19 (Nat.le_of_ble_eq_true rfl) (Nat.le_of_ble_eq_true rfl) hM hS (⟨i9, p9, hi9_, ex_i9, hk_p9, ex_p9, rfl, rfl⟩)
set_option maxHeartbeats 4000000 in
set_option maxRecDepth 100000 in
/-- isDue -/
theorem k_X7_isDue (l : Launch) (D : va_G) (ac : Nat → ClassId) (H : Heap) (hlt : l.stackTraces = false) (A : Nat → Prop) (N : Nat) (adr : Nat → Nat) (w : Nat → va_E) (hM : MW D A N adr w H) (dl : Nat) (dw : Nat → Nat) (fs : Nat → Int32) (fr : Nat → Int32) (ft : Nat → Nat) (ns : Nat) (so : Nat → Nat) (hv : Nat → Int64) (nd : Nat) (du : Nat → Nat) (T : Nat → Int32) (nr : Nat) (rq : Nat → Nat) (nq : Nat) (oq : Nat → Nat) (pd : Nat → Int32) (er : Nat → Int32) (no : Nat) (oc : Nat → Nat) (on_ : Nat → Nat) (owd : Nat → Nat → Nat) (obf : Nat → Nat → Int32) (rb : Nat → Int32) (st : Nat → Int32) (mt : Nat → Int32) (co : Nat → Int32) (py : Nat → Int32) (hd : Nat → Option Nat) (le : Int32) (pr : Int32) (ra : Int32) (hR : HR ac adr w dl dw fs fr ft ns so hv nd du T nr rq nq oq pd er no oc on_ owd obf rb st mt co py hd le pr ra) (hN : 22 + 6 * no ≤ N) (x : Int32) : WXi l yX7_isDue wsX7_isDue ({ frames := 7, cells := 1, slots := 6, locals := 111 }) [.ref (adr 0), .int x] D ac H A N adr w (fun r w1 => ∃ i, i < ns ∧ x = nI i ∧ r = (if asB fr (oc (so i)) (on_ (so i)) (owd (so i)) (obf (so i)) = true then 1 else 0) ∧ w1 = w) (XC1 xIO (cd1 (ix x ns).isNone)) 1 6 := by
  refine vx_ofW (cc := cX7_isDue) (maxL := 2) (ret := (some .boolean)) (by decide) rfl ?_
  intro p e s m args below meth c s₁ B hml hout hv
  obtain ⟨hargs, hsz, hK, hX⟩ := hv
  have hx := B.exec
  have hb := B.bytes
  have hr := B.returns
  have hts := atoms_spec (ws := wsX7_isDue) B.pre
  have hown : s.vm.findClass RX7 = some m.cls := findClass_of_methodNamed B.named
  have hlocks := B.notSynchronized
  subst hsz
  have inX7_ : ∀ w ∈ wsX70, w ∈ wsX7_isDue := by decide +kernel
  have hS : va_S A s.heap s.heap [] := va_S.rf
  have hl := lv_entry ([.ref (adr 0), .int x]) (n := 2) (Nat.le_of_ble_eq_true rfl)
  have hen := lg_entry_eq m [.ref (adr 0), .int x] 2
  rw [← hargs] at hen
  rw [hen]
  generalize (lg_sl ([.ref (adr 0), .int x]) ++ List.replicate (2 - (lg_sl ([.ref (adr 0), .int x])).length) Slot.unset).toArray = ls at hl ⊢
  have hl : lv_has ls 2 [(0, .ref (adr 0)), (1, .int x)] := hl
  obtain ⟨h0, hdr, hru, hm, hS1, hO1, hde, hha, hmo, hin_⟩ := id hR
  refine lv_aload_n hx hb dX7_isDue_0 rfl (lv_at hl 0 rfl) ?_
  refine lv_iload_n hx hb dX7_isDue_1 rfl (lv_at hl 1 rfl) ?_
  refine x_callq hlocks hout (vx_runV (As := [.int x]) (rest := []) ⟨hx, hb, hml, hown, hts⟩ (k_X7_soldSentence l D ac _ hlt A N adr w hM dl dw fs fr ft ns so hv nd du T nr rq nq oq pd er no oc on_ owd obf rb st mt co py hd le pr ra hR hN x) (cwV 1 hts gX7_isDue_X7_soldSentence rfl rfl rfl (by decide +kernel) ⟨(Nat.le_of_ble_eq_true rfl), (Nat.le_of_ble_eq_true rfl)⟩) (pVX hK (hX.at hS) (ci := 7) rfl (hM.cel (by omega) h0)) rfl rfl hl.1 rfl (lv_room (Nat.le_of_ble_eq_true rfl)) dX7_isDue_2 ⟨(Nat.le_of_ble_eq_true rfl), (Nat.le_of_ble_eq_true rfl)⟩) hS (fun E h => ⟨h.1, by unfold cd1; rw [h.2]; rfl⟩) (Nat.le_of_ble_eq_true rfl) (Nat.le_of_ble_eq_true rfl) (fun rv_1 w_2 H locs hw_2 hM hS => ?_)
  obtain ⟨i9, hi9_, ex_i9, rfl, e9_⟩ := hw_2
  obtain rfl := e9_.symm
  have ho_ : so i9 < no := (hin_.1 i9 hi9_).1
  have hsn_ := hS1 (so i9) ho_
  obtain ⟨hn0_, hn8_, hcl_, hwd_⟩ := hsn_.2.2.2.2.2
  refine m_topr ?_
  refine lv_aload_n hx hb dX7_isDue_5 rfl (lv_at hl 0 rfl) ?_
  refine m_get (ci := 7) (C := RX7) (T := TX7) (n := 13) (v := .ref (adr 3)) hx hb hts inX7_ hown hK rfl (hM.cel (by omega) h0) 1 (by decide) (hts _ (by decide +kernel)) rfl dX7_isDue_6 ?_
  refine r_calli (va_runV (As := [.ref (adr 3)]) (rest := []) ⟨hx, hb, hml, hown, hts⟩ (k_X6_firstAstray l D ac _ (adr (23 + 6 * so i9)) (adr (23 + 6 * so i9 + 1)) (adr (23 + 6 * so i9 + 2)) (adr (23 + 6 * so i9 + 3)) (adr (23 + 6 * so i9 + 4)) ((oc (so i9))) ((on_ (so i9))) (fun j => nI (owd (so i9) j)) (obf (so i9)) (owd (so i9)) ⟨(hM.cel (by have := ho_; omega) hsn_.1), (hM.cel (by have := ho_; omega) hsn_.2.1), (hM.cel (by have := ho_; omega) hsn_.2.2.1), (hM.cel (by have := ho_; omega) hsn_.2.2.2.1), (hM.cel (by have := ho_; omega) hsn_.2.2.2.2.1), ⟨hn8_, hcl_, fun j hj => ⟨rfl, hwd_ j hj⟩⟩⟩ (adr 3) (adr 4) (adr 5) (adr 6) fs fr (fun j => nI (ft j)) ⟨(hM.cel (by omega) hru.1), (hM.cel (by omega) hru.2.1), (hM.cel (by omega) hru.2.2.1), (hM.cel (by omega) hru.2.2.2)⟩) (cwV 1 hts gX7_isDue_X6_firstAstray rfl rfl rfl (by decide +kernel) ⟨Nat.le_of_ble_eq_true rfl, Nat.le_of_ble_eq_true rfl⟩) (pV hK (ci := 6) rfl (hM.cel (by have := ho_; omega) hsn_.1)) rfl rfl hl.1 rfl (lv_room (Nat.le_of_ble_eq_true rfl)) dX7_isDue_9 ⟨Nat.le_of_ble_eq_true rfl, Nat.le_of_ble_eq_true rfl⟩) hS (fun rv_3 locs hrv_3 hS => ?_)
  refine lv_iconst (v := (-1)) hx hb dX7_isDue_12 (by decide) ?_
  refine lv_icmp_eq (tgt := 20) hx hb dX7_isDue_13 (by decide) (fun c13 => ?_) (fun c13 => ?_)
  · refine lv_iconst (v := 0) hx hb dX7_isDue_20 (by decide) ?_
    exact ex_z hx hb hlocks hr dX7_isDue_21 (by decide) (Nat.le_of_ble_eq_true rfl) (Nat.le_of_ble_eq_true rfl) hM hS (⟨i9, hi9_, ex_i9, (if_neg (by rw [asB_f hn8_ hrv_3 c13]; decide)).symm, rfl⟩)
  · refine lv_iconst (v := 1) hx hb dX7_isDue_16 (by decide) ?_
    refine lv_goto (tgt := 21) hx hb dX7_isDue_17 (by decide) ?_
    exact ex_z hx hb hlocks hr dX7_isDue_21 (by decide) (Nat.le_of_ble_eq_true rfl) (Nat.le_of_ble_eq_true rfl) hM hS (⟨i9, hi9_, ex_i9, (if_pos (asB_t hrv_3 c13)).symm, rfl⟩)
set_option maxHeartbeats 4000000 in
set_option maxRecDepth 100000 in
/-- X7_due -/
theorem k_X7_due (l : Launch) (D : va_G) (ac : Nat → ClassId) (H : Heap) (A : Nat → Prop) (N : Nat) (adr : Nat → Nat) (w : Nat → va_E) (hM : MW D A N adr w H) (dl : Nat) (dw : Nat → Nat) (fs : Nat → Int32) (fr : Nat → Int32) (ft : Nat → Nat) (ns : Nat) (so : Nat → Nat) (hv : Nat → Int64) (nd : Nat) (du : Nat → Nat) (T : Nat → Int32) (nr : Nat) (rq : Nat → Nat) (nq : Nat) (oq : Nat → Nat) (pd : Nat → Int32) (er : Nat → Int32) (no : Nat) (oc : Nat → Nat) (on_ : Nat → Nat) (owd : Nat → Nat → Nat) (obf : Nat → Nat → Int32) (rb : Nat → Int32) (st : Nat → Int32) (mt : Nat → Int32) (co : Nat → Int32) (py : Nat → Int32) (hd : Nat → Option Nat) (le : Int32) (pr : Int32) (ra : Int32) (hR : HR ac adr w dl dw fs fr ft ns so hv nd du T nr rq nq oq pd er no oc on_ owd obf rb st mt co py hd le pr ra) (hN : 22 + 6 * no ≤ N)  : WRi l yX7_due wsX7_due ({ frames := 0, cells := 0, slots := 0, locals := 0 }) [.ref (adr 0)] D ac H A N adr (fun r w1 => r = nI nd ∧ w1 = w) := by
  refine Met.ofW (cc := cX7_due) (maxL := 1) (ret := (some .int)) (by decide) rfl ?_
  intro p e s m args below meth c s₁ B hml hv
  obtain ⟨hargs, hsz, hK⟩ := hv
  have hx := B.exec
  have hb := B.bytes
  have hr := B.returns
  have hts := atoms_spec (ws := wsX7_due) B.pre
  have hown : s.vm.findClass RX7 = some m.cls := findClass_of_methodNamed B.named
  have hlocks := B.notSynchronized
  subst hsz
  have inX1_ : ∀ w ∈ wsX10, w ∈ wsX7_due := by decide +kernel
  have inX2_ : ∀ w ∈ wsX20, w ∈ wsX7_due := by decide +kernel
  have inX7_ : ∀ w ∈ wsX70, w ∈ wsX7_due := by decide +kernel
  have hS : va_S A s.heap s.heap [] := va_S.rf
  have hl := lv_entry ([.ref (adr 0)]) (n := 1) (Nat.le_of_ble_eq_true rfl)
  have hen := lg_entry_eq m [.ref (adr 0)] 1
  rw [← hargs] at hen
  rw [hen]
  generalize (lg_sl ([.ref (adr 0)]) ++ List.replicate (1 - (lg_sl ([.ref (adr 0)])).length) Slot.unset).toArray = ls at hl ⊢
  have hl : lv_has ls 1 [(0, .ref (adr 0))] := hl
  obtain ⟨h0, hdr, hru, hm, hS1, hO1, hde, hha, hmo, hin_⟩ := id hR
  refine lv_aload_n hx hb dX7_due_0 rfl (lv_at hl 0 rfl) ?_
  refine m_get (ci := 7) (C := RX7) (T := TX7) (n := 13) (v := .ref (adr 7)) hx hb hts inX7_ hown hK rfl (hM.cel (by omega) h0) 2 (by decide) (hts _ (by decide +kernel)) rfl dX7_due_1 ?_
  refine m_getN (host := RX7) (ci := 2) (C := RX2) (T := TX2) (n := 5) (v := .ref (adr 10)) hx hb hts inX2_ hown hK rfl (hM.cel (by omega) hm.1) 2 (by decide) 10 rfl rfl dX7_due_4 ?_
  refine m_getN (host := RX7) (ci := 1) (C := RX1) (T := TX1) (n := 2) (v := .int (nI nd)) hx hb hts inX1_ hown hK rfl (hM.cel (by omega) hm.2.2.2.1) 1 (by decide) 8 rfl rfl dX7_due_7 ?_
  exact e_wi hx hb hlocks hr dX7_due_10 hM hS (⟨rfl, rfl⟩)
set_option maxHeartbeats 4000000 in
set_option maxRecDepth 100000 in
/-- X7_dueAt -/
theorem k_X7_dueAt (l : Launch) (D : va_G) (ac : Nat → ClassId) (H : Heap) (hlt : l.stackTraces = false) (A : Nat → Prop) (N : Nat) (adr : Nat → Nat) (w : Nat → va_E) (hM : MW D A N adr w H) (dl : Nat) (dw : Nat → Nat) (fs : Nat → Int32) (fr : Nat → Int32) (ft : Nat → Nat) (ns : Nat) (so : Nat → Nat) (hv : Nat → Int64) (nd : Nat) (du : Nat → Nat) (T : Nat → Int32) (nr : Nat) (rq : Nat → Nat) (nq : Nat) (oq : Nat → Nat) (pd : Nat → Int32) (er : Nat → Int32) (no : Nat) (oc : Nat → Nat) (on_ : Nat → Nat) (owd : Nat → Nat → Nat) (obf : Nat → Nat → Int32) (rb : Nat → Int32) (st : Nat → Int32) (mt : Nat → Int32) (co : Nat → Int32) (py : Nat → Int32) (hd : Nat → Option Nat) (le : Int32) (pr : Int32) (ra : Int32) (hR : HR ac adr w dl dw fs fr ft ns so hv nd du T nr rq nq oq pd er no oc on_ owd obf rb st mt co py hd le pr ra) (hN : 22 + 6 * no ≤ N) (x : Int32) : WXi l yX7_dueAt wsX7_dueAt ({ frames := 6, cells := 1, slots := 6, locals := 89 }) [.ref (adr 0), .int x] D ac H A N adr w (fun r w1 => ∃ i, i < nd ∧ x = nI i ∧ r = nI (du i) ∧ w1 = w) (XC1 xIO (cd1 (ix x nd).isNone)) 1 6 := by
  refine vx_ofW (cc := cX7_dueAt) (maxL := 2) (ret := (some .int)) (by decide) rfl ?_
  intro p e s m args below meth c s₁ B hml hout hv
  obtain ⟨hargs, hsz, hK, hX⟩ := hv
  have hx := B.exec
  have hb := B.bytes
  have hr := B.returns
  have hts := atoms_spec (ws := wsX7_dueAt) B.pre
  have hown : s.vm.findClass RX7 = some m.cls := findClass_of_methodNamed B.named
  have hlocks := B.notSynchronized
  subst hsz
  have inX2_ : ∀ w ∈ wsX20, w ∈ wsX7_dueAt := by decide +kernel
  have inX7_ : ∀ w ∈ wsX70, w ∈ wsX7_dueAt := by decide +kernel
  have hgIO_ : ∀ w ∈ (vx_at0 RX7 239 xIO xNames).filter goodWord, w ∈ wsX7_dueAt := by decide +kernel
  have hS : va_S A s.heap s.heap [] := va_S.rf
  have hl := lv_entry ([.ref (adr 0), .int x]) (n := 2) (Nat.le_of_ble_eq_true rfl)
  have hen := lg_entry_eq m [.ref (adr 0), .int x] 2
  rw [← hargs] at hen
  rw [hen]
  generalize (lg_sl ([.ref (adr 0), .int x]) ++ List.replicate (2 - (lg_sl ([.ref (adr 0), .int x])).length) Slot.unset).toArray = ls at hl ⊢
  have hl : lv_has ls 2 [(0, .ref (adr 0)), (1, .int x)] := hl
  obtain ⟨h0, hdr, hru, hm, hS1, hO1, hde, hha, hmo, hin_⟩ := id hR
  have hnd := hm.2.2.2.2.2.2.2.2
  refine lv_aload_n hx hb dX7_dueAt_0 rfl (lv_at hl 0 rfl) ?_
  refine m_get (ci := 7) (C := RX7) (T := TX7) (n := 13) (v := .ref (adr 7)) hx hb hts inX7_ hown hK rfl (hM.cel (by omega) h0) 2 (by decide) (hts _ (by decide +kernel)) rfl dX7_dueAt_1 ?_
  refine m_getN (host := RX7) (ci := 2) (C := RX2) (T := TX2) (n := 5) (v := .ref (adr 10)) hx hb hts inX2_ hown hK rfl (hM.cel (by omega) hm.1) 2 (by decide) 10 rfl rfl dX7_dueAt_4 ?_
  refine lv_iload_n hx hb dX7_dueAt_7 rfl (lv_at hl 1 rfl) ?_
  refine r_calli (va_runV (As := [.int x]) (rest := []) ⟨hx, hb, hml, hown, hts⟩ (k_X1_hasPlace l D ac _ (adr 10) (adr 11) nd (fun j => nI (du j)) (hM.cel (by omega) hm.2.2.2.1) (hM.cel (by omega) hm.2.2.2.2.1) (by omega) x) (cwV 1 hts gX7_dueAt_X1_hasPlace rfl rfl rfl (by decide +kernel) ⟨Nat.le_of_ble_eq_true rfl, Nat.le_of_ble_eq_true rfl⟩) (pV hK (ci := 1) rfl (hM.cel (by omega) hm.2.2.2.1)) rfl rfl hl.1 rfl (lv_room (Nat.le_of_ble_eq_true rfl)) dX7_dueAt_8 ⟨Nat.le_of_ble_eq_true rfl, Nat.le_of_ble_eq_true rfl⟩) hS (fun rv_1 locs hrv_1 hS => ?_)
  subst hrv_1
  rcases hi : ix x nd with _ | jhi
  · refine m_top (show _ = (0 : Int32) from rfl) ?_
    refine lv_if_ne (tgt := 22) hx hb dX7_dueAt_11 (by decide) (fun c11 => ?_) (fun c11 => ?_)
    · exact absurd c11 (by decide)
    · exact x_throw hx hb hlt hlocks hout hown (by decide) (hts _ (by decide +kernel)) (hts _ (by decide +kernel)) (fun w hw => hts w (hgIO_ w hw)) ng_IO ot_IO hX hM hS (hl.1.trans hml.symm) dX7_dueAt_14 dX7_dueAt_17 dX7_dueAt_18 dX7_dueAt_21 (Nat.le_of_ble_eq_true rfl) (Nat.le_of_ble_eq_true rfl) (Nat.le_of_ble_eq_true rfl) (Nat.le_of_ble_eq_true rfl) (Nat.le_of_ble_eq_true rfl) (Nat.le_of_ble_eq_true rfl) (⟨rfl, by first | rfl | (rw [hi]; rfl)⟩)
  · obtain ⟨hl9_, he9_⟩ := ix_of hi (by omega)
    refine m_top (show _ = (1 : Int32) from rfl) ?_
    refine lv_if_ne (tgt := 22) hx hb dX7_dueAt_11 (by decide) (fun c11 => ?_) (fun c11 => ?_)
    · refine lv_aload_n hx hb dX7_dueAt_22 rfl (lv_at hl 0 rfl) ?_
      refine m_get (ci := 7) (C := RX7) (T := TX7) (n := 13) (v := .ref (adr 7)) hx hb hts inX7_ hown hK rfl (hM.cel (by omega) h0) 2 (by decide) (hts _ (by decide +kernel)) rfl dX7_dueAt_23 ?_
      refine m_getN (host := RX7) (ci := 2) (C := RX2) (T := TX2) (n := 5) (v := .ref (adr 10)) hx hb hts inX2_ hown hK rfl (hM.cel (by omega) hm.1) 2 (by decide) 10 rfl rfl dX7_dueAt_26 ?_
      refine lv_iload_n hx hb dX7_dueAt_29 rfl (lv_at hl 1 rfl) ?_
      refine r_calli (va_runV (As := [.int x]) (rest := []) ⟨hx, hb, hml, hown, hts⟩ (k_X1_at l D ac _ (adr 10) (adr 11) nd (fun j => nI (du j)) (hM.cel (by omega) hm.2.2.2.1) (hM.cel (by omega) hm.2.2.2.2.1) (by omega) x) (cwV 1 hts gX7_dueAt_X1_at rfl rfl rfl (by decide +kernel) ⟨Nat.le_of_ble_eq_true rfl, Nat.le_of_ble_eq_true rfl⟩) (pV hK (ci := 1) rfl (hM.cel (by omega) hm.2.2.2.1)) rfl rfl hl.1 rfl (lv_room (Nat.le_of_ble_eq_true rfl)) dX7_dueAt_30 ⟨Nat.le_of_ble_eq_true rfl, Nat.le_of_ble_eq_true rfl⟩) hS (fun rv_2 locs hrv_2 hS => ?_)
      subst hrv_2
      refine m_top (show ((ix x nd).elim (-1) (fun j => nI (du j))) = nI (du jhi) from by rw [hi]; rfl) ?_
      exact ex_i hx hb hlocks hr dX7_dueAt_33 (Nat.le_of_ble_eq_true rfl) (Nat.le_of_ble_eq_true rfl) hM hS (⟨jhi, hl9_, he9_, rfl, rfl⟩)
    · exact absurd c11 (by decide)
set_option maxHeartbeats 4000000 in
set_option maxRecDepth 100000 in
/-- X7_paid -/
theorem k_X7_paid (l : Launch) (D : va_G) (ac : Nat → ClassId) (H : Heap) (hlt : l.stackTraces = false) (A : Nat → Prop) (N : Nat) (adr : Nat → Nat) (w : Nat → va_E) (hM : MW D A N adr w H) (dl : Nat) (dw : Nat → Nat) (fs : Nat → Int32) (fr : Nat → Int32) (ft : Nat → Nat) (ns : Nat) (so : Nat → Nat) (hv : Nat → Int64) (nd : Nat) (du : Nat → Nat) (T : Nat → Int32) (nr : Nat) (rq : Nat → Nat) (nq : Nat) (oq : Nat → Nat) (pd : Nat → Int32) (er : Nat → Int32) (no : Nat) (oc : Nat → Nat) (on_ : Nat → Nat) (owd : Nat → Nat → Nat) (obf : Nat → Nat → Int32) (rb : Nat → Int32) (st : Nat → Int32) (mt : Nat → Int32) (co : Nat → Int32) (py : Nat → Int32) (hd : Nat → Option Nat) (le : Int32) (pr : Int32) (ra : Int32) (hR : HR ac adr w dl dw fs fr ft ns so hv nd du T nr rq nq oq pd er no oc on_ owd obf rb st mt co py hd le pr ra) (hN : 22 + 6 * no ≤ N) (x : Int32) : WXi l yX7_paid wsX7_paid ({ frames := 6, cells := 1, slots := 6, locals := 89 }) [.ref (adr 0), .int x] D ac H A N adr w (fun r w1 => ∃ k, k < 4 ∧ x = nI k ∧ r = pd k ∧ w1 = w) (XC1 xIA (cd1 (ix x 4).isNone)) 1 6 := by
  refine vx_ofW (cc := cX7_paid) (maxL := 2) (ret := (some .int)) (by decide) rfl ?_
  intro p e s m args below meth c s₁ B hml hout hv
  obtain ⟨hargs, hsz, hK, hX⟩ := hv
  have hx := B.exec
  have hb := B.bytes
  have hr := B.returns
  have hts := atoms_spec (ws := wsX7_paid) B.pre
  have hown : s.vm.findClass RX7 = some m.cls := findClass_of_methodNamed B.named
  have hlocks := B.notSynchronized
  subst hsz
  have inX7_ : ∀ w ∈ wsX70, w ∈ wsX7_paid := by decide +kernel
  have hgIA_ : ∀ w ∈ (vx_at0 RX7 71 xIA xNames).filter goodWord, w ∈ wsX7_paid := by decide +kernel
  have hS : va_S A s.heap s.heap [] := va_S.rf
  have hl := lv_entry ([.ref (adr 0), .int x]) (n := 2) (Nat.le_of_ble_eq_true rfl)
  have hen := lg_entry_eq m [.ref (adr 0), .int x] 2
  rw [← hargs] at hen
  rw [hen]
  generalize (lg_sl ([.ref (adr 0), .int x]) ++ List.replicate (2 - (lg_sl ([.ref (adr 0), .int x])).length) Slot.unset).toArray = ls at hl ⊢
  have hl : lv_has ls 2 [(0, .ref (adr 0)), (1, .int x)] := hl
  obtain ⟨h0, hdr, hru, hm, hS1, hO1, hde, hha, hmo, hin_⟩ := id hR
  refine lv_iload_n hx hb dX7_paid_0 rfl (lv_at hl 1 rfl) ?_
  refine lv_if_lt (tgt := 13) hx hb dX7_paid_1 (by decide) (fun c1 => ?_) (fun c1 => ?_)
  · exact x_throw hx hb hlt hlocks hout hown (by decide) (hts _ (by decide +kernel)) (hts _ (by decide +kernel)) (fun w hw => hts w (hgIA_ w hw)) ng_IA ot_IA hX hM hS (hl.1.trans hml.symm) dX7_paid_13 dX7_paid_16 dX7_paid_17 dX7_paid_20 (Nat.le_of_ble_eq_true rfl) (Nat.le_of_ble_eq_true rfl) (Nat.le_of_ble_eq_true rfl) (Nat.le_of_ble_eq_true rfl) (Nat.le_of_ble_eq_true rfl) (Nat.le_of_ble_eq_true rfl) (⟨rfl, by unfold cd1; rw [ixn (n := 4) (by first | exact Or.inl c1 | exact Or.inr (le_of_nlt c10))]; rfl⟩)
  · refine lv_iload_n hx hb dX7_paid_4 rfl (lv_at hl 1 rfl) ?_
    refine lv_aload_n hx hb dX7_paid_5 rfl (lv_at hl 0 rfl) ?_
    refine m_get (ci := 7) (C := RX7) (T := TX7) (n := 13) (v := .ref (adr 20)) hx hb hts inX7_ hown hK rfl (hM.cel (by omega) h0) 7 (by decide) (hts _ (by decide +kernel)) rfl dX7_paid_6 ?_
    refine m_alen (v := 4) (ty := _) hx hb hK 0 (hM.cel (by omega) hmo.1) rfl (by first | rfl | decide) dX7_paid_9 ?_
    refine lv_icmp_lt (tgt := 21) hx hb dX7_paid_10 (by decide) (fun c10 => ?_) (fun c10 => ?_)
    · obtain ⟨k9, hk_k9, ex_k9⟩ := ixk (n := 4) c1 (nle_of_lt c10) (by decide)
      subst ex_k9
      refine lv_aload_n hx hb dX7_paid_21 rfl (lv_at hl 0 rfl) ?_
      refine m_get (ci := 7) (C := RX7) (T := TX7) (n := 13) (v := .ref (adr 20)) hx hb hts inX7_ hown hK rfl (hM.cel (by omega) h0) 7 (by decide) (hts _ (by decide +kernel)) rfl dX7_paid_22 ?_
      refine lv_iload_n hx hb dX7_paid_25 rfl (lv_at hl 1 rfl) ?_
      refine m_iald hx hb hK (hM.cel (by omega) hmo.1) (vp_in_nI (by omega) (by decide)) dX7_paid_26 ?_
      refine m_top (show (pd (nI k9).toNatClampNeg) = pd k9 from by rw [nI_clamp (by omega)]) ?_
      exact ex_i hx hb hlocks hr dX7_paid_27 (Nat.le_of_ble_eq_true rfl) (Nat.le_of_ble_eq_true rfl) hM hS (⟨k9, hk_k9, rfl, rfl, rfl⟩)
    · exact x_throw hx hb hlt hlocks hout hown (by decide) (hts _ (by decide +kernel)) (hts _ (by decide +kernel)) (fun w hw => hts w (hgIA_ w hw)) ng_IA ot_IA hX hM hS (hl.1.trans hml.symm) dX7_paid_13 dX7_paid_16 dX7_paid_17 dX7_paid_20 (Nat.le_of_ble_eq_true rfl) (Nat.le_of_ble_eq_true rfl) (Nat.le_of_ble_eq_true rfl) (Nat.le_of_ble_eq_true rfl) (Nat.le_of_ble_eq_true rfl) (Nat.le_of_ble_eq_true rfl) (⟨rfl, by unfold cd1; rw [ixn (n := 4) (by first | exact Or.inl c1 | exact Or.inr (le_of_nlt c10))]; rfl⟩)
set_option maxHeartbeats 4000000 in
set_option maxRecDepth 100000 in
/-- X7_earned -/
theorem k_X7_earned (l : Launch) (D : va_G) (ac : Nat → ClassId) (H : Heap) (hlt : l.stackTraces = false) (A : Nat → Prop) (N : Nat) (adr : Nat → Nat) (w : Nat → va_E) (hM : MW D A N adr w H) (dl : Nat) (dw : Nat → Nat) (fs : Nat → Int32) (fr : Nat → Int32) (ft : Nat → Nat) (ns : Nat) (so : Nat → Nat) (hv : Nat → Int64) (nd : Nat) (du : Nat → Nat) (T : Nat → Int32) (nr : Nat) (rq : Nat → Nat) (nq : Nat) (oq : Nat → Nat) (pd : Nat → Int32) (er : Nat → Int32) (no : Nat) (oc : Nat → Nat) (on_ : Nat → Nat) (owd : Nat → Nat → Nat) (obf : Nat → Nat → Int32) (rb : Nat → Int32) (st : Nat → Int32) (mt : Nat → Int32) (co : Nat → Int32) (py : Nat → Int32) (hd : Nat → Option Nat) (le : Int32) (pr : Int32) (ra : Int32) (hR : HR ac adr w dl dw fs fr ft ns so hv nd du T nr rq nq oq pd er no oc on_ owd obf rb st mt co py hd le pr ra) (hN : 22 + 6 * no ≤ N) (x : Int32) : WXi l yX7_earned wsX7_earned ({ frames := 6, cells := 1, slots := 6, locals := 89 }) [.ref (adr 0), .int x] D ac H A N adr w (fun r w1 => ∃ k, k < 4 ∧ x = nI k ∧ r = er k ∧ w1 = w) (XC1 xIA (cd1 (ix x 4).isNone)) 1 6 := by
  refine vx_ofW (cc := cX7_earned) (maxL := 2) (ret := (some .int)) (by decide) rfl ?_
  intro p e s m args below meth c s₁ B hml hout hv
  obtain ⟨hargs, hsz, hK, hX⟩ := hv
  have hx := B.exec
  have hb := B.bytes
  have hr := B.returns
  have hts := atoms_spec (ws := wsX7_earned) B.pre
  have hown : s.vm.findClass RX7 = some m.cls := findClass_of_methodNamed B.named
  have hlocks := B.notSynchronized
  subst hsz
  have inX7_ : ∀ w ∈ wsX70, w ∈ wsX7_earned := by decide +kernel
  have hgIA_ : ∀ w ∈ (vx_at0 RX7 71 xIA xNames).filter goodWord, w ∈ wsX7_earned := by decide +kernel
  have hS : va_S A s.heap s.heap [] := va_S.rf
  have hl := lv_entry ([.ref (adr 0), .int x]) (n := 2) (Nat.le_of_ble_eq_true rfl)
  have hen := lg_entry_eq m [.ref (adr 0), .int x] 2
  rw [← hargs] at hen
  rw [hen]
  generalize (lg_sl ([.ref (adr 0), .int x]) ++ List.replicate (2 - (lg_sl ([.ref (adr 0), .int x])).length) Slot.unset).toArray = ls at hl ⊢
  have hl : lv_has ls 2 [(0, .ref (adr 0)), (1, .int x)] := hl
  obtain ⟨h0, hdr, hru, hm, hS1, hO1, hde, hha, hmo, hin_⟩ := id hR
  refine lv_iload_n hx hb dX7_earned_0 rfl (lv_at hl 1 rfl) ?_
  refine lv_if_lt (tgt := 13) hx hb dX7_earned_1 (by decide) (fun c1 => ?_) (fun c1 => ?_)
  · exact x_throw hx hb hlt hlocks hout hown (by decide) (hts _ (by decide +kernel)) (hts _ (by decide +kernel)) (fun w hw => hts w (hgIA_ w hw)) ng_IA ot_IA hX hM hS (hl.1.trans hml.symm) dX7_earned_13 dX7_earned_16 dX7_earned_17 dX7_earned_20 (Nat.le_of_ble_eq_true rfl) (Nat.le_of_ble_eq_true rfl) (Nat.le_of_ble_eq_true rfl) (Nat.le_of_ble_eq_true rfl) (Nat.le_of_ble_eq_true rfl) (Nat.le_of_ble_eq_true rfl) (⟨rfl, by unfold cd1; rw [ixn (n := 4) (by first | exact Or.inl c1 | exact Or.inr (le_of_nlt c10))]; rfl⟩)
  · refine lv_iload_n hx hb dX7_earned_4 rfl (lv_at hl 1 rfl) ?_
    refine lv_aload_n hx hb dX7_earned_5 rfl (lv_at hl 0 rfl) ?_
    refine m_get (ci := 7) (C := RX7) (T := TX7) (n := 13) (v := .ref (adr 21)) hx hb hts inX7_ hown hK rfl (hM.cel (by omega) h0) 8 (by decide) (hts _ (by decide +kernel)) rfl dX7_earned_6 ?_
    refine m_alen (v := 4) (ty := _) hx hb hK 0 (hM.cel (by omega) hmo.2) rfl (by first | rfl | decide) dX7_earned_9 ?_
    refine lv_icmp_lt (tgt := 21) hx hb dX7_earned_10 (by decide) (fun c10 => ?_) (fun c10 => ?_)
    · obtain ⟨k9, hk_k9, ex_k9⟩ := ixk (n := 4) c1 (nle_of_lt c10) (by decide)
      subst ex_k9
      refine lv_aload_n hx hb dX7_earned_21 rfl (lv_at hl 0 rfl) ?_
      refine m_get (ci := 7) (C := RX7) (T := TX7) (n := 13) (v := .ref (adr 21)) hx hb hts inX7_ hown hK rfl (hM.cel (by omega) h0) 8 (by decide) (hts _ (by decide +kernel)) rfl dX7_earned_22 ?_
      refine lv_iload_n hx hb dX7_earned_25 rfl (lv_at hl 1 rfl) ?_
      refine m_iald hx hb hK (hM.cel (by omega) hmo.2) (vp_in_nI (by omega) (by decide)) dX7_earned_26 ?_
      refine m_top (show (er (nI k9).toNatClampNeg) = er k9 from by rw [nI_clamp (by omega)]) ?_
      exact ex_i hx hb hlocks hr dX7_earned_27 (Nat.le_of_ble_eq_true rfl) (Nat.le_of_ble_eq_true rfl) hM hS (⟨k9, hk_k9, rfl, rfl, rfl⟩)
    · exact x_throw hx hb hlt hlocks hout hown (by decide) (hts _ (by decide +kernel)) (hts _ (by decide +kernel)) (fun w hw => hts w (hgIA_ w hw)) ng_IA ot_IA hX hM hS (hl.1.trans hml.symm) dX7_earned_13 dX7_earned_16 dX7_earned_17 dX7_earned_20 (Nat.le_of_ble_eq_true rfl) (Nat.le_of_ble_eq_true rfl) (Nat.le_of_ble_eq_true rfl) (Nat.le_of_ble_eq_true rfl) (Nat.le_of_ble_eq_true rfl) (Nat.le_of_ble_eq_true rfl) (⟨rfl, by unfold cd1; rw [ixn (n := 4) (by first | exact Or.inl c1 | exact Or.inr (le_of_nlt c10))]; rfl⟩)
set_option maxHeartbeats 4000000 in
set_option maxRecDepth 100000 in
/-- X7_purse -/
theorem k_X7_purse (l : Launch) (D : va_G) (ac : Nat → ClassId) (H : Heap) (A : Nat → Prop) (N : Nat) (adr : Nat → Nat) (w : Nat → va_E) (hM : MW D A N adr w H) (dl : Nat) (dw : Nat → Nat) (fs : Nat → Int32) (fr : Nat → Int32) (ft : Nat → Nat) (ns : Nat) (so : Nat → Nat) (hv : Nat → Int64) (nd : Nat) (du : Nat → Nat) (T : Nat → Int32) (nr : Nat) (rq : Nat → Nat) (nq : Nat) (oq : Nat → Nat) (pd : Nat → Int32) (er : Nat → Int32) (no : Nat) (oc : Nat → Nat) (on_ : Nat → Nat) (owd : Nat → Nat → Nat) (obf : Nat → Nat → Int32) (rb : Nat → Int32) (st : Nat → Int32) (mt : Nat → Int32) (co : Nat → Int32) (py : Nat → Int32) (hd : Nat → Option Nat) (le : Int32) (pr : Int32) (ra : Int32) (hR : HR ac adr w dl dw fs fr ft ns so hv nd du T nr rq nq oq pd er no oc on_ owd obf rb st mt co py hd le pr ra) (hN : 22 + 6 * no ≤ N)  : WRi l yX7_purse wsX7_purse ({ frames := 1, cells := 0, slots := 0, locals := 25 }) [.ref (adr 0)] D ac H A N adr (fun r w1 => r = sm4 pd 4 - sm4 er 4 ∧ w1 = w) := by
  refine Met.ofW (cc := cX7_purse) (maxL := 1) (ret := (some .int)) (by decide) rfl ?_
  intro p e s m args below meth c s₁ B hml hv
  obtain ⟨hargs, hsz, hK⟩ := hv
  have hx := B.exec
  have hb := B.bytes
  have hr := B.returns
  have hts := atoms_spec (ws := wsX7_purse) B.pre
  have hown : s.vm.findClass RX7 = some m.cls := findClass_of_methodNamed B.named
  have hlocks := B.notSynchronized
  subst hsz
  have inX7_ : ∀ w ∈ wsX70, w ∈ wsX7_purse := by decide +kernel
  have hS : va_S A s.heap s.heap [] := va_S.rf
  have hl := lv_entry ([.ref (adr 0)]) (n := 1) (Nat.le_of_ble_eq_true rfl)
  have hen := lg_entry_eq m [.ref (adr 0)] 1
  rw [← hargs] at hen
  rw [hen]
  generalize (lg_sl ([.ref (adr 0)]) ++ List.replicate (1 - (lg_sl ([.ref (adr 0)])).length) Slot.unset).toArray = ls at hl ⊢
  have hl : lv_has ls 1 [(0, .ref (adr 0))] := hl
  obtain ⟨h0, hdr, hru, hm, hS1, hO1, hde, hha, hmo, hin_⟩ := id hR
  refine lv_aload_n hx hb dX7_purse_0 rfl (lv_at hl 0 rfl) ?_
  refine m_get (ci := 7) (C := RX7) (T := TX7) (n := 13) (v := .ref (adr 20)) hx hb hts inX7_ hown hK rfl (hM.cel (by omega) h0) 7 (by decide) (hts _ (by decide +kernel)) rfl dX7_purse_1 ?_
  refine r_calli (va_runS (As := [.ref (adr 20)]) (rest := []) ⟨hx, hb, hml, hown, hts⟩ (k_X7_sumOf l D ac _ (adr 20) pd (hM.cel (by omega) hmo.1)) (va_cwS 1 hts gX7_purse_X7_sumOf rfl rfl rfl (by decide +kernel) ⟨Nat.le_of_ble_eq_true rfl, Nat.le_of_ble_eq_true rfl⟩) (pS hK) rfl rfl hl.1 rfl (lv_room (Nat.le_of_ble_eq_true rfl)) dX7_purse_4 ⟨Nat.le_of_ble_eq_true rfl, Nat.le_of_ble_eq_true rfl⟩) hS (fun rv_1 locs hrv_1 hS => ?_)
  subst hrv_1
  refine lv_aload_n hx hb dX7_purse_7 rfl (lv_at hl 0 rfl) ?_
  refine m_get (ci := 7) (C := RX7) (T := TX7) (n := 13) (v := .ref (adr 21)) hx hb hts inX7_ hown hK rfl (hM.cel (by omega) h0) 8 (by decide) (hts _ (by decide +kernel)) rfl dX7_purse_8 ?_
  refine r_calli (va_runS (As := [.ref (adr 21)]) (rest := [.int (sm4 pd 4)]) ⟨hx, hb, hml, hown, hts⟩ (k_X7_sumOf l D ac _ (adr 21) er (hM.cel (by omega) hmo.2)) (va_cwS 1 hts gX7_purse_X7_sumOf rfl rfl rfl (by decide +kernel) ⟨Nat.le_of_ble_eq_true rfl, Nat.le_of_ble_eq_true rfl⟩) (pS hK) rfl rfl hl.1 rfl (lv_room (Nat.le_of_ble_eq_true rfl)) dX7_purse_11 ⟨Nat.le_of_ble_eq_true rfl, Nat.le_of_ble_eq_true rfl⟩) hS (fun rv_2 locs hrv_2 hS => ?_)
  subst hrv_2
  refine lv_isub hx hb dX7_purse_14 ?_
  exact e_wi hx hb hlocks hr dX7_purse_15 hM hS (⟨rfl, rfl⟩)
