set_option maxHeartbeats 4000000 in
set_option maxRecDepth 100000 in
/-- X7_refuseUnlessClient -/
theorem k_X7_refuseUnlessClient (l : Launch) (D : va_G) (ac : Nat → ClassId) (H : Heap) (hlt : l.stackTraces = false) (A : Nat → Prop) (N : Nat) (adr : Nat → Nat) (w : Nat → va_E) (hM : MW D A N adr w H) (x : Int32) : WXv l yX7_refuseUnlessClient wsX7_refuseUnlessClient ({ frames := 6, cells := 1, slots := 6, locals := 89 }) [.int x] D ac H A N adr w (fun w1 => (∃ k, k < 4 ∧ x = nI k) ∧ w1 = w) (fun E => E = xIA ∧ (ix x 4).isNone = true) 1 6 := by
  refine vx_ofW (cc := cX7_refuseUnlessClient) (maxL := 1) (ret := none) (by decide) rfl ?_
  intro p e s m args below meth c s₁ B hml hout hv
  obtain ⟨hargs, hsz, hK, hX⟩ := hv
  have hx := B.exec
  have hb := B.bytes
  have hr := B.returns
  have hts := atoms_spec (ws := wsX7_refuseUnlessClient) B.pre
  have hown : s.vm.findClass RX7 = some m.cls := findClass_of_methodNamed B.named
  have hlocks := B.notSynchronized
  subst hsz
  have hgIA_ : ∀ w ∈ (vx_at0 RX7 71 xIA xNames).filter goodWord, w ∈ wsX7_refuseUnlessClient := by decide +kernel
  have hS : va_S A s.heap s.heap [] := va_S.rf
  have hl := lv_entry ([.int x]) (n := 1) (Nat.le_of_ble_eq_true rfl)
  have hen := lg_entry_eq m [.int x] 1
  rw [← hargs] at hen
  rw [hen]
  generalize (lg_sl ([.int x]) ++ List.replicate (1 - (lg_sl ([.int x])).length) Slot.unset).toArray = ls at hl ⊢
  have hl : lv_has ls 1 [(0, .int x)] := hl
  refine lv_iload_n hx hb dX7_refuseUnlessClient_0 rfl (lv_at hl 0 rfl) ?_
  refine lv_if_lt (tgt := 9) hx hb dX7_refuseUnlessClient_1 (by decide) (fun c1 => ?_) (fun c1 => ?_)
  · exact x_throw hx hb hlt hlocks hout hown (by decide) (hts _ (by decide +kernel)) (hts _ (by decide +kernel)) (fun w hw => hts w (hgIA_ w hw)) ng_IA ot_IA hX hM hS (hl.1.trans hml.symm) dX7_refuseUnlessClient_9 dX7_refuseUnlessClient_12 dX7_refuseUnlessClient_13 dX7_refuseUnlessClient_16 (Nat.le_of_ble_eq_true rfl) (Nat.le_of_ble_eq_true rfl) (Nat.le_of_ble_eq_true rfl) (Nat.le_of_ble_eq_true rfl) (Nat.le_of_ble_eq_true rfl) (Nat.le_of_ble_eq_true rfl) (⟨rfl, ixn (by first | exact Or.inl c1 | exact Or.inr (le_of_nlt c6))⟩)
  · refine lv_iload_n hx hb dX7_refuseUnlessClient_4 rfl (lv_at hl 0 rfl) ?_
    refine lv_iconst (v := 4) hx hb dX7_refuseUnlessClient_5 (by decide) ?_
    refine lv_icmp_lt (tgt := 17) hx hb dX7_refuseUnlessClient_6 (by decide) (fun c6 => ?_) (fun c6 => ?_)
    · exact ex_v hx hb hlocks hr dX7_refuseUnlessClient_17 (Nat.le_of_ble_eq_true rfl) (Nat.le_of_ble_eq_true rfl) hM hS (⟨by obtain ⟨k, q1, q2⟩ := ixk (n := 4) c1 (nle_of_lt c6) (by decide); exact ⟨k, q1, q2⟩, rfl⟩)
    · exact x_throw hx hb hlt hlocks hout hown (by decide) (hts _ (by decide +kernel)) (hts _ (by decide +kernel)) (fun w hw => hts w (hgIA_ w hw)) ng_IA ot_IA hX hM hS (hl.1.trans hml.symm) dX7_refuseUnlessClient_9 dX7_refuseUnlessClient_12 dX7_refuseUnlessClient_13 dX7_refuseUnlessClient_16 (Nat.le_of_ble_eq_true rfl) (Nat.le_of_ble_eq_true rfl) (Nat.le_of_ble_eq_true rfl) (Nat.le_of_ble_eq_true rfl) (Nat.le_of_ble_eq_true rfl) (Nat.le_of_ble_eq_true rfl) (⟨rfl, ixn (by first | exact Or.inl c1 | exact Or.inr (le_of_nlt c6))⟩)
set_option maxHeartbeats 4000000 in
set_option maxRecDepth 100000 in
/-- X7_refuseUnlessTranslator -/
theorem k_X7_refuseUnlessTranslator (l : Launch) (D : va_G) (ac : Nat → ClassId) (H : Heap) (hlt : l.stackTraces = false) (A : Nat → Prop) (N : Nat) (adr : Nat → Nat) (w : Nat → va_E) (hM : MW D A N adr w H) (x : Int32) : WXv l yX7_refuseUnlessTranslator wsX7_refuseUnlessTranslator ({ frames := 6, cells := 1, slots := 6, locals := 89 }) [.int x] D ac H A N adr w (fun w1 => (∃ k, k < 4 ∧ x = nI k) ∧ w1 = w) (fun E => E = xIA ∧ (ix x 4).isNone = true) 1 6 := by
  refine vx_ofW (cc := cX7_refuseUnlessTranslator) (maxL := 1) (ret := none) (by decide) rfl ?_
  intro p e s m args below meth c s₁ B hml hout hv
  obtain ⟨hargs, hsz, hK, hX⟩ := hv
  have hx := B.exec
  have hb := B.bytes
  have hr := B.returns
  have hts := atoms_spec (ws := wsX7_refuseUnlessTranslator) B.pre
  have hown : s.vm.findClass RX7 = some m.cls := findClass_of_methodNamed B.named
  have hlocks := B.notSynchronized
  subst hsz
  have hgIA_ : ∀ w ∈ (vx_at0 RX7 71 xIA xNames).filter goodWord, w ∈ wsX7_refuseUnlessTranslator := by decide +kernel
  have hS : va_S A s.heap s.heap [] := va_S.rf
  have hl := lv_entry ([.int x]) (n := 1) (Nat.le_of_ble_eq_true rfl)
  have hen := lg_entry_eq m [.int x] 1
  rw [← hargs] at hen
  rw [hen]
  generalize (lg_sl ([.int x]) ++ List.replicate (1 - (lg_sl ([.int x])).length) Slot.unset).toArray = ls at hl ⊢
  have hl : lv_has ls 1 [(0, .int x)] := hl
  refine lv_iload_n hx hb dX7_refuseUnlessTranslator_0 rfl (lv_at hl 0 rfl) ?_
  refine lv_if_lt (tgt := 9) hx hb dX7_refuseUnlessTranslator_1 (by decide) (fun c1 => ?_) (fun c1 => ?_)
  · exact x_throw hx hb hlt hlocks hout hown (by decide) (hts _ (by decide +kernel)) (hts _ (by decide +kernel)) (fun w hw => hts w (hgIA_ w hw)) ng_IA ot_IA hX hM hS (hl.1.trans hml.symm) dX7_refuseUnlessTranslator_9 dX7_refuseUnlessTranslator_12 dX7_refuseUnlessTranslator_13 dX7_refuseUnlessTranslator_16 (Nat.le_of_ble_eq_true rfl) (Nat.le_of_ble_eq_true rfl) (Nat.le_of_ble_eq_true rfl) (Nat.le_of_ble_eq_true rfl) (Nat.le_of_ble_eq_true rfl) (Nat.le_of_ble_eq_true rfl) (⟨rfl, ixn (by first | exact Or.inl c1 | exact Or.inr (le_of_nlt c6))⟩)
  · refine lv_iload_n hx hb dX7_refuseUnlessTranslator_4 rfl (lv_at hl 0 rfl) ?_
    refine lv_iconst (v := 4) hx hb dX7_refuseUnlessTranslator_5 (by decide) ?_
    refine lv_icmp_lt (tgt := 17) hx hb dX7_refuseUnlessTranslator_6 (by decide) (fun c6 => ?_) (fun c6 => ?_)
    · exact ex_v hx hb hlocks hr dX7_refuseUnlessTranslator_17 (Nat.le_of_ble_eq_true rfl) (Nat.le_of_ble_eq_true rfl) hM hS (⟨by obtain ⟨k, q1, q2⟩ := ixk (n := 4) c1 (nle_of_lt c6) (by decide); exact ⟨k, q1, q2⟩, rfl⟩)
    · exact x_throw hx hb hlt hlocks hout hown (by decide) (hts _ (by decide +kernel)) (hts _ (by decide +kernel)) (fun w hw => hts w (hgIA_ w hw)) ng_IA ot_IA hX hM hS (hl.1.trans hml.symm) dX7_refuseUnlessTranslator_9 dX7_refuseUnlessTranslator_12 dX7_refuseUnlessTranslator_13 dX7_refuseUnlessTranslator_16 (Nat.le_of_ble_eq_true rfl) (Nat.le_of_ble_eq_true rfl) (Nat.le_of_ble_eq_true rfl) (Nat.le_of_ble_eq_true rfl) (Nat.le_of_ble_eq_true rfl) (Nat.le_of_ble_eq_true rfl) (⟨rfl, ixn (by first | exact Or.inl c1 | exact Or.inr (le_of_nlt c6))⟩)
set_option maxHeartbeats 4000000 in
set_option maxRecDepth 100000 in
/-- refuseUnlessClientAndWord -/
theorem k_X7_refuseUnlessClientAndWord (l : Launch) (D : va_G) (ac : Nat → ClassId) (H : Heap) (hlt : l.stackTraces = false) (A : Nat → Prop) (N : Nat) (adr : Nat → Nat) (w : Nat → va_E) (hM : MW D A N adr w H) (x y : Int32) : WXv l yX7_refuseUnlessClientAndWord wsX7_refuseUnlessClientAndWord ({ frames := 7, cells := 2, slots := 12, locals := 109 }) [.int x, .int y] D ac H A N adr w (fun w1 => (∃ k, k < 4 ∧ x = nI k) ∧ (∃ k, k < 50 ∧ y = nI k) ∧ w1 = w) (fun E => E = xIA ∧ ((ix x 4).isNone || (ix y 50).isNone) = true) 2 12 := by
  refine vx_ofW (cc := cX7_refuseUnlessClientAndWord) (maxL := 2) (ret := none) (by decide) rfl ?_
  intro p e s m args below meth c s₁ B hml hout hv
  obtain ⟨hargs, hsz, hK, hX⟩ := hv
  have hx := B.exec
  have hb := B.bytes
  have hr := B.returns
  have hts := atoms_spec (ws := wsX7_refuseUnlessClientAndWord) B.pre
  have hown : s.vm.findClass RX7 = some m.cls := findClass_of_methodNamed B.named
  have hlocks := B.notSynchronized
  subst hsz
  have hgIA_ : ∀ w ∈ (vx_at0 RX7 71 xIA xNames).filter goodWord, w ∈ wsX7_refuseUnlessClientAndWord := by decide +kernel
  have hS : va_S A s.heap s.heap [] := va_S.rf
  have hl := lv_entry ([.int x, .int y]) (n := 2) (Nat.le_of_ble_eq_true rfl)
  have hen := lg_entry_eq m [.int x, .int y] 2
  rw [← hargs] at hen
  rw [hen]
  generalize (lg_sl ([.int x, .int y]) ++ List.replicate (2 - (lg_sl ([.int x, .int y])).length) Slot.unset).toArray = ls at hl ⊢
  have hl : lv_has ls 2 [(0, .int x), (1, .int y)] := hl
  refine lv_iload_n hx hb dX7_refuseUnlessClientAndWord_0 rfl (lv_at hl 0 rfl) ?_
  refine x_callv hlocks hout (vx_runS (As := [.int x]) (rest := []) ⟨hx, hb, hml, hown, hts⟩ (k_X7_refuseUnlessClient l D ac _ hlt A N adr w hM x) (va_cwS 1 hts gX7_refuseUnlessClientAndWord_X7_refuseUnlessClient rfl rfl rfl (by decide +kernel) ⟨(Nat.le_of_ble_eq_true rfl), (Nat.le_of_ble_eq_true rfl)⟩) (pSX hK (hX.at hS)) rfl rfl hl.1 rfl (lv_room (Nat.le_of_ble_eq_true rfl)) dX7_refuseUnlessClientAndWord_1 ⟨(Nat.le_of_ble_eq_true rfl), (Nat.le_of_ble_eq_true rfl)⟩) hS (fun E h => ⟨h.1, by rw [h.2]; rfl⟩) (Nat.le_of_ble_eq_true rfl) (Nat.le_of_ble_eq_true rfl) (fun w_2 H locs hw_2 hM hS => ?_)
  obtain ⟨⟨k9, hk_k9, ex_k9⟩, e9_⟩ := hw_2
  obtain rfl := e9_.symm
  refine lv_iload_n hx hb dX7_refuseUnlessClientAndWord_4 rfl (lv_at hl 1 rfl) ?_
  refine lv_if_lt (tgt := 14) hx hb dX7_refuseUnlessClientAndWord_5 (by decide) (fun c5 => ?_) (fun c5 => ?_)
  · exact x_throw hx hb hlt hlocks hout hown (by decide) (hts _ (by decide +kernel)) (hts _ (by decide +kernel)) (fun w hw => hts w (hgIA_ w hw)) ng_IA ot_IA hX hM hS (hl.1.trans hml.symm) dX7_refuseUnlessClientAndWord_14 dX7_refuseUnlessClientAndWord_17 dX7_refuseUnlessClientAndWord_18 dX7_refuseUnlessClientAndWord_21 (Nat.le_of_ble_eq_true rfl) (Nat.le_of_ble_eq_true rfl) (Nat.le_of_ble_eq_true rfl) (Nat.le_of_ble_eq_true rfl) (Nat.le_of_ble_eq_true rfl) (Nat.le_of_ble_eq_true rfl) (⟨rfl, by rw [ixn (n := 50) (by first | exact Or.inl c5 | exact Or.inr (le_of_nlt c11)), Bool.or_true]⟩)
  · refine lv_iload_n hx hb dX7_refuseUnlessClientAndWord_8 rfl (lv_at hl 1 rfl) ?_
    refine lv_bipush (v := 50) hx hb dX7_refuseUnlessClientAndWord_9 (by decide) ?_
    refine lv_icmp_lt (tgt := 22) hx hb dX7_refuseUnlessClientAndWord_11 (by decide) (fun c11 => ?_) (fun c11 => ?_)
    · exact ex_v hx hb hlocks hr dX7_refuseUnlessClientAndWord_22 (Nat.le_of_ble_eq_true rfl) (Nat.le_of_ble_eq_true rfl) hM hS (⟨⟨k9, hk_k9, ex_k9⟩, by obtain ⟨k, q1, q2⟩ := ixk (n := 50) c5 (nle_of_lt c11) (by decide); exact ⟨k, q1, q2⟩, rfl⟩)
    · exact x_throw hx hb hlt hlocks hout hown (by decide) (hts _ (by decide +kernel)) (hts _ (by decide +kernel)) (fun w hw => hts w (hgIA_ w hw)) ng_IA ot_IA hX hM hS (hl.1.trans hml.symm) dX7_refuseUnlessClientAndWord_14 dX7_refuseUnlessClientAndWord_17 dX7_refuseUnlessClientAndWord_18 dX7_refuseUnlessClientAndWord_21 (Nat.le_of_ble_eq_true rfl) (Nat.le_of_ble_eq_true rfl) (Nat.le_of_ble_eq_true rfl) (Nat.le_of_ble_eq_true rfl) (Nat.le_of_ble_eq_true rfl) (Nat.le_of_ble_eq_true rfl) (⟨rfl, by rw [ixn (n := 50) (by first | exact Or.inl c5 | exact Or.inr (le_of_nlt c11)), Bool.or_true]⟩)
set_option maxHeartbeats 4000000 in
set_option maxRecDepth 100000 in
/-- refuseUnlessPlace -/
theorem k_X7_refuseUnlessPlace (l : Launch) (D : va_G) (ac : Nat → ClassId) (H : Heap) (hlt : l.stackTraces = false) (A : Nat → Prop) (N : Nat) (adr : Nat → Nat) (w : Nat → va_E) (hM : MW D A N adr w H) (q : Nat) (cl n : Nat) (wd : Nat → Nat) (bf : Nat → Int32) (hq : q + 4 < N) (hs : SenW ac adr w q cl n wd bf) (x : Int32) : WXv l yX7_refuseUnlessPlace wsX7_refuseUnlessPlace ({ frames := 6, cells := 1, slots := 6, locals := 89 }) [.ref (adr q), .int x] D ac H A N adr w (fun w1 => (∃ k, k < n ∧ x = nI k) ∧ w1 = w) (fun E => E = xIO ∧ (ix x n).isNone = true) 1 6 := by
  refine vx_ofW (cc := cX7_refuseUnlessPlace) (maxL := 2) (ret := none) (by decide) rfl ?_
  intro p e s m args below meth c s₁ B hml hout hv
  obtain ⟨hargs, hsz, hK, hX⟩ := hv
  have hx := B.exec
  have hb := B.bytes
  have hr := B.returns
  have hts := atoms_spec (ws := wsX7_refuseUnlessPlace) B.pre
  have hown : s.vm.findClass RX7 = some m.cls := findClass_of_methodNamed B.named
  have hlocks := B.notSynchronized
  subst hsz
  have inX6_ : ∀ w ∈ wsX60, w ∈ wsX7_refuseUnlessPlace := by decide +kernel
  have hgIO_ : ∀ w ∈ (vx_at0 RX7 239 xIO xNames).filter goodWord, w ∈ wsX7_refuseUnlessPlace := by decide +kernel
  have hS : va_S A s.heap s.heap [] := va_S.rf
  have hl := lv_entry ([.ref (adr q), .int x]) (n := 2) (Nat.le_of_ble_eq_true rfl)
  have hen := lg_entry_eq m [.ref (adr q), .int x] 2
  rw [← hargs] at hen
  rw [hen]
  generalize (lg_sl ([.ref (adr q), .int x]) ++ List.replicate (2 - (lg_sl ([.ref (adr q), .int x])).length) Slot.unset).toArray = ls at hl ⊢
  have hl : lv_has ls 2 [(0, .ref (adr q)), (1, .int x)] := hl
  obtain ⟨hn0_, hn8_, hcl_, hwd_⟩ := hs.2.2.2.2.2
  refine lv_aload_n hx hb dX7_refuseUnlessPlace_0 rfl (lv_at hl 0 rfl) ?_
  refine m_getN (host := RX7) (ci := 6) (C := RX6) (T := TX6) (n := 3) (v := .ref (adr (q + 1))) hx hb hts inX6_ hown hK rfl (hM.cel (by omega) hs.1) 1 (by decide) 18 rfl rfl dX7_refuseUnlessPlace_1 ?_
  refine lv_iload_n hx hb dX7_refuseUnlessPlace_4 rfl (lv_at hl 1 rfl) ?_
  refine r_calli (va_runV (As := [.int x]) (rest := []) ⟨hx, hb, hml, hown, hts⟩ (k_X4_has l D ac _ (adr (q + 1)) (adr (q + 2)) n (fun j => nI (wd j)) (hM.cel (by omega) hs.2.1) (hM.cel (by omega) hs.2.2.1) (by omega) x) (cwV 1 hts gX7_refuseUnlessPlace_X4_has rfl rfl rfl (by decide +kernel) ⟨Nat.le_of_ble_eq_true rfl, Nat.le_of_ble_eq_true rfl⟩) (pV hK (ci := 4) rfl (hM.cel (by omega) hs.2.1)) rfl rfl hl.1 rfl (lv_room (Nat.le_of_ble_eq_true rfl)) dX7_refuseUnlessPlace_5 ⟨Nat.le_of_ble_eq_true rfl, Nat.le_of_ble_eq_true rfl⟩) hS (fun rv_1 locs hrv_1 hS => ?_)
  subst hrv_1
  rcases hi : ix x n with _ | jhi
  · refine m_top (show _ = (0 : Int32) from rfl) ?_
    refine lv_if_ne (tgt := 19) hx hb dX7_refuseUnlessPlace_8 (by decide) (fun c8 => ?_) (fun c8 => ?_)
    · exact absurd c8 (by decide)
    · exact x_throw hx hb hlt hlocks hout hown (by decide) (hts _ (by decide +kernel)) (hts _ (by decide +kernel)) (fun w hw => hts w (hgIO_ w hw)) ng_IO ot_IO hX hM hS (hl.1.trans hml.symm) dX7_refuseUnlessPlace_11 dX7_refuseUnlessPlace_14 dX7_refuseUnlessPlace_15 dX7_refuseUnlessPlace_18 (Nat.le_of_ble_eq_true rfl) (Nat.le_of_ble_eq_true rfl) (Nat.le_of_ble_eq_true rfl) (Nat.le_of_ble_eq_true rfl) (Nat.le_of_ble_eq_true rfl) (Nat.le_of_ble_eq_true rfl) (⟨rfl, by first | rfl | (rw [hi]; rfl)⟩)
  · obtain ⟨hl9_, he9_⟩ := ix_of hi (by omega)
    refine m_top (show _ = (1 : Int32) from rfl) ?_
    refine lv_if_ne (tgt := 19) hx hb dX7_refuseUnlessPlace_8 (by decide) (fun c8 => ?_) (fun c8 => ?_)
    · exact ex_v hx hb hlocks hr dX7_refuseUnlessPlace_19 (Nat.le_of_ble_eq_true rfl) (Nat.le_of_ble_eq_true rfl) hM hS (⟨⟨jhi, hl9_, he9_⟩, rfl⟩)
    · exact absurd c8 (by decide)
set_option maxHeartbeats 4000000 in
set_option maxRecDepth 100000 in
/-- refuseEmptyDraft -/
theorem k_X7_refuseEmptyDraft (l : Launch) (D : va_G) (ac : Nat → ClassId) (H : Heap) (hlt : l.stackTraces = false) (A : Nat → Prop) (N : Nat) (adr : Nat → Nat) (w : Nat → va_E) (hM : MW D A N adr w H) (dl : Nat) (dw : Nat → Nat) (fs : Nat → Int32) (fr : Nat → Int32) (ft : Nat → Nat) (ns : Nat) (so : Nat → Nat) (hv : Nat → Int64) (nd : Nat) (du : Nat → Nat) (T : Nat → Int32) (nr : Nat) (rq : Nat → Nat) (nq : Nat) (oq : Nat → Nat) (pd : Nat → Int32) (er : Nat → Int32) (no : Nat) (oc : Nat → Nat) (on_ : Nat → Nat) (owd : Nat → Nat → Nat) (obf : Nat → Nat → Int32) (rb : Nat → Int32) (st : Nat → Int32) (mt : Nat → Int32) (co : Nat → Int32) (py : Nat → Int32) (hd : Nat → Option Nat) (le : Int32) (pr : Int32) (ra : Int32) (hR : HR ac adr w dl dw fs fr ft ns so hv nd du T nr rq nq oq pd er no oc on_ owd obf rb st mt co py hd le pr ra) (hN : 22 + 6 * no ≤ N) : WXv l yX7_refuseEmptyDraft wsX7_refuseEmptyDraft ({ frames := 6, cells := 1, slots := 6, locals := 89 }) [.ref (adr 0)] D ac H A N adr w (fun w1 => 0 < dl ∧ w1 = w) (fun E => E = xIS ∧ decide (dl = 0) = true) 1 6 := by
  refine vx_ofW (cc := cX7_refuseEmptyDraft) (maxL := 1) (ret := none) (by decide) rfl ?_
  intro p e s m args below meth c s₁ B hml hout hv
  obtain ⟨hargs, hsz, hK, hX⟩ := hv
  have hx := B.exec
  have hb := B.bytes
  have hr := B.returns
  have hts := atoms_spec (ws := wsX7_refuseEmptyDraft) B.pre
  have hown : s.vm.findClass RX7 = some m.cls := findClass_of_methodNamed B.named
  have hlocks := B.notSynchronized
  subst hsz
  have inX4_ : ∀ w ∈ wsX40, w ∈ wsX7_refuseEmptyDraft := by decide +kernel
  have inX7_ : ∀ w ∈ wsX70, w ∈ wsX7_refuseEmptyDraft := by decide +kernel
  have hgIS_ : ∀ w ∈ (vx_at0 RX7 77 xIS xNames).filter goodWord, w ∈ wsX7_refuseEmptyDraft := by decide +kernel
  have hS : va_S A s.heap s.heap [] := va_S.rf
  have hl := lv_entry ([.ref (adr 0)]) (n := 1) (Nat.le_of_ble_eq_true rfl)
  have hen := lg_entry_eq m [.ref (adr 0)] 1
  rw [← hargs] at hen
  rw [hen]
  generalize (lg_sl ([.ref (adr 0)]) ++ List.replicate (1 - (lg_sl ([.ref (adr 0)])).length) Slot.unset).toArray = ls at hl ⊢
  have hl : lv_has ls 1 [(0, .ref (adr 0))] := hl
  obtain ⟨h0, hdr, hru, hm, hS1, hO1, hde, hha, hmo, hin_⟩ := id hR
  refine lv_aload_n hx hb dX7_refuseEmptyDraft_0 rfl (lv_at hl 0 rfl) ?_
  refine m_get (ci := 7) (C := RX7) (T := TX7) (n := 13) (v := .ref (adr 1)) hx hb hts inX7_ hown hK rfl (hM.cel (by omega) h0) 0 (by decide) (hts _ (by decide +kernel)) rfl dX7_refuseEmptyDraft_1 ?_
  refine m_getN (host := RX7) (ci := 4) (C := RX4) (T := TX4) (n := 2) (v := .int (nI dl)) hx hb hts inX4_ hown hK rfl (hM.cel (by omega) hdr.1) 1 (by decide) 3 rfl rfl dX7_refuseEmptyDraft_4 ?_
  refine lv_if_ne (tgt := 18) hx hb dX7_refuseEmptyDraft_7 (by decide) (fun c7 => ?_) (fun c7 => ?_)
  · exact ex_v hx hb hlocks hr dX7_refuseEmptyDraft_18 (Nat.le_of_ble_eq_true rfl) (Nat.le_of_ble_eq_true rfl) hM hS (⟨Nat.pos_of_ne_zero (fun e => c7 (by rw [e]; rfl)), rfl⟩)
  · exact x_throw hx hb hlt hlocks hout hown (by decide) (hts _ (by decide +kernel)) (hts _ (by decide +kernel)) (fun w hw => hts w (hgIS_ w hw)) ng_IS ot_IS hX hM hS (hl.1.trans hml.symm) dX7_refuseEmptyDraft_10 dX7_refuseEmptyDraft_13 dX7_refuseEmptyDraft_14 dX7_refuseEmptyDraft_17 (Nat.le_of_ble_eq_true rfl) (Nat.le_of_ble_eq_true rfl) (Nat.le_of_ble_eq_true rfl) (Nat.le_of_ble_eq_true rfl) (Nat.le_of_ble_eq_true rfl) (Nat.le_of_ble_eq_true rfl) (⟨rfl, decide_eq_true (by have := (nI_eq (b := 0) (by have := hdr.2.2.1; omega) (by omega)).mp c7; omega)⟩)
set_option maxHeartbeats 4000000 in
set_option maxRecDepth 100000 in
/-- soldSentence -/
theorem k_X7_soldSentence (l : Launch) (D : va_G) (ac : Nat → ClassId) (H : Heap) (hlt : l.stackTraces = false) (A : Nat → Prop) (N : Nat) (adr : Nat → Nat) (w : Nat → va_E) (hM : MW D A N adr w H) (dl : Nat) (dw : Nat → Nat) (fs : Nat → Int32) (fr : Nat → Int32) (ft : Nat → Nat) (ns : Nat) (so : Nat → Nat) (hv : Nat → Int64) (nd : Nat) (du : Nat → Nat) (T : Nat → Int32) (nr : Nat) (rq : Nat → Nat) (nq : Nat) (oq : Nat → Nat) (pd : Nat → Int32) (er : Nat → Int32) (no : Nat) (oc : Nat → Nat) (on_ : Nat → Nat) (owd : Nat → Nat → Nat) (obf : Nat → Nat → Int32) (rb : Nat → Int32) (st : Nat → Int32) (mt : Nat → Int32) (co : Nat → Int32) (py : Nat → Int32) (hd : Nat → Option Nat) (le : Int32) (pr : Int32) (ra : Int32) (hR : HR ac adr w dl dw fs fr ft ns so hv nd du T nr rq nq oq pd er no oc on_ owd obf rb st mt co py hd le pr ra) (hN : 22 + 6 * no ≤ N) (x : Int32) : WXr l yX7_soldSentence wsX7_soldSentence ({ frames := 6, cells := 1, slots := 6, locals := 89 }) [.ref (adr 0), .int x] D ac H A N adr w (fun r w1 => ∃ i, i < ns ∧ x = nI i ∧ r = some (adr (23 + 6 * so i)) ∧ w1 = w) (fun E => E = xIO ∧ (ix x ns).isNone = true) 1 6 := by
  refine vx_ofW (cc := cX7_soldSentence) (maxL := 3) (ret := (some (.object "TermGate$Sentence"))) (by decide) rfl ?_
  intro p e s m args below meth c s₁ B hml hout hv
  obtain ⟨hargs, hsz, hK, hX⟩ := hv
  have hx := B.exec
  have hb := B.bytes
  have hr := B.returns
  have hts := atoms_spec (ws := wsX7_soldSentence) B.pre
  have hown : s.vm.findClass RX7 = some m.cls := findClass_of_methodNamed B.named
  have hlocks := B.notSynchronized
  subst hsz
  have inX7_ : ∀ w ∈ wsX70, w ∈ wsX7_soldSentence := by decide +kernel
  have hgIO_ : ∀ w ∈ (vx_at0 RX7 239 xIO xNames).filter goodWord, w ∈ wsX7_soldSentence := by decide +kernel
  have hS : va_S A s.heap s.heap [] := va_S.rf
  have hl := lv_entry ([.ref (adr 0), .int x]) (n := 3) (Nat.le_of_ble_eq_true rfl)
  have hen := lg_entry_eq m [.ref (adr 0), .int x] 3
  rw [← hargs] at hen
  rw [hen]
  generalize (lg_sl ([.ref (adr 0), .int x]) ++ List.replicate (3 - (lg_sl ([.ref (adr 0), .int x])).length) Slot.unset).toArray = ls at hl ⊢
  have hl : lv_has ls 3 [(0, .ref (adr 0)), (1, .int x)] := hl
  obtain ⟨h0, hdr, hru, hm, hS1, hO1, hde, hha, hmo, hin_⟩ := id hR
  obtain ⟨hns, hnd⟩ := hm.2.2.2.2.2.2.2
  have hso := fun i hi => (hin_.1 i hi).1
  refine lv_aload_n hx hb dX7_soldSentence_0 rfl (lv_at hl 0 rfl) ?_
  refine m_get (ci := 7) (C := RX7) (T := TX7) (n := 13) (v := .ref (adr 7)) hx hb hts inX7_ hown hK rfl (hM.cel (by omega) h0) 2 (by decide) (hts _ (by decide +kernel)) rfl dX7_soldSentence_1 ?_
  refine lv_iload_n hx hb dX7_soldSentence_4 rfl (lv_at hl 1 rfl) ?_
  refine r_callq (va_runV (As := [.int x]) (rest := []) ⟨hx, hb, hml, hown, hts⟩ (k_X2_sentenceAt l D ac _ (adr 7) (adr 8) (sref adr ns so) (.ref (adr 9)) (.ref (adr 10)) (.ref (adr 12)) (.int (nI ns)) (hM.cel (by omega) hm.1) (hM.cel (by omega) hm.2.1) x) (cwV 1 hts gX7_soldSentence_X2_sentenceAt rfl rfl rfl (by decide +kernel) ⟨Nat.le_of_ble_eq_true rfl, Nat.le_of_ble_eq_true rfl⟩) (pV hK (ci := 2) rfl (hM.cel (by omega) hm.1)) rfl rfl hl.1 rfl (lv_room (Nat.le_of_ble_eq_true rfl)) dX7_soldSentence_5 ⟨Nat.le_of_ble_eq_true rfl, Nat.le_of_ble_eq_true rfl⟩) hS (fun rv_1 locs hrv_1 hS => ?_)
  subst hrv_1
  refine m_topq (show (ix x 40).bind (sref adr ns so) = (ix x ns).map (fun i => adr (23 + 6 * so i)) from sat_eq (by omega)) ?_
  rcases hi : ix x ns with _ | jhi
  · refine m_topn ?_
    refine lv_astore_nN (lv' := [(2, .null), (0, .ref (adr 0)), (1, .int x)]) hx hb dX7_soldSentence_8 rfl hl (by decide) rfl (fun ls hl => ?_)
    refine lv_aload_nN hx hb dX7_soldSentence_9 rfl (lv_at hl 0 rfl) ?_
    refine lv_ifnonnullN hx hb dX7_soldSentence_10 ?_
    exact x_throw hx hb hlt hlocks hout hown (by decide) (hts _ (by decide +kernel)) (hts _ (by decide +kernel)) (fun w hw => hts w (hgIO_ w hw)) ng_IO ot_IO hX hM hS (hl.1.trans hml.symm) dX7_soldSentence_13 dX7_soldSentence_16 dX7_soldSentence_17 dX7_soldSentence_20 (Nat.le_of_ble_eq_true rfl) (Nat.le_of_ble_eq_true rfl) (Nat.le_of_ble_eq_true rfl) (Nat.le_of_ble_eq_true rfl) (Nat.le_of_ble_eq_true rfl) (Nat.le_of_ble_eq_true rfl) (⟨rfl, by first | rfl | (rw [hi]; rfl)⟩)
  · obtain ⟨hj_, he_⟩ := ix_of hi (by omega)
    have ho_ : so jhi < no := hso jhi hj_
    have hsn_ := hS1 (so jhi) ho_
    obtain ⟨hn0_, hn8_, hcl_, hwd_⟩ := hsn_.2.2.2.2.2
    refine m_topr ?_
    refine lv_astore_n (lv' := [(2, .ref (adr (23 + 6 * so jhi))), (0, .ref (adr 0)), (1, .int x)]) hx hb dX7_soldSentence_8 rfl hl (by decide) rfl (fun ls hl => ?_)
    refine lv_aload_n hx hb dX7_soldSentence_9 rfl (lv_at hl 0 rfl) ?_
    refine lv_ifnonnull (tgt := 21) hx hb dX7_soldSentence_10 (by decide) ?_
    refine lv_aload_n hx hb dX7_soldSentence_21 rfl (lv_at hl 0 rfl) ?_
    exact ex_q (r := some (adr (23 + 6 * so jhi))) hx hb hlocks hr (Or.inl ⟨_, rfl⟩) dX7_soldSentence_22 (Nat.le_of_ble_eq_true rfl) (Nat.le_of_ble_eq_true rfl) hM hS (⟨jhi, hj_, he_, rfl, rfl⟩)
set_option maxHeartbeats 4000000 in
set_option maxRecDepth 100000 in
/-- X7_handOf -/
theorem k_X7_handOf (l : Launch) (D : va_G) (ac : Nat → ClassId) (H : Heap) (a b9 : Nat) (f : Nat → Option Nat) (y0 y1 y2 y3 y5 y6 y7 y8 y9 ya yb yc : Value) (h1 : Cel D H a (.inr (7, [y0, y1, y2, y3, .ref b9, y5, y6, y7, y8, y9, ya, yb, yc]))) (h2 : Cel D H b9 (.inl (ac 3, 4, .inr (.inr (.inr (.inr f)))))) (x : Int32) : ROq l yX7_handOf wsX7_handOf ({ frames := 0, cells := 0, slots := 0, locals := 0 }) [.ref a, .int x] D ac H (fun r => r = (ix x 4).bind f) := by
  refine Met.ofW (cc := cX7_handOf) (maxL := 2) (ret := (some (.object "TermGate$Order"))) (by decide) rfl ?_
  intro p e s m args below meth c s₁ B hml hv
  obtain ⟨hargs, hsz, hK⟩ := hv
  have hx := B.exec
  have hb := B.bytes
  have hr := B.returns
  have hts := atoms_spec (ws := wsX7_handOf) B.pre
  have hown : s.vm.findClass RX7 = some m.cls := findClass_of_methodNamed B.named
  have hlocks := B.notSynchronized
  subst hsz
  have inX7_ : ∀ w ∈ wsX70, w ∈ wsX7_handOf := by decide +kernel
  have hS : va_S (fun _ => False) s.heap s.heap [] := va_S.rf
  have hl := lv_entry ([.ref a, .int x]) (n := 2) (Nat.le_of_ble_eq_true rfl)
  have hen := lg_entry_eq m [.ref a, .int x] 2
  rw [← hargs] at hen
  rw [hen]
  generalize (lg_sl ([.ref a, .int x]) ++ List.replicate (2 - (lg_sl ([.ref a, .int x])).length) Slot.unset).toArray = ls at hl ⊢
  have hl : lv_has ls 2 [(0, .ref a), (1, .int x)] := hl
  refine lv_iload_n hx hb dX7_handOf_0 rfl (lv_at hl 1 rfl) ?_
  refine lv_if_lt (tgt := 22) hx hb dX7_handOf_1 (by decide) (fun c1 => ?_) (fun c1 => ?_)
  · refine lv_null hx hb dX7_handOf_22 ?_
    exact e_q (r := none) hx hb hlocks hr (Or.inl ⟨_, rfl⟩) dX7_handOf_23 hS (by first | (rw [ix_neg c1]; rfl) | (rw [ix_big c10]; rfl) | (rw [ix_some c1 c10]; rfl))
  · refine lv_iload_n hx hb dX7_handOf_4 rfl (lv_at hl 1 rfl) ?_
    refine lv_aload_n hx hb dX7_handOf_5 rfl (lv_at hl 0 rfl) ?_
    refine m_get (ci := 7) (C := RX7) (T := TX7) (n := 13) (v := .ref b9) hx hb hts inX7_ hown hK rfl h1 4 (by decide) (hts _ (by decide +kernel)) rfl dX7_handOf_6 ?_
    refine m_alen (v := 4) (ty := _) hx hb hK 3 h2 rfl (by first | rfl | decide) dX7_handOf_9 ?_
    refine lv_icmp_ge (tgt := 22) hx hb dX7_handOf_10 (by decide) (fun c10 => ?_) (fun c10 => ?_)
    · refine lv_null hx hb dX7_handOf_22 ?_
      exact e_q (r := none) hx hb hlocks hr (Or.inl ⟨_, rfl⟩) dX7_handOf_23 hS (by first | (rw [ix_neg c1]; rfl) | (rw [ix_big c10]; rfl) | (rw [ix_some c1 c10]; rfl))
    · refine lv_aload_n hx hb dX7_handOf_13 rfl (lv_at hl 0 rfl) ?_
      refine m_get (ci := 7) (C := RX7) (T := TX7) (n := 13) (v := .ref b9) hx hb hts inX7_ hown hK rfl h1 4 (by decide) (hts _ (by decide +kernel)) rfl dX7_handOf_14 ?_
      refine lv_iload_n hx hb dX7_handOf_17 rfl (lv_at hl 1 rfl) ?_
      refine m_aldq hx hb hK 3 h2 rfl (vin_a c1 c10 (by decide)) dX7_handOf_18 ?_
      refine lv_goto (tgt := 23) hx hb dX7_handOf_19 (by decide) ?_
      exact e_q (r := f x.toNatClampNeg) hx hb hlocks hr (Or.inl ⟨_, rfl⟩) dX7_handOf_23 hS (by first | (rw [ix_neg c1]; rfl) | (rw [ix_big c10]; rfl) | (rw [ix_some c1 c10]; rfl))
set_option maxHeartbeats 4000000 in
set_option maxRecDepth 100000 in
/-- X7_orderNumbered -/
theorem k_X7_orderNumbered (l : Launch) (D : va_G) (ac : Nat → ClassId) (H : Heap) (a b9 : Nat) (f : Nat → Option Nat) (y0 y1 y2 y3 y5 y6 y7 y8 y9 ya yb yc : Value) (h1 : Cel D H a (.inr (7, [y0, y1, y2, .ref b9, y3, y5, y6, y7, y8, y9, ya, yb, yc]))) (h2 : Cel D H b9 (.inl (ac 3, 60, .inr (.inr (.inr (.inr f)))))) (x : Int32) : ROq l yX7_orderNumbered wsX7_orderNumbered ({ frames := 0, cells := 0, slots := 0, locals := 0 }) [.ref a, .int x] D ac H (fun r => r = (ix x 60).bind f) := by
  refine Met.ofW (cc := cX7_orderNumbered) (maxL := 2) (ret := (some (.object "TermGate$Order"))) (by decide) rfl ?_
  intro p e s m args below meth c s₁ B hml hv
  obtain ⟨hargs, hsz, hK⟩ := hv
  have hx := B.exec
  have hb := B.bytes
  have hr := B.returns
  have hts := atoms_spec (ws := wsX7_orderNumbered) B.pre
  have hown : s.vm.findClass RX7 = some m.cls := findClass_of_methodNamed B.named
  have hlocks := B.notSynchronized
  subst hsz
  have inX7_ : ∀ w ∈ wsX70, w ∈ wsX7_orderNumbered := by decide +kernel
  have hS : va_S (fun _ => False) s.heap s.heap [] := va_S.rf
  have hl := lv_entry ([.ref a, .int x]) (n := 2) (Nat.le_of_ble_eq_true rfl)
  have hen := lg_entry_eq m [.ref a, .int x] 2
  rw [← hargs] at hen
  rw [hen]
  generalize (lg_sl ([.ref a, .int x]) ++ List.replicate (2 - (lg_sl ([.ref a, .int x])).length) Slot.unset).toArray = ls at hl ⊢
  have hl : lv_has ls 2 [(0, .ref a), (1, .int x)] := hl
  refine lv_iload_n hx hb dX7_orderNumbered_0 rfl (lv_at hl 1 rfl) ?_
  refine lv_if_lt (tgt := 22) hx hb dX7_orderNumbered_1 (by decide) (fun c1 => ?_) (fun c1 => ?_)
  · refine lv_null hx hb dX7_orderNumbered_22 ?_
    exact e_q (r := none) hx hb hlocks hr (Or.inl ⟨_, rfl⟩) dX7_orderNumbered_23 hS (by first | (rw [ix_neg c1]; rfl) | (rw [ix_big c10]; rfl) | (rw [ix_some c1 c10]; rfl))
  · refine lv_iload_n hx hb dX7_orderNumbered_4 rfl (lv_at hl 1 rfl) ?_
    refine lv_aload_n hx hb dX7_orderNumbered_5 rfl (lv_at hl 0 rfl) ?_
    refine m_get (ci := 7) (C := RX7) (T := TX7) (n := 13) (v := .ref b9) hx hb hts inX7_ hown hK rfl h1 3 (by decide) (hts _ (by decide +kernel)) rfl dX7_orderNumbered_6 ?_
    refine m_alen (v := 60) (ty := _) hx hb hK 3 h2 rfl (by first | rfl | decide) dX7_orderNumbered_9 ?_
    refine lv_icmp_ge (tgt := 22) hx hb dX7_orderNumbered_10 (by decide) (fun c10 => ?_) (fun c10 => ?_)
    · refine lv_null hx hb dX7_orderNumbered_22 ?_
      exact e_q (r := none) hx hb hlocks hr (Or.inl ⟨_, rfl⟩) dX7_orderNumbered_23 hS (by first | (rw [ix_neg c1]; rfl) | (rw [ix_big c10]; rfl) | (rw [ix_some c1 c10]; rfl))
    · refine lv_aload_n hx hb dX7_orderNumbered_13 rfl (lv_at hl 0 rfl) ?_
      refine m_get (ci := 7) (C := RX7) (T := TX7) (n := 13) (v := .ref b9) hx hb hts inX7_ hown hK rfl h1 3 (by decide) (hts _ (by decide +kernel)) rfl dX7_orderNumbered_14 ?_
      refine lv_iload_n hx hb dX7_orderNumbered_17 rfl (lv_at hl 1 rfl) ?_
      refine m_aldq hx hb hK 3 h2 rfl (vin_a c1 c10 (by decide)) dX7_orderNumbered_18 ?_
      refine lv_goto (tgt := 23) hx hb dX7_orderNumbered_19 (by decide) ?_
      exact e_q (r := f x.toNatClampNeg) hx hb hlocks hr (Or.inl ⟨_, rfl⟩) dX7_orderNumbered_23 hS (by first | (rw [ix_neg c1]; rfl) | (rw [ix_big c10]; rfl) | (rw [ix_some c1 c10]; rfl))
theorem onum_eq {adr : Nat → Nat} {no : Nat} {x : Int32} (h : no ≤ 60) : (ix x 60).bind (oref adr no) = (ix x no).map (fun i => adr (22 + 6 * i)) := by
  rcases hi : ix x no with _ | i
  · rcases hj : ix x 60 with _ | j
    · rfl
    · obtain ⟨q1, q2⟩ := ix_of hj (by decide)
      subst q2
      rcases ix_none hi with q | q
      · exact absurd q (nI_pos (by omega))
      · have := le_le q (by omega) (by omega)
        show oref adr no j = none
        unfold oref
        rw [if_neg (by omega)]
  · obtain ⟨q1, q2⟩ := ix_of hi (by omega)
    subst q2
    rw [ix_nI (by omega) (by decide)]
    show oref adr no i = _
    unfold oref
    rw [if_pos q1]
    rfl
theorem hand_eq {adr : Nat → Nat} {hd : Nat → Option Nat} {x : Int32} : (ix x 4).bind (href adr hd) = ((ix x 4).bind hd).map (fun o => adr (22 + 6 * o)) := by
  rcases ix x 4 with _ | t
  · rfl
  · rfl
theorem hd_of {hd : Nat → Option Nat} {x : Int32} {o : Nat} (h : (ix x 4).bind hd = some o) : ∃ t, t < 4 ∧ x = nI t ∧ hd t = some o := by
  rcases hi : ix x 4 with _ | t
  · rw [hi] at h; cases h
  · rw [hi] at h
    obtain ⟨q1, q2⟩ := ix_of hi (by decide)
    exact ⟨t, q1, q2, h⟩
set_option maxHeartbeats 4000000 in
set_option maxRecDepth 100000 in
/-- orderInHandOf -/
theorem k_X7_orderInHandOf (l : Launch) (D : va_G) (ac : Nat → ClassId) (H : Heap) (hlt : l.stackTraces = false) (A : Nat → Prop) (N : Nat) (adr : Nat → Nat) (w : Nat → va_E) (hM : MW D A N adr w H) (dl : Nat) (dw : Nat → Nat) (fs : Nat → Int32) (fr : Nat → Int32) (ft : Nat → Nat) (ns : Nat) (so : Nat → Nat) (hv : Nat → Int64) (nd : Nat) (du : Nat → Nat) (T : Nat → Int32) (nr : Nat) (rq : Nat → Nat) (nq : Nat) (oq : Nat → Nat) (pd : Nat → Int32) (er : Nat → Int32) (no : Nat) (oc : Nat → Nat) (on_ : Nat → Nat) (owd : Nat → Nat → Nat) (obf : Nat → Nat → Int32) (rb : Nat → Int32) (st : Nat → Int32) (mt : Nat → Int32) (co : Nat → Int32) (py : Nat → Int32) (hd : Nat → Option Nat) (le : Int32) (pr : Int32) (ra : Int32) (hR : HR ac adr w dl dw fs fr ft ns so hv nd du T nr rq nq oq pd er no oc on_ owd obf rb st mt co py hd le pr ra) (hN : 22 + 6 * no ≤ N) (x : Int32) : WXr l yX7_orderInHandOf wsX7_orderInHandOf ({ frames := 7, cells := 2, slots := 12, locals := 109 }) [.ref (adr 0), .int x] D ac H A N adr w (fun r w1 => ∃ o, (ix x 4).bind hd = some o ∧ r = some (adr (22 + 6 * o)) ∧ w1 = w) (XC2 xIA xIS (cd2 (ix x 4).isNone ((ix x 4).bind hd).isNone)) 2 12 := by
  refine vx_ofW (cc := cX7_orderInHandOf) (maxL := 3) (ret := (some (.object "TermGate$Order"))) (by decide) rfl ?_
  intro p e s m args below meth c s₁ B hml hout hv
  obtain ⟨hargs, hsz, hK, hX⟩ := hv
  have hx := B.exec
  have hb := B.bytes
  have hr := B.returns
  have hts := atoms_spec (ws := wsX7_orderInHandOf) B.pre
  have hown : s.vm.findClass RX7 = some m.cls := findClass_of_methodNamed B.named
  have hlocks := B.notSynchronized
  subst hsz
  have hgIS_ : ∀ w ∈ (vx_at0 RX7 77 xIS xNames).filter goodWord, w ∈ wsX7_orderInHandOf := by decide +kernel
  have hS : va_S A s.heap s.heap [] := va_S.rf
  have hl := lv_entry ([.ref (adr 0), .int x]) (n := 3) (Nat.le_of_ble_eq_true rfl)
  have hen := lg_entry_eq m [.ref (adr 0), .int x] 3
  rw [← hargs] at hen
  rw [hen]
  generalize (lg_sl ([.ref (adr 0), .int x]) ++ List.replicate (3 - (lg_sl ([.ref (adr 0), .int x])).length) Slot.unset).toArray = ls at hl ⊢
  have hl : lv_has ls 3 [(0, .ref (adr 0)), (1, .int x)] := hl
  obtain ⟨h0, hdr, hru, hm, hS1, hO1, hde, hha, hmo, hin_⟩ := id hR
  refine lv_iload_n hx hb dX7_orderInHandOf_0 rfl (lv_at hl 1 rfl) ?_
  refine x_callv hlocks hout (vx_runS (As := [.int x]) (rest := []) ⟨hx, hb, hml, hown, hts⟩ (k_X7_refuseUnlessTranslator l D ac _ hlt A N adr w hM x) (va_cwS 1 hts gX7_orderInHandOf_X7_refuseUnlessTranslator rfl rfl rfl (by decide +kernel) ⟨(Nat.le_of_ble_eq_true rfl), (Nat.le_of_ble_eq_true rfl)⟩) (pSX hK (hX.at hS)) rfl rfl hl.1 rfl (lv_room (Nat.le_of_ble_eq_true rfl)) dX7_orderInHandOf_1 ⟨(Nat.le_of_ble_eq_true rfl), (Nat.le_of_ble_eq_true rfl)⟩) hS (fun E h => Or.inl ⟨h.1, by unfold cd2; rw [h.2]; rfl⟩) (Nat.le_of_ble_eq_true rfl) (Nat.le_of_ble_eq_true rfl) (fun w_2 H locs hw_2 hM hS => ?_)
  obtain ⟨⟨k9, hk_k9, ex_k9⟩, e9_⟩ := hw_2
  obtain rfl := e9_.symm
  refine lv_aload_n hx hb dX7_orderInHandOf_4 rfl (lv_at hl 0 rfl) ?_
  refine lv_iload_n hx hb dX7_orderInHandOf_5 rfl (lv_at hl 1 rfl) ?_
  refine r_callq (va_runV (As := [.int x]) (rest := []) ⟨hx, hb, hml, hown, hts⟩ (k_X7_handOf l D ac _ (adr 0) (adr 15) (href adr hd) (.ref (adr 1)) (.ref (adr 3)) (.ref (adr 7)) (.ref (adr 14)) (.ref (adr 16)) (.ref (adr 18)) (.ref (adr 20)) (.ref (adr 21)) (.int (nI no)) (.int le) (.int pr) (.int ra) (hM.cel (by omega) h0) (hM.cel (by omega) hha.2.1) x) (cwV 1 hts gX7_orderInHandOf_X7_handOf rfl rfl rfl (by decide +kernel) ⟨Nat.le_of_ble_eq_true rfl, Nat.le_of_ble_eq_true rfl⟩) (pV hK (ci := 7) rfl (hM.cel (by omega) h0)) rfl rfl hl.1 rfl (lv_room (Nat.le_of_ble_eq_true rfl)) dX7_orderInHandOf_6 ⟨Nat.le_of_ble_eq_true rfl, Nat.le_of_ble_eq_true rfl⟩) hS (fun rv_3 locs hrv_3 hS => ?_)
  subst hrv_3
  refine m_topq (show _ = ((ix x 4).bind hd).map (fun o => adr (22 + 6 * o)) from hand_eq) ?_
  rcases hi : (ix x 4).bind hd with _ | jhi
  · refine m_topn ?_
    refine lv_astore_nN (lv' := [(2, .null), (0, .ref (adr 0)), (1, .int x)]) hx hb dX7_orderInHandOf_9 rfl hl (by decide) rfl (fun ls hl => ?_)
    refine lv_aload_nN hx hb dX7_orderInHandOf_10 rfl (lv_at hl 0 rfl) ?_
    refine lv_ifnonnullN hx hb dX7_orderInHandOf_11 ?_
    exact x_throw hx hb hlt hlocks hout hown (by decide) (hts _ (by decide +kernel)) (hts _ (by decide +kernel)) (fun w hw => hts w (hgIS_ w hw)) ng_IS ot_IS hX hM hS (hl.1.trans hml.symm) dX7_orderInHandOf_14 dX7_orderInHandOf_17 dX7_orderInHandOf_18 dX7_orderInHandOf_21 (Nat.le_of_ble_eq_true rfl) (Nat.le_of_ble_eq_true rfl) (Nat.le_of_ble_eq_true rfl) (Nat.le_of_ble_eq_true rfl) (Nat.le_of_ble_eq_true rfl) (Nat.le_of_ble_eq_true rfl) (Or.inr ⟨rfl, by unfold cd2; rw [ixs hk_k9 (by decide) ex_k9]; first | rfl | (rw [hi]; rfl)⟩)
  · refine m_topr ?_
    refine lv_astore_n (lv' := [(2, .ref (adr (22 + 6 * jhi))), (0, .ref (adr 0)), (1, .int x)]) hx hb dX7_orderInHandOf_9 rfl hl (by decide) rfl (fun ls hl => ?_)
    refine lv_aload_n hx hb dX7_orderInHandOf_10 rfl (lv_at hl 0 rfl) ?_
    refine lv_ifnonnull (tgt := 22) hx hb dX7_orderInHandOf_11 (by decide) ?_
    refine lv_aload_n hx hb dX7_orderInHandOf_22 rfl (lv_at hl 0 rfl) ?_
    exact ex_q (r := some (adr (22 + 6 * jhi))) hx hb hlocks hr (Or.inl ⟨_, rfl⟩) dX7_orderInHandOf_23 (Nat.le_of_ble_eq_true rfl) (Nat.le_of_ble_eq_true rfl) hM hS (by first | exact ⟨jhi, rfl, rfl, rfl⟩ | exact ⟨jhi, hi, rfl, rfl⟩)
set_option maxHeartbeats 4000000 in
set_option maxRecDepth 100000 in
/-- deskFor -/
theorem k_X7_deskFor (l : Launch) (D : va_G) (ac : Nat → ClassId) (H : Heap) (a b5 b6 : Nat) (y0 y1 y2 y3 y4 y7 y8 y9 ya yb yc : Value) (h1 : Cel D H a (.inr (7, [y0, y1, y2, y3, y4, .ref b5, .ref b6, y7, y8, y9, ya, yb, yc]))) (x : Int32) : ROq l yX7_deskFor wsX7_deskFor ({ frames := 0, cells := 0, slots := 0, locals := 0 }) [.ref a, .int x] D ac H (fun r => r = if x = 0 then some b6 else some b5) := by
  refine Met.ofW (cc := cX7_deskFor) (maxL := 2) (ret := (some (.object "TermGate$Line"))) (by decide) rfl ?_
  intro p e s m args below meth c s₁ B hml hv
  obtain ⟨hargs, hsz, hK⟩ := hv
  have hx := B.exec
  have hb := B.bytes
  have hr := B.returns
  have hts := atoms_spec (ws := wsX7_deskFor) B.pre
  have hown : s.vm.findClass RX7 = some m.cls := findClass_of_methodNamed B.named
  have hlocks := B.notSynchronized
  subst hsz
  have inX7_ : ∀ w ∈ wsX70, w ∈ wsX7_deskFor := by decide +kernel
  have hS : va_S (fun _ => False) s.heap s.heap [] := va_S.rf
  have hl := lv_entry ([.ref a, .int x]) (n := 2) (Nat.le_of_ble_eq_true rfl)
  have hen := lg_entry_eq m [.ref a, .int x] 2
  rw [← hargs] at hen
  rw [hen]
  generalize (lg_sl ([.ref a, .int x]) ++ List.replicate (2 - (lg_sl ([.ref a, .int x])).length) Slot.unset).toArray = ls at hl ⊢
  have hl : lv_has ls 2 [(0, .ref a), (1, .int x)] := hl
  refine lv_iload_n hx hb dX7_deskFor_0 rfl (lv_at hl 1 rfl) ?_
  refine lv_if_eq (tgt := 11) hx hb dX7_deskFor_1 (by decide) (fun c1 => ?_) (fun c1 => ?_)
  · refine lv_aload_n hx hb dX7_deskFor_11 rfl (lv_at hl 0 rfl) ?_
    refine m_get (ci := 7) (C := RX7) (T := TX7) (n := 13) (v := .ref b6) hx hb hts inX7_ hown hK rfl h1 6 (by decide) (hts _ (by decide +kernel)) rfl dX7_deskFor_12 ?_
    exact e_q (r := some b6) hx hb hlocks hr (Or.inl ⟨_, rfl⟩) dX7_deskFor_15 hS (by first | rw [if_pos c1] | rw [if_neg c1])
  · refine lv_aload_n hx hb dX7_deskFor_4 rfl (lv_at hl 0 rfl) ?_
    refine m_get (ci := 7) (C := RX7) (T := TX7) (n := 13) (v := .ref b5) hx hb hts inX7_ hown hK rfl h1 5 (by decide) (hts _ (by decide +kernel)) rfl dX7_deskFor_5 ?_
    refine lv_goto (tgt := 15) hx hb dX7_deskFor_8 (by decide) ?_
    exact e_q (r := some b5) hx hb hlocks hr (Or.inl ⟨_, rfl⟩) dX7_deskFor_15 hS (by first | rw [if_pos c1] | rw [if_neg c1])
/-- what an order costs -/
def cstI (n pr sh b : Int32) : Int32 := if b = 0 then n * pr * sh / 100 else n * pr * sh / 100 + n * pr * sh / 100 / 2
set_option maxHeartbeats 4000000 in
set_option maxRecDepth 100000 in
/-- costOf -/
theorem k_X7_costOf (l : Launch) (D : va_G) (ac : Nat → ClassId) (H : Heap) (a : Nat) (y0 y1 y2 y3 y4 y5 y6 y7 y8 y9 ya yc : Value) (pr : Int32) (h1 : Cel D H a (.inr (7, [y0, y1, y2, y3, y4, y5, y6, y7, y8, y9, ya, .int pr, yc]))) (x z b : Int32) : ROi l yX7_costOf wsX7_costOf ({ frames := 0, cells := 0, slots := 0, locals := 0 }) [.ref a, .int x, .int z, .int b] D ac H (fun r => r = cstI x pr z b) := by
  refine Met.ofW (cc := cX7_costOf) (maxL := 5) (ret := (some .int)) (by decide) rfl ?_
  intro p e s m args below meth c s₁ B hml hv
  obtain ⟨hargs, hsz, hK⟩ := hv
  have hx := B.exec
  have hb := B.bytes
  have hr := B.returns
  have hts := atoms_spec (ws := wsX7_costOf) B.pre
  have hown : s.vm.findClass RX7 = some m.cls := findClass_of_methodNamed B.named
  have hlocks := B.notSynchronized
  subst hsz
  have inX7_ : ∀ w ∈ wsX70, w ∈ wsX7_costOf := by decide +kernel
  have hS : va_S (fun _ => False) s.heap s.heap [] := va_S.rf
  have hl := lv_entry ([.ref a, .int x, .int z, .int b]) (n := 5) (Nat.le_of_ble_eq_true rfl)
  have hen := lg_entry_eq m [.ref a, .int x, .int z, .int b] 5
  rw [← hargs] at hen
  rw [hen]
  generalize (lg_sl ([.ref a, .int x, .int z, .int b]) ++ List.replicate (5 - (lg_sl ([.ref a, .int x, .int z, .int b])).length) Slot.unset).toArray = ls at hl ⊢
  have hl : lv_has ls 5 [(0, .ref a), (1, .int x), (2, .int z), (3, .int b)] := hl
  refine lv_iload_n hx hb dX7_costOf_0 rfl (lv_at hl 1 rfl) ?_
  refine lv_aload_n hx hb dX7_costOf_1 rfl (lv_at hl 0 rfl) ?_
  refine m_get (ci := 7) (C := RX7) (T := TX7) (n := 13) (v := .int pr) hx hb hts inX7_ hown hK rfl h1 11 (by decide) (hts _ (by decide +kernel)) rfl dX7_costOf_2 ?_
  refine lv_imul hx hb dX7_costOf_5 ?_
  refine lv_iload_n hx hb dX7_costOf_6 rfl (lv_at hl 2 rfl) ?_
  refine lv_imul hx hb dX7_costOf_7 ?_
  refine lv_bipush (v := 100) hx hb dX7_costOf_8 (by decide) ?_
  refine lv_idiv hx hb dX7_costOf_10 (by decide) ?_
  refine lv_istore (lv' := [(4, .int (((x * pr) * z) / 100)), (0, .ref a), (1, .int x), (2, .int z), (3, .int b)]) hx hb dX7_costOf_11 hl (by decide) rfl (fun ls hl => ?_)
  refine lv_iload_n hx hb dX7_costOf_13 rfl (lv_at hl 4 rfl) ?_
  refine lv_if_eq (tgt := 27) hx hb dX7_costOf_14 (by decide) (fun c14 => ?_) (fun c14 => ?_)
  · refine lv_iload hx hb dX7_costOf_27 (lv_at hl 0 rfl) ?_
    exact e_i hx hb hlocks hr dX7_costOf_29 hS (by unfold cstI; first | rw [if_pos c14] | rw [if_neg c14])
  · refine lv_iload hx hb dX7_costOf_17 (lv_at hl 0 rfl) ?_
    refine lv_iload hx hb dX7_costOf_19 (lv_at hl 0 rfl) ?_
    refine lv_iconst (v := 2) hx hb dX7_costOf_21 (by decide) ?_
    refine lv_idiv hx hb dX7_costOf_22 (by decide) ?_
    refine lv_iadd hx hb dX7_costOf_23 ?_
    refine lv_goto (tgt := 29) hx hb dX7_costOf_24 (by decide) ?_
    exact e_i hx hb hlocks hr dX7_costOf_29 hS (by unfold cstI; first | rw [if_pos c14] | rw [if_neg c14])
/-- what a word that is mended costs -/
def mpI (at_ i : Int32) : Int32 := if i < at_ then 3 else -5
set_option maxHeartbeats 4000000 in
set_option maxRecDepth 100000 in
/-- mendingPrice -/
theorem k_X7_mendingPrice (l : Launch) (D : va_G) (ac : Nat → ClassId) (H : Heap) (a : Nat) (y0 y2 y3 y4 y5 y6 y7 y8 y9 ya yb yc : Value) (u u1 u2 u3 : Nat) (fs fr ft : Nat → Int32) (h5 : RulC D ac H u u1 u2 u3 fs fr ft) (h1 : Cel D H a (.inr (7, [y0, .ref u, y2, y3, y4, y5, y6, y7, y8, y9, ya, yb, yc]))) (i : Int32) (k j : Nat) (hk : k < 4) (hj : j < 50) : ROi l yX7_mendingPrice wsX7_mendingPrice ({ frames := 2, cells := 0, slots := 0, locals := 45 }) [.ref a, .int i, .int (nI k), .int (nI j)] D ac H (fun r => r = mpI (ft (k * 50 + j)) i) := by
  refine Met.ofW (cc := cX7_mendingPrice) (maxL := 4) (ret := (some .int)) (by decide) rfl ?_
  intro p e s m args below meth c s₁ B hml hv
  obtain ⟨hargs, hsz, hK⟩ := hv
  have hx := B.exec
  have hb := B.bytes
  have hr := B.returns
  have hts := atoms_spec (ws := wsX7_mendingPrice) B.pre
  have hown : s.vm.findClass RX7 = some m.cls := findClass_of_methodNamed B.named
  have hlocks := B.notSynchronized
  subst hsz
  have inX7_ : ∀ w ∈ wsX70, w ∈ wsX7_mendingPrice := by decide +kernel
  have hS : va_S (fun _ => False) s.heap s.heap [] := va_S.rf
  have hl := lv_entry ([.ref a, .int i, .int (nI k), .int (nI j)]) (n := 4) (Nat.le_of_ble_eq_true rfl)
  have hen := lg_entry_eq m [.ref a, .int i, .int (nI k), .int (nI j)] 4
  rw [← hargs] at hen
  rw [hen]
  generalize (lg_sl ([.ref a, .int i, .int (nI k), .int (nI j)]) ++ List.replicate (4 - (lg_sl ([.ref a, .int i, .int (nI k), .int (nI j)])).length) Slot.unset).toArray = ls at hl ⊢
  have hl : lv_has ls 4 [(0, .ref a), (1, .int i), (2, .int (nI k)), (3, .int (nI j))] := hl
  refine lv_aload_n hx hb dX7_mendingPrice_0 rfl (lv_at hl 0 rfl) ?_
  refine m_get (ci := 7) (C := RX7) (T := TX7) (n := 13) (v := .ref u) hx hb hts inX7_ hown hK rfl h1 1 (by decide) (hts _ (by decide +kernel)) rfl dX7_mendingPrice_1 ?_
  refine lv_iload_n hx hb dX7_mendingPrice_4 rfl (lv_at hl 2 rfl) ?_
  refine lv_iload_n hx hb dX7_mendingPrice_5 rfl (lv_at hl 3 rfl) ?_
  refine r_calli (va_runV (As := [.int (nI k), .int (nI j)]) (rest := []) ⟨hx, hb, hml, hown, hts⟩ (k_X5_soldAtChange l D ac _ u u1 u2 u3 fs fr ft ⟨h5.1, h5.2.1, h5.2.2.1, h5.2.2.2⟩ k j (by omega) (by omega)) (cwV 2 hts gX7_mendingPrice_X5_soldAtChange rfl rfl rfl (by decide +kernel) ⟨Nat.le_of_ble_eq_true rfl, Nat.le_of_ble_eq_true rfl⟩) (pV hK (ci := 5) rfl h5.1) rfl rfl hl.1 rfl (lv_room (Nat.le_of_ble_eq_true rfl)) dX7_mendingPrice_6 ⟨Nat.le_of_ble_eq_true rfl, Nat.le_of_ble_eq_true rfl⟩) hS (fun rv_1 locs hrv_1 hS => ?_)
  subst hrv_1
  refine lv_iload_n hx hb dX7_mendingPrice_9 rfl (lv_at hl 1 rfl) ?_
  refine lv_icmp_gt (tgt := 18) hx hb dX7_mendingPrice_10 (by decide) (fun c10 => ?_) (fun c10 => ?_)
  · refine lv_iconst (v := 3) hx hb dX7_mendingPrice_18 (by decide) ?_
    exact e_i hx hb hlocks hr dX7_mendingPrice_19 hS (by unfold mpI; first | rw [if_pos c10] | rw [if_neg c10])
  · refine lv_bipush (v := (-5)) hx hb dX7_mendingPrice_13 (by decide) ?_
    refine lv_goto (tgt := 19) hx hb dX7_mendingPrice_15 (by decide) ?_
    exact e_i hx hb hlocks hr dX7_mendingPrice_19 hS (by unfold mpI; first | rw [if_pos c10] | rw [if_neg c10])
set_option maxHeartbeats 4000000 in
set_option maxRecDepth 100000 in
/-- addTo -/
theorem k_X7_addTo (l : Launch) (D : va_G) (ac : Nat → ClassId) (H : Heap) (A : Nat → Prop) (N : Nat) (adr : Nat → Nat) (w : Nat → va_E) (hM : MW D A N adr w H) (a : Nat) (ha : a < N) (f : Nat → Int32) (h1 : w a = .inl (ac 0, 4, .inl f)) (k : Nat) (hk : k < 4) (y : Int32) : WRv l yX7_addTo wsX7_addTo ({ frames := 0, cells := 0, slots := 0, locals := 0 }) [.ref (adr a), .int (nI k), .int y] D ac H A N adr (fun w1 => w1 = va_up w a (.inl (ac 0, 4, .inl (upd f k (f k + y))))) := by
  refine Met.ofW (cc := cX7_addTo) (maxL := 3) (ret := none) (by decide) rfl ?_
  intro p e s m args below meth c s₁ B hml hv
  obtain ⟨hargs, hsz, hK⟩ := hv
  have hx := B.exec
  have hb := B.bytes
  have hr := B.returns
  have hts := atoms_spec (ws := wsX7_addTo) B.pre
  have hown : s.vm.findClass RX7 = some m.cls := findClass_of_methodNamed B.named
  have hlocks := B.notSynchronized
  subst hsz
  have hS : va_S A s.heap s.heap [] := va_S.rf
  have hl := lv_entry ([.ref (adr a), .int (nI k), .int y]) (n := 3) (Nat.le_of_ble_eq_true rfl)
  have hen := lg_entry_eq m [.ref (adr a), .int (nI k), .int y] 3
  rw [← hargs] at hen
  rw [hen]
  generalize (lg_sl ([.ref (adr a), .int (nI k), .int y]) ++ List.replicate (3 - (lg_sl ([.ref (adr a), .int (nI k), .int y])).length) Slot.unset).toArray = ls at hl ⊢
  have hl : lv_has ls 3 [(0, .ref (adr a)), (1, .int (nI k)), (2, .int y)] := hl
  refine lv_iload_n hx hb dX7_addTo_0 rfl (lv_at hl 1 rfl) ?_
  refine lv_if_lt (tgt := 17) hx hb dX7_addTo_1 (by decide) (fun c1 => ?_) (fun c1 => ?_)
  · exact absurd c1 (nI_pos (by omega))
  · refine lv_iload_n hx hb dX7_addTo_4 rfl (lv_at hl 1 rfl) ?_
    refine lv_aload_n hx hb dX7_addTo_5 rfl (lv_at hl 0 rfl) ?_
    refine m_alen (v := 4) (ty := _) hx hb hK 0 (hM.cel ha h1) rfl (by first | rfl | decide) dX7_addTo_6 ?_
    refine lv_icmp_ge (tgt := 17) hx hb dX7_addTo_7 (by decide) (fun c7 => ?_) (fun c7 => ?_)
    · exact absurd (le_le (a := 4) c7 (by omega) (by omega)) (by omega)
    · refine lv_aload_n hx hb dX7_addTo_10 rfl (lv_at hl 0 rfl) ?_
      refine lv_iload_n hx hb dX7_addTo_11 rfl (lv_at hl 1 rfl) ?_
      refine lv_dup2_11 hx hb dX7_addTo_12 rfl rfl ?_
      refine m_iald hx hb hK (hM.cel ha h1) (vp_in_nI (by omega) (by decide)) dX7_addTo_13 ?_
      refine m_top (show (f (nI k).toNatClampNeg) = f k from by rw [nI_clamp (by omega)]) ?_
      refine lv_iload_n hx hb dX7_addTo_14 rfl (lv_at hl 2 rfl) ?_
      refine lv_iadd hx hb dX7_addTo_15 ?_
      refine m_iast hx hb hK hM hS a ha h1 (vp_in_nI (by omega) (by decide)) dX7_addTo_16 (fun H locs hM hS => ?_)
      have ef_ : (upd f (nI k).toNatClampNeg ((f k) + y)) = upd f k (f k + y) := by rw [nI_clamp (by omega)]
      rw [ef_] at hM
      clear ef_
      obtain ⟨w_2, ew_2⟩ : ∃ z, z = va_up w a (.inl (ac 0, 4, .inl (upd f k (f k + y)))) := ⟨_, rfl⟩
      rw [← ew_2] at hM
      have h_3 : w_2 a = .inl (ac 0, 4, .inl (upd f k (f k + y))) := by rw [ew_2]; exact va_up_self _ _ _
      exact e_wv hx hb hlocks hr dX7_addTo_17 hM hS (by subst_vars; rfl)
def sm4 (f : Nat → Int32) : Nat → Int32
  | 0 => 0
  | n + 1 => sm4 f n + f n
set_option maxHeartbeats 4000000 in
set_option maxRecDepth 100000 in
/-- sumOf -/
theorem k_X7_sumOf (l : Launch) (D : va_G) (ac : Nat → ClassId) (H : Heap) (a : Nat) (f : Nat → Int32) (h1 : Cel D H a (.inl (ac 0, 4, .inl f))) : ROi l yX7_sumOf wsX7_sumOf ({ frames := 0, cells := 0, slots := 0, locals := 0 }) [.ref a] D ac H (fun r => r = sm4 f 4) := by
  refine Met.ofW (cc := cX7_sumOf) (maxL := 6) (ret := (some .int)) (by decide) rfl ?_
  intro p e s m args below meth c s₁ B hml hv
  obtain ⟨hargs, hsz, hK⟩ := hv
  have hx := B.exec
  have hb := B.bytes
  have hr := B.returns
  have hts := atoms_spec (ws := wsX7_sumOf) B.pre
  have hown : s.vm.findClass RX7 = some m.cls := findClass_of_methodNamed B.named
  have hlocks := B.notSynchronized
  subst hsz
  have hS : va_S (fun _ => False) s.heap s.heap [] := va_S.rf
  have hl := lv_entry ([.ref a]) (n := 6) (Nat.le_of_ble_eq_true rfl)
  have hen := lg_entry_eq m [.ref a] 6
  rw [← hargs] at hen
  rw [hen]
  generalize (lg_sl ([.ref a]) ++ List.replicate (6 - (lg_sl ([.ref a])).length) Slot.unset).toArray = ls at hl ⊢
  have hl : lv_has ls 6 [(0, .ref a)] := hl
  obtain ⟨Q0, hQ0⟩ : ∃ z, z = MQ below (va_Qi (fun r (_ : Unit) => (fun r => r = sm4 f 4) r) (fun _ t => t.heap = s.heap) (fun _ => False)) args s 0 0 (fun _ => False) := ⟨_, rfl⟩
  rw [← hQ0]
  refine lv_iconst (v := 0) hx hb dX7_sumOf_0 (by decide) ?_
  refine lv_istore_n (lv' := [(1, .int 0), (0, .ref a)]) hx hb dX7_sumOf_1 rfl hl (by decide) rfl (fun ls hl => ?_)
  refine lv_aload_n hx hb dX7_sumOf_2 rfl (lv_at hl 1 rfl) ?_
  refine lv_astore_n (lv' := [(2, .ref a), (1, .int 0), (0, .ref a)]) hx hb dX7_sumOf_3 rfl hl (by decide) rfl (fun ls hl => ?_)
  refine lv_aload_n hx hb dX7_sumOf_4 rfl (lv_at hl 0 rfl) ?_
  refine m_alen (v := 4) (ty := _) hx hb hK 0 h1 rfl (by first | rfl | decide) dX7_sumOf_5 ?_
  refine lv_istore_n (lv' := [(3, .int 4), (2, .ref a), (1, .int 0), (0, .ref a)]) hx hb dX7_sumOf_6 rfl hl (by decide) rfl (fun ls hl => ?_)
  refine lv_iconst (v := 0) hx hb dX7_sumOf_7 (by decide) ?_
  refine lv_istore (lv' := [(4, .int 0), (3, .int 4), (2, .ref a), (1, .int 0), (0, .ref a)]) hx hb dX7_sumOf_8 hl (by decide) rfl (fun ls hl => ?_)
  have L10 : ∀ (k9 : Nat) (i : Nat) (hk : 4 - i < k9) (hi : i ≤ 4) (locs : List Loc) (hS : va_S (fun _ => False) s.heap s.heap locs) (ls : Array Slot) (hl : lv_has ls 6 [(0, .ref a), (1, .int (sm4 f i)), (2, .ref a), (3, .int 4), (4, .int (nI i))]), W p l e (headSpec wsX7_sumOf ({ frames := 0, cells := 0, slots := 0, locals := 0 })).room s m args below meth c s.heap locs 0 0 Q0 (F0 m 10 ls []) := by
    intro k9
    induction k9 with
    | zero => intro i hk hi locs hS ls hl; exact absurd hk (Nat.not_lt_zero _)
    | succ k9 ih10 =>
      intro i hk hi locs hS ls hl
      refine lv_iload hx hb dX7_sumOf_10 (lv_at hl 4 rfl) ?_
      refine lv_iload_n hx hb dX7_sumOf_12 rfl (lv_at hl 3 rfl) ?_
      refine lv_icmp_ge (tgt := 33) hx hb dX7_sumOf_13 (by decide) (fun c13 => ?_) (fun c13 => ?_)
      · have hin : i = 4 := by have := le_le (a := 4) c13 (by omega) (by omega); omega
        refine lv_iload_n hx hb dX7_sumOf_33 rfl (lv_at hl 1 rfl) ?_
        rw [hQ0]
        exact e_i hx hb hlocks hr dX7_sumOf_34 hS (by rw [hin])
      · have hin : i < 4 := nle_lt (a := 4) c13 (by omega) (by omega)
        refine lv_aload_n hx hb dX7_sumOf_16 rfl (lv_at hl 2 rfl) ?_
        refine lv_iload hx hb dX7_sumOf_17 (lv_at hl 4 rfl) ?_
        refine m_iald hx hb hK h1 (vp_in_nI (by omega) (by decide)) dX7_sumOf_19 ?_
        refine m_top (show (f (nI i).toNatClampNeg) = f i from by rw [nI_clamp (by omega)]) ?_
        refine lv_istore (lv' := [(5, .int (f i)), (0, .ref a), (1, .int (sm4 f i)), (2, .ref a), (3, .int 4), (4, .int (nI i))]) hx hb dX7_sumOf_20 hl (by decide) rfl (fun ls hl => ?_)
        refine lv_iload_n hx hb dX7_sumOf_22 rfl (lv_at hl 2 rfl) ?_
        refine lv_iload hx hb dX7_sumOf_23 (lv_at hl 0 rfl) ?_
        refine lv_iadd hx hb dX7_sumOf_25 ?_
        refine m_top (show ((sm4 f i) + (f i)) = sm4 f (i + 1) from rfl) ?_
        refine lv_istore_n (lv' := [(1, .int (sm4 f (i + 1))), (5, .int (f i)), (0, .ref a), (2, .ref a), (3, .int 4), (4, .int (nI i))]) hx hb dX7_sumOf_26 rfl hl (by decide) rfl (fun ls hl => ?_)
        refine lv_iinc (v := nI (i + 1)) (lv' := [(4, .int (nI (i + 1))), (1, .int (sm4 f (i + 1))), (5, .int (f i)), (0, .ref a), (2, .ref a), (3, .int 4)]) hx hb dX7_sumOf_27 hl (k := 5) rfl (nI_1 _) (by decide) rfl (fun ls hl => ?_)
        refine lv_goto (tgt := 10) hx hb dX7_sumOf_30 (by decide) ?_
        exact ih10 (i + 1) (by omega) (by omega) _ hS ls (lv_sub hl [3, 1, 4, 5, 0] rfl)
  exact L10 _ 0 (Nat.lt_succ_self _) (Nat.zero_le _) _ hS ls (lv_sub hl [4, 3, 2, 1, 0] rfl)
