def ciP (post : Int32 → (Nat → Nat) → (Nat → va_E) → Prop) (r : Int32) (u : (Nat → Nat) × (Nat → va_E)) : Prop := post r u.1 u.2
abbrev WXo (l : Launch) (y : MethodName) (ws : List Cond) (rm : Room) (av : List Value) (D : va_G) (ac : Nat → ClassId) (H : Heap) (A : Nat → Prop) (N : Nat) (adr : Nat → Nat) (w : Nat → va_E) (N2 : Nat) (post : Int32 → (Nat → Nat) → (Nat → va_E) → Prop) (xp : String → Prop) (mc ms : Nat) : Prop := vx_Met l y ws rm (XPre D ac H A av) (va_Qi (ciP post) (fun u t => MW D A N2 u.1 u.2 t.heap) A) (XOut D A N adr w xp) mc ms A
theorem ex_oi {p : Program} {l : Launch} {e : Env} {R : Room} {s : State} {m : MethodId} {args : Array Value} {below : List Frame} {meth : Method} {c : Code} {H : Heap} {locs : List Loc} {cells slots : Nat} {cc : ByteArray} {pc : Nat} {ls : Array Slot} {D : va_G} {A : Nat → Prop} {N2 : Nat} {adr1 : Nat → Nat} {w1 : Nat → va_E} {mc ms : Nat}
    {post : Int32 → (Nat → Nat) → (Nat → va_E) → Prop} {XC : String → State → State → Prop} {v : Int32} (hx : p.tables.exec = Jvm.exec) (hb : c.code = cc) (hlocks : meth.locks = false) (hr : meth.sig.returnType = some .int) (hdg : decode cc pc = .ok (.ireturn, 1)) (hc : cells ≤ mc) (hs : slots ≤ ms) (hM : MW D A N2 adr1 w1 H) (hS : va_S A s.heap H locs) (hp : post v adr1 w1) : W p l e R s m args below meth c H locs cells slots (vx_MQ below (va_Qi (ciP post) (fun u t => MW D A N2 u.1 u.2 t.heap) A) XC args s mc ms A) (F0 m pc ls [.int v]) :=
  W.widen hc hs (vx_ret (W.iret hx hb hr (fun t ht hW => ⟨⟨v, (adr1, w1), rfl, hp, by show MW D A N2 adr1 w1 t.heap; rw [ht]; exact hM⟩, hS.F ht⟩) hS.2.2 hdg hlocks))
theorem sref_adr {adr adr2 : Nat → Nat} {ns N : Nat} {so : Nat → Nat} (h : ∀ k, k < N → adr k = adr2 k) (h2 : ∀ i, i < ns → 23 + 6 * so i < N) : sref adr2 ns so = sref adr ns so := by
  funext i
  unfold sref
  by_cases e : i < ns
  · rw [if_pos e, if_pos e, h _ (h2 i e)]
  · rw [if_neg e, if_neg e]
theorem oref_adr {adr adr2 : Nat → Nat} {no N : Nat} (h : ∀ k, k < N → adr k = adr2 k) (h2 : 22 + 6 * no ≤ N) : oref adr2 no = oref adr no := by
  funext i
  unfold oref
  by_cases e : i < no
  · rw [if_pos e, if_pos e, h _ (by omega)]
  · rw [if_neg e, if_neg e]
theorem href_adr {adr adr2 : Nat → Nat} {N : Nat} {hd : Nat → Option Nat} (h : ∀ k, k < N → adr k = adr2 k) (h2 : ∀ t o, hd t = some o → 22 + 6 * o < N) : href adr2 hd = href adr hd := by
  funext t
  unfold href
  rcases e : hd t with _ | o
  · rfl
  · show some (adr2 (22 + 6 * o)) = some (adr (22 + 6 * o))
    rw [h _ (h2 t o e)]
theorem oref_push {adr : Nat → Nat} {no : Nat} : va_up (oref adr no) no (some (adr (22 + 6 * no))) = oref adr (no + 1) := by
  funext i
  by_cases h : i = no
  · subst h
    rw [va_up_self]
    unfold oref
    rw [if_pos (by omega)]
  · rw [va_up_ne _ _ h]
    unfold oref
    by_cases h2 : i < no
    · rw [if_pos h2, if_pos (by omega)]
    · rw [if_neg h2, if_neg (by omega)]
theorem SenF.push {ac : Nat → ClassId} {adr adr2 : Nat → Nat} {w w1 : Nat → va_E} {no : Nat} {oc on_ : Nat → Nat} {owd : Nat → Nat → Nat} {obf : Nat → Nat → Int32} {cl n : Nat} {wd : Nat → Nat} {bf : Nat → Int32} (h : SenF ac adr w no oc on_ owd obf) (hE : ∀ k, k < 22 + 6 * no → adr k = adr2 k) (hF : ∀ k, 22 ≤ k → k < 22 + 6 * no → w1 k = w k) (hn : SenW ac adr2 w1 (23 + 6 * no) cl n wd bf) : SenF ac adr2 w1 (no + 1) (va_up oc no cl) (va_up on_ no n) (va_up owd no wd) (va_up obf no bf) := fun o ho => by
  by_cases e : o = no
  · subst e
    rw [va_up_self, va_up_self, va_up_self, va_up_self]
    exact hn
  · rw [va_up_ne _ _ e, va_up_ne _ _ e, va_up_ne _ _ e, va_up_ne _ _ e]
    obtain ⟨h1, h2, h3, h4, h5, h6⟩ := h o (by omega)
    unfold SenW
    rw [hF _ (by omega) (by omega), hF _ (by omega) (by omega), hF _ (by omega) (by omega), hF _ (by omega) (by omega), hF _ (by omega) (by omega), ← hE _ (by omega), ← hE _ (by omega), ← hE _ (by omega), ← hE _ (by omega)]
    exact ⟨h1, h2, h3, h4, h5, h6⟩
theorem OrdF.push {adr adr2 : Nat → Nat} {w w1 : Nat → va_E} {no : Nat} {rb st mt co py : Nat → Int32} {b : Int32} (h : OrdF adr w no rb st mt co py) (hE : ∀ k, k < 22 + 6 * no → adr k = adr2 k) (hF : ∀ k, 22 ≤ k → k < 22 + 6 * no → w1 k = w k) (hn : w1 (22 + 6 * no) = .inr (3, [.int (nI no), .int b, .ref (adr2 (23 + 6 * no)), .int (-1), .int (-1), .int 0, .int 0])) : OrdF adr2 w1 (no + 1) (va_up rb no b) (va_up st no (-1)) (va_up mt no (-1)) (va_up co no 0) (va_up py no 0) := fun o ho => by
  by_cases e : o = no
  · subst e
    rw [va_up_self, va_up_self, va_up_self, va_up_self, va_up_self]
    exact hn
  · rw [va_up_ne _ _ e, va_up_ne _ _ e, va_up_ne _ _ e, va_up_ne _ _ e, va_up_ne _ _ e, hF _ (by omega) (by omega), ← hE _ (by omega)]
    exact h o (by omega)
theorem HIn.push_r {ns : Nat} {so : Nat → Nat} {nd : Nat} {du : Nat → Nat} {nr : Nat} {rq : Nat → Nat} {nq : Nat} {oq : Nat → Nat} {no : Nat} {rb st : Nat → Int32} {hd : Nat → Option Nat} {b : Int32} (h : HIn ns so nd du nr rq nq oq no rb st hd) (hb : ¬ b = 0) : HIn ns so nd du (nr + 1) (va_up rq nr no) nq oq (no + 1) (va_up rb no b) (va_up st no (-1)) hd := by
  obtain ⟨h1, h2, ⟨h3, h3'⟩, ⟨h4, h4'⟩, h5⟩ := h
  refine ⟨fun i hi => ?_, h2, ⟨?_, fun x hx => ?_⟩, ⟨h4, fun x hx => ?_⟩, fun t o ht hh => ?_⟩
  · have q := h1 i hi
    exact ⟨by omega, by rw [va_up_ne _ _ (by omega)]; exact q.2⟩
  · rw [lst_push]
    exact List.nodup_append.mpr ⟨h3, List.nodup_cons.mpr ⟨List.not_mem_nil, List.nodup_nil⟩, fun a ha c hc e => by
      have := (h3' a ha).1
      rw [List.mem_singleton.mp hc] at e
      omega⟩
  · rw [lst_push] at hx
    rcases List.mem_append.mp hx with q | q
    · have q2 := h3' x q
      exact ⟨by omega, by rw [va_up_ne _ _ (by omega)]; exact q2.2.1, by rw [va_up_ne _ _ (by omega)]; exact q2.2.2⟩
    · rw [List.mem_singleton.mp q, va_up_self, va_up_self]
      exact ⟨by omega, rfl, hb⟩
  · have q2 := h4' x hx
    exact ⟨by omega, by rw [va_up_ne _ _ (by omega)]; exact q2.2.1, by rw [va_up_ne _ _ (by omega)]; exact q2.2.2⟩
  · have q2 := h5 t o ht hh
    exact ⟨by omega, by rw [va_up_ne _ _ (by omega)]; exact q2.2⟩
theorem HIn.push_o {ns : Nat} {so : Nat → Nat} {nd : Nat} {du : Nat → Nat} {nr : Nat} {rq : Nat → Nat} {nq : Nat} {oq : Nat → Nat} {no : Nat} {rb st : Nat → Int32} {hd : Nat → Option Nat} {b : Int32} (h : HIn ns so nd du nr rq nq oq no rb st hd) (hb : b = 0) : HIn ns so nd du nr rq (nq + 1) (va_up oq nq no) (no + 1) (va_up rb no b) (va_up st no (-1)) hd := by
  obtain ⟨h1, h2, ⟨h3, h3'⟩, ⟨h4, h4'⟩, h5⟩ := h
  refine ⟨fun i hi => ?_, h2, ⟨h3, fun x hx => ?_⟩, ⟨?_, fun x hx => ?_⟩, fun t o ht hh => ?_⟩
  · have q := h1 i hi
    exact ⟨by omega, by rw [va_up_ne _ _ (by omega)]; exact q.2⟩
  · have q2 := h3' x hx
    exact ⟨by omega, by rw [va_up_ne _ _ (by omega)]; exact q2.2.1, by rw [va_up_ne _ _ (by omega)]; exact q2.2.2⟩
  · rw [lst_push]
    exact List.nodup_append.mpr ⟨h4, List.nodup_cons.mpr ⟨List.not_mem_nil, List.nodup_nil⟩, fun a ha c hc e => by
      have := (h4' a ha).1
      rw [List.mem_singleton.mp hc] at e
      omega⟩
  · rw [lst_push] at hx
    rcases List.mem_append.mp hx with q | q
    · have q2 := h4' x q
      exact ⟨by omega, by rw [va_up_ne _ _ (by omega)]; exact q2.2.1, by rw [va_up_ne _ _ (by omega)]; exact q2.2.2⟩
    · rw [List.mem_singleton.mp q, va_up_self, va_up_self]
      exact ⟨by omega, rfl, hb⟩
  · have q2 := h5 t o ht hh
    exact ⟨by omega, by rw [va_up_ne _ _ (by omega)]; exact q2.2⟩
theorem mixN_lt {n j : Nat} {d : Nat → Nat} (h : j < n) : mixN n d j = d j := if_pos h
set_option maxHeartbeats 4000000 in
set_option maxRecDepth 100000 in
/-- order -/
theorem k_X7_order (l : Launch) (D : va_G) (ac : Nat → ClassId) (H : Heap) (hlt : l.stackTraces = false) (A : Nat → Prop) (hA : ∀ q, H.size ≤ q → A q) (adr : Nat → Nat) (w : Nat → va_E) (dl : Nat) (dw : Nat → Nat) (fs : Nat → Int32) (fr : Nat → Int32) (ft : Nat → Nat) (ns : Nat) (so : Nat → Nat) (hv : Nat → Int64) (nd : Nat) (du : Nat → Nat) (T : Nat → Int32) (nr : Nat) (rq : Nat → Nat) (nq : Nat) (oq : Nat → Nat) (pd : Nat → Int32) (er : Nat → Int32) (no : Nat) (oc : Nat → Nat) (on_ : Nat → Nat) (owd : Nat → Nat → Nat) (obf : Nat → Nat → Int32) (rb : Nat → Int32) (st : Nat → Int32) (mt : Nat → Int32) (co : Nat → Int32) (py : Nat → Int32) (hd : Nat → Option Nat) (le : Int32) (pr : Int32) (ra : Int32) (hM : MW D A (22 + 6 * no) adr w H) (hR : HR ac adr w dl dw fs fr ft ns so hv nd du T nr rq nq oq pd er no oc on_ owd obf rb st mt co py hd le pr ra) (hh4 : ∀ t, 4 ≤ t → hd t = none) (x b : Int32) (hbv : b = 0 ∨ b = 1) : WXo l yX7_order wsX7_order ({ frames := 7, cells := 8, slots := 42, locals := 109 }) [.ref (adr 0), .int x, .int b] D ac H A (22 + 6 * no) adr w (22 + 6 * no + 6) (fun r adr2 w1 => ∃ k, k < 4 ∧ x = nI k ∧ 0 < dl ∧ no < 60 ∧ r = nI no ∧ (∀ k, k < 22 + 6 * no → adr k = adr2 k) ∧ ((b = 0 ∧ HR ac adr2 w1 dl dw fs fr ft ns so hv nd du T nr rq (nq + 1) (va_up oq nq no) pd er (no + 1) (va_up oc no k) (va_up on_ no dl) (va_up owd no (mixN dl dw)) (va_up obf no (mixF dl (fun _ => -1) (fun _ => 0))) (va_up rb no b) (va_up st no (-1)) (va_up mt no (-1)) (va_up co no 0) (va_up py no 0) hd le pr ra) ∨ (¬ b = 0 ∧ HR ac adr2 w1 dl dw fs fr ft ns so hv nd du T (nr + 1) (va_up rq nr no) nq oq pd er (no + 1) (va_up oc no k) (va_up on_ no dl) (va_up owd no (mixN dl dw)) (va_up obf no (mixF dl (fun _ => -1) (fun _ => 0))) (va_up rb no b) (va_up st no (-1)) (va_up mt no (-1)) (va_up co no 0) (va_up py no 0) hd le pr ra))) (XC2 xIA xIS (cd2 (ix x 4).isNone (decide (dl = 0) || decide (no = 60)))) 8 42 := by
  refine vx_ofW (cc := cX7_order) (maxL := 4) (ret := (some .int)) (by decide) rfl ?_
  intro p e s m args below meth c s₁ B hml hout hv
  obtain ⟨hargs, hsz, hK, hX⟩ := hv
  have hx := B.exec
  have hb := B.bytes
  have hr := B.returns
  have hts := atoms_spec (ws := wsX7_order) B.pre
  have hown : s.vm.findClass RX7 = some m.cls := findClass_of_methodNamed B.named
  have hlocks := B.notSynchronized
  subst hsz
  have inX3_ : ∀ w ∈ wsX30, w ∈ wsX7_order := by decide +kernel
  have inX6_ : ∀ w ∈ wsX60, w ∈ wsX7_order := by decide +kernel
  have inX7_ : ∀ w ∈ wsX70, w ∈ wsX7_order := by decide +kernel
  have hgIS_ : ∀ w ∈ (vx_at0 RX7 77 xIS xNames).filter goodWord, w ∈ wsX7_order := by decide +kernel
  have hS : va_S A s.heap s.heap [] := va_S.rf
  have hl := lv_entry ([.ref (adr 0), .int x, .int b]) (n := 4) (Nat.le_of_ble_eq_true rfl)
  have hen := lg_entry_eq m [.ref (adr 0), .int x, .int b] 4
  rw [← hargs] at hen
  rw [hen]
  generalize (lg_sl ([.ref (adr 0), .int x, .int b]) ++ List.replicate (4 - (lg_sl ([.ref (adr 0), .int x, .int b])).length) Slot.unset).toArray = ls at hl ⊢
  have hl : lv_has ls 4 [(0, .ref (adr 0)), (1, .int x), (2, .int b)] := hl
  have hN : 22 + 6 * no ≤ 22 + 6 * no := Nat.le_refl _
  obtain ⟨h0, hdr, hru, hm, hS1, hO1, hde, hha, hmo, hin_⟩ := id hR
  obtain ⟨hns, hnd⟩ := hm.2.2.2.2.2.2.2
  have hso := fun i hi => (hin_.1 i hi).1
  obtain ⟨hnr60, hnq60⟩ := hde.2.2.2.2
  have hno60 := hha.2.2
  have hdl8_ := hdr.2.2.1
  have hnrn_ := nodup_len no _ hin_.2.2.1.1 (fun x hx => (hin_.2.2.1.2 x hx).1)
  have hnqn_ := nodup_len no _ hin_.2.2.2.1.1 (fun x hx => (hin_.2.2.2.1.2 x hx).1)
  rw [lst_len] at hnrn_ hnqn_
  have hho_ : ∀ t o, hd t = some o → o < no := fun t o hh => (Nat.lt_or_ge t 4).elim (fun q => (hin_.2.2.2.2 t o q hh).1) (fun q => by rw [hh4 t q] at hh; exact absurd hh (fun z9 => nomatch z9))
  refine lv_iload_n hx hb dX7_order_0 rfl (lv_at hl 1 rfl) ?_
  refine x_callv hlocks hout (vx_runS (As := [.int x]) (rest := []) ⟨hx, hb, hml, hown, hts⟩ (k_X7_refuseUnlessClient l D ac _ hlt A (22 + 6 * no) adr w hM x) (va_cwS 1 hts gX7_order_X7_refuseUnlessClient rfl rfl rfl (by decide +kernel) ⟨(Nat.le_of_ble_eq_true rfl), (Nat.le_of_ble_eq_true rfl)⟩) (pSX hK (hX.at hS)) rfl rfl hl.1 rfl (lv_room (Nat.le_of_ble_eq_true rfl)) dX7_order_1 ⟨(Nat.le_of_ble_eq_true rfl), (Nat.le_of_ble_eq_true rfl)⟩) hS (fun E h => Or.inl ⟨h.1, cd2_1 h.2⟩) (Nat.le_of_ble_eq_true rfl) (Nat.le_of_ble_eq_true rfl) (fun w_2 H locs hw_2 hM hS => ?_)
  obtain ⟨⟨k9, hk_k9, ex_k9⟩, e9_⟩ := hw_2
  obtain rfl := e9_.symm
  subst ex_k9
  refine lv_aload_n hx hb dX7_order_4 rfl (lv_at hl 0 rfl) ?_
  refine x_callv hlocks hout (vx_runV (As := []) (rest := []) ⟨hx, hb, hml, hown, hts⟩ (k_X7_refuseEmptyDraft l D ac _ hlt A (22 + 6 * no) adr w hM dl dw fs fr ft ns so hv nd du T nr rq nq oq pd er no oc on_ owd obf rb st mt co py hd le pr ra hR hN) (cwV 0 hts gX7_order_X7_refuseEmptyDraft rfl rfl rfl (by decide +kernel) ⟨(Nat.le_of_ble_eq_true rfl), (Nat.le_of_ble_eq_true rfl)⟩) (pVX hK (hX.at hS) (ci := 7) rfl (hM.cel (by omega) h0)) rfl rfl hl.1 rfl (lv_room (Nat.le_of_ble_eq_true rfl)) dX7_order_5 ⟨(Nat.le_of_ble_eq_true rfl), (Nat.le_of_ble_eq_true rfl)⟩) hS (fun E h => Or.inr ⟨h.1, cd2_2 (ixs hk_k9 (by decide) rfl) (by rw [h.2]; rfl)⟩) (Nat.le_of_ble_eq_true rfl) (Nat.le_of_ble_eq_true rfl) (fun w_4 H locs hw_4 hM hS => ?_)
  obtain ⟨hdl0_, e9_⟩ := hw_4
  obtain rfl := e9_.symm
  refine lv_aload_n hx hb dX7_order_8 rfl (lv_at hl 0 rfl) ?_
  refine m_get (ci := 7) (C := RX7) (T := TX7) (n := 13) (v := .int (nI no)) hx hb hts inX7_ hown hK rfl (hM.cel (by omega) h0) 9 (by decide) (hts _ (by decide +kernel)) rfl dX7_order_9 ?_
  refine lv_istore_n (lv' := [(3, .int (nI no)), (0, .ref (adr 0)), (1, .int (nI k9)), (2, .int b)]) hx hb dX7_order_12 rfl hl (by decide) rfl (fun ls hl => ?_)
  refine lv_iload_n hx hb dX7_order_13 rfl (lv_at hl 0 rfl) ?_
  refine lv_if_lt (tgt := 26) hx hb dX7_order_14 (by decide) (fun c14 => ?_) (fun c14 => ?_)
  · exact absurd c14 (nI_pos (by omega))
  · refine lv_iload_n hx hb dX7_order_17 rfl (lv_at hl 0 rfl) ?_
    refine lv_aload_n hx hb dX7_order_18 rfl (lv_at hl 1 rfl) ?_
    refine m_get (ci := 7) (C := RX7) (T := TX7) (n := 13) (v := .ref (adr 14)) hx hb hts inX7_ hown hK rfl (hM.cel (by omega) h0) 3 (by decide) (hts _ (by decide +kernel)) rfl dX7_order_19 ?_
    refine m_alen (v := 60) (ty := _) hx hb hK 3 (hM.cel (by omega) hha.1) rfl (by first | rfl | decide) dX7_order_22 ?_
    refine lv_icmp_lt (tgt := 34) hx hb dX7_order_23 (by decide) (fun c23 => ?_) (fun c23 => ?_)
    · have hno60_ : no < 60 := lt_lt (b := 60) c23 (by omega) (by decide)
      refine fold_W (fun Q0 hQ0 => ?_)
      refine lv_aload_n hx hb dX7_order_34 rfl (lv_at hl 1 rfl) ?_
      refine m_get (ci := 7) (C := RX7) (T := TX7) (n := 13) (v := .ref (adr 14)) hx hb hts inX7_ hown hK rfl (hM.cel (by omega) h0) 3 (by decide) (hts _ (by decide +kernel)) rfl dX7_order_35 ?_
      refine lv_iload_n hx hb dX7_order_38 rfl (lv_at hl 0 rfl) ?_
      refine m_new (ci := 3) (fs := [.int 0, .int 0, .null, .int 0, .int 0, .int 0, .int 0]) (C := RX3) (T := TX3) (n := 7) hx hb hts inX3_ tyX3 tyX3_ok hown (hts _ (by decide +kernel)) (hts _ (by decide +kernel)) (hts _ (by decide +kernel)) hK hM hS hA rfl (by intro j hj; have : j = 0 ∨ j = 1 ∨ j = 2 ∨ j = 3 ∨ j = 4 ∨ j = 5 ∨ j = 6 := (by omega); rcases this with rfl | rfl | rfl | rfl | rfl | rfl | rfl <;> rfl) (Nat.le_of_ble_eq_true rfl) (Nat.le_of_ble_eq_true rfl) dX7_order_39 (fun adr_5 H he_6 hM hS => ?_)
      obtain ⟨w_7, ew_7⟩ : ∃ z9_, z9_ = va_up w (22 + 6 * no) (.inr (3, [.int 0, .int 0, .null, .int 0, .int 0, .int 0, .int 0])) := ⟨_, rfl⟩
      have hM : MW D A (22 + 6 * no + 1) adr_5 w_7 H := by rw [ew_7]; exact hM
      have b_8 := he_6 0 (by omega)
      have b_9 := he_6 1 (by omega)
      have b_10 := he_6 2 (by omega)
      have b_11 := he_6 14 (by omega)
      have b_12 := he_6 15 (by omega)
      have b_13 := he_6 16 (by omega)
      have b_14 := he_6 17 (by omega)
      have b_15 := he_6 18 (by omega)
      have b_16 := he_6 19 (by omega)
      have b_17 := he_6 20 (by omega)
      have b_18 := he_6 21 (by omega)
      have b_19 := he_6 3 (by omega)
      have b_20 := he_6 4 (by omega)
      have b_21 := he_6 5 (by omega)
      have b_22 := he_6 6 (by omega)
      have b_23 := he_6 7 (by omega)
      have b_24 := he_6 8 (by omega)
      have b_25 := he_6 9 (by omega)
      have b_26 := he_6 10 (by omega)
      have b_27 := he_6 11 (by omega)
      have b_28 := he_6 12 (by omega)
      have b_29 := he_6 13 (by omega)
      simp only [b_8, b_9, b_10, b_11, b_12, b_13, b_14, b_15, b_16, b_17, b_18, b_19, b_20, b_21, b_22, b_23, b_24, b_25, b_26, b_27, b_28, b_29] at hl
      try simp only [b_8, b_9, b_10, b_11, b_12, b_13, b_14, b_15, b_16, b_17, b_18, b_19, b_20, b_21, b_22, b_23, b_24, b_25, b_26, b_27, b_28, b_29]
      have h_30 : w_7 0 = .inr (7, [.ref (adr_5 1), .ref (adr_5 3), .ref (adr_5 7), .ref (adr_5 14), .ref (adr_5 15), .ref (adr_5 16), .ref (adr_5 18), .ref (adr_5 20), .ref (adr_5 21), .int (nI no), .int le, .int pr, .int ra]) := by rw [ew_7, va_up_ne _ _ (by omega), h0] <;> simp only [b_8, b_9, b_10, b_11, b_12, b_13, b_14, b_15, b_16, b_17, b_18, b_19, b_20, b_21, b_22, b_23, b_24, b_25, b_26, b_27, b_28, b_29]
      have h_31 : w_7 1 = .inr (4, [.ref (adr_5 2), .int (nI dl)]) := by rw [ew_7, va_up_ne _ _ (by omega), hdr.1] <;> simp only [b_8, b_9, b_10, b_11, b_12, b_13, b_14, b_15, b_16, b_17, b_18, b_19, b_20, b_21, b_22, b_23, b_24, b_25, b_26, b_27, b_28, b_29]
      have h_32 : w_7 2 = .inl (ac 0, 8, .inl (fun j => nI (dw j))) := by rw [ew_7, va_up_ne _ _ (by omega), hdr.2.1]
      have h_33 : w_7 14 = .inl (ac 3, 60, .inr (.inr (.inr (.inr (oref adr_5 no))))) := by rw [ew_7, va_up_ne _ _ (by omega)]; exact (by rw [oref_adr he_6 (by omega)]; exact hha.1)
      have h_34 : w_7 15 = .inl (ac 3, 4, .inr (.inr (.inr (.inr (href adr_5 hd))))) := by rw [ew_7, va_up_ne _ _ (by omega)]; exact (by rw [href_adr he_6 (fun t o hh => by have := hho_ t o hh; omega)]; exact hha.2.1)
      have h_35 : w_7 16 = .inr (1, [.ref (adr_5 17), .int (nI nr)]) := by rw [ew_7, va_up_ne _ _ (by omega), hde.1] <;> simp only [b_8, b_9, b_10, b_11, b_12, b_13, b_14, b_15, b_16, b_17, b_18, b_19, b_20, b_21, b_22, b_23, b_24, b_25, b_26, b_27, b_28, b_29]
      have h_36 : w_7 17 = .inl (ac 0, 60, .inl (fun j => nI (rq j))) := by rw [ew_7, va_up_ne _ _ (by omega), hde.2.1]
      have h_37 : w_7 18 = .inr (1, [.ref (adr_5 19), .int (nI nq)]) := by rw [ew_7, va_up_ne _ _ (by omega), hde.2.2.1] <;> simp only [b_8, b_9, b_10, b_11, b_12, b_13, b_14, b_15, b_16, b_17, b_18, b_19, b_20, b_21, b_22, b_23, b_24, b_25, b_26, b_27, b_28, b_29]
      have h_38 : w_7 19 = .inl (ac 0, 60, .inl (fun j => nI (oq j))) := by rw [ew_7, va_up_ne _ _ (by omega), hde.2.2.2.1]
      have h_39 : w_7 20 = .inl (ac 0, 4, .inl pd) := by rw [ew_7, va_up_ne _ _ (by omega), hmo.1]
      have h_40 : w_7 21 = .inl (ac 0, 4, .inl er) := by rw [ew_7, va_up_ne _ _ (by omega), hmo.2]
      have h_41 : w_7 3 = .inr (5, [.ref (adr_5 4), .ref (adr_5 5), .ref (adr_5 6)]) := by rw [ew_7, va_up_ne _ _ (by omega), hru.1] <;> simp only [b_8, b_9, b_10, b_11, b_12, b_13, b_14, b_15, b_16, b_17, b_18, b_19, b_20, b_21, b_22, b_23, b_24, b_25, b_26, b_27, b_28, b_29]
      have h_42 : w_7 4 = .inl (ac 0, 600, .inl fs) := by rw [ew_7, va_up_ne _ _ (by omega), hru.2.1]
      have h_43 : w_7 5 = .inl (ac 0, 200, .inl fr) := by rw [ew_7, va_up_ne _ _ (by omega), hru.2.2.1]
      have h_44 : w_7 6 = .inl (ac 0, 200, .inl (fun j => nI (ft j))) := by rw [ew_7, va_up_ne _ _ (by omega), hru.2.2.2]
      have h_45 : w_7 7 = .inr (2, [.ref (adr_5 8), .ref (adr_5 9), .ref (adr_5 10), .ref (adr_5 12), .int (nI ns)]) := by rw [ew_7, va_up_ne _ _ (by omega), hm.1] <;> simp only [b_8, b_9, b_10, b_11, b_12, b_13, b_14, b_15, b_16, b_17, b_18, b_19, b_20, b_21, b_22, b_23, b_24, b_25, b_26, b_27, b_28, b_29]
      have h_46 : w_7 8 = .inl (ac 4, 40, .inr (.inr (.inr (.inr (sref adr_5 ns so))))) := by rw [ew_7, va_up_ne _ _ (by omega)]; exact (by rw [sref_adr he_6 (fun i hi => by have := hso i hi; omega)]; exact hm.2.1)
      have h_47 : w_7 9 = .inl (ac 1, 50, .inr (.inl hv)) := by rw [ew_7, va_up_ne _ _ (by omega), hm.2.2.1]
      have h_48 : w_7 10 = .inr (1, [.ref (adr_5 11), .int (nI nd)]) := by rw [ew_7, va_up_ne _ _ (by omega), hm.2.2.2.1] <;> simp only [b_8, b_9, b_10, b_11, b_12, b_13, b_14, b_15, b_16, b_17, b_18, b_19, b_20, b_21, b_22, b_23, b_24, b_25, b_26, b_27, b_28, b_29]
      have h_49 : w_7 11 = .inl (ac 0, 60, .inl (fun j => nI (du j))) := by rw [ew_7, va_up_ne _ _ (by omega), hm.2.2.2.2.1]
      have h_50 : w_7 12 = .inr (0, [.ref (adr_5 13)]) := by rw [ew_7, va_up_ne _ _ (by omega), hm.2.2.2.2.2.1] <;> simp only [b_8, b_9, b_10, b_11, b_12, b_13, b_14, b_15, b_16, b_17, b_18, b_19, b_20, b_21, b_22, b_23, b_24, b_25, b_26, b_27, b_28, b_29]
      have h_51 : w_7 13 = .inl (ac 0, 81, .inl T) := by rw [ew_7, va_up_ne _ _ (by omega), hm.2.2.2.2.2.2.1]
      have h_52 : w_7 (22 + 6 * no) = .inr (3, [.int 0, .int 0, .null, .int 0, .int 0, .int 0, .int 0]) := by rw [ew_7]; exact va_up_self _ _ _
      refine lv_dup hx hb dX7_order_42 rfl ?_
      refine lv_iload_n hx hb dX7_order_43 rfl (lv_at hl 0 rfl) ?_
      refine lv_iload_n hx hb dX7_order_44 rfl (lv_at hl 3 rfl) ?_
      refine m_new (ci := 6) (fs := [.int 0, .null, .null]) (C := RX6) (T := TX6) (n := 3) hx hb hts inX6_ tyX6 tyX6_ok hown (hts _ (by decide +kernel)) (hts _ (by decide +kernel)) (hts _ (by decide +kernel)) hK hM hS hA rfl (by intro j hj; have : j = 0 ∨ j = 1 ∨ j = 2 := (by omega); rcases this with rfl | rfl | rfl <;> rfl) (Nat.le_of_ble_eq_true rfl) (Nat.le_of_ble_eq_true rfl) dX7_order_45 (fun adr_53 H he_54 hM hS => ?_)
      obtain ⟨w_55, ew_55⟩ : ∃ z9_, z9_ = va_up w_7 (22 + 6 * no + 1) (.inr (6, [.int 0, .null, .null])) := ⟨_, rfl⟩
      have hM : MW D A (22 + 6 * no + 2) adr_53 w_55 H := by rw [ew_55]; exact hM
      have b_56 := he_54 0 (by omega)
      have b_57 := he_54 1 (by omega)
      have b_58 := he_54 2 (by omega)
      have b_59 := he_54 14 (by omega)
      have b_60 := he_54 15 (by omega)
      have b_61 := he_54 16 (by omega)
      have b_62 := he_54 17 (by omega)
      have b_63 := he_54 18 (by omega)
      have b_64 := he_54 19 (by omega)
      have b_65 := he_54 20 (by omega)
      have b_66 := he_54 21 (by omega)
      have b_67 := he_54 3 (by omega)
      have b_68 := he_54 4 (by omega)
      have b_69 := he_54 5 (by omega)
      have b_70 := he_54 6 (by omega)
      have b_71 := he_54 7 (by omega)
      have b_72 := he_54 8 (by omega)
      have b_73 := he_54 9 (by omega)
      have b_74 := he_54 10 (by omega)
      have b_75 := he_54 11 (by omega)
      have b_76 := he_54 12 (by omega)
      have b_77 := he_54 13 (by omega)
      have b_78 := he_54 (22 + 6 * no) (by omega)
      simp only [b_56, b_57, b_58, b_59, b_60, b_61, b_62, b_63, b_64, b_65, b_66, b_67, b_68, b_69, b_70, b_71, b_72, b_73, b_74, b_75, b_76, b_77, b_78] at hl
      try simp only [b_56, b_57, b_58, b_59, b_60, b_61, b_62, b_63, b_64, b_65, b_66, b_67, b_68, b_69, b_70, b_71, b_72, b_73, b_74, b_75, b_76, b_77, b_78]
      have h_79 : w_55 0 = .inr (7, [.ref (adr_53 1), .ref (adr_53 3), .ref (adr_53 7), .ref (adr_53 14), .ref (adr_53 15), .ref (adr_53 16), .ref (adr_53 18), .ref (adr_53 20), .ref (adr_53 21), .int (nI no), .int le, .int pr, .int ra]) := by rw [ew_55, va_up_ne _ _ (by omega), h_30] <;> simp only [b_56, b_57, b_58, b_59, b_60, b_61, b_62, b_63, b_64, b_65, b_66, b_67, b_68, b_69, b_70, b_71, b_72, b_73, b_74, b_75, b_76, b_77, b_78]
      have h_80 : w_55 1 = .inr (4, [.ref (adr_53 2), .int (nI dl)]) := by rw [ew_55, va_up_ne _ _ (by omega), h_31] <;> simp only [b_56, b_57, b_58, b_59, b_60, b_61, b_62, b_63, b_64, b_65, b_66, b_67, b_68, b_69, b_70, b_71, b_72, b_73, b_74, b_75, b_76, b_77, b_78]
      have h_81 : w_55 2 = .inl (ac 0, 8, .inl (fun j => nI (dw j))) := by rw [ew_55, va_up_ne _ _ (by omega), h_32]
      have h_82 : w_55 14 = .inl (ac 3, 60, .inr (.inr (.inr (.inr (oref adr_53 no))))) := by rw [ew_55, va_up_ne _ _ (by omega)]; exact (by rw [oref_adr he_54 (by omega)]; exact h_33)
      have h_83 : w_55 15 = .inl (ac 3, 4, .inr (.inr (.inr (.inr (href adr_53 hd))))) := by rw [ew_55, va_up_ne _ _ (by omega)]; exact (by rw [href_adr he_54 (fun t o hh => by have := hho_ t o hh; omega)]; exact h_34)
      have h_84 : w_55 16 = .inr (1, [.ref (adr_53 17), .int (nI nr)]) := by rw [ew_55, va_up_ne _ _ (by omega), h_35] <;> simp only [b_56, b_57, b_58, b_59, b_60, b_61, b_62, b_63, b_64, b_65, b_66, b_67, b_68, b_69, b_70, b_71, b_72, b_73, b_74, b_75, b_76, b_77, b_78]
      have h_85 : w_55 17 = .inl (ac 0, 60, .inl (fun j => nI (rq j))) := by rw [ew_55, va_up_ne _ _ (by omega), h_36]
      have h_86 : w_55 18 = .inr (1, [.ref (adr_53 19), .int (nI nq)]) := by rw [ew_55, va_up_ne _ _ (by omega), h_37] <;> simp only [b_56, b_57, b_58, b_59, b_60, b_61, b_62, b_63, b_64, b_65, b_66, b_67, b_68, b_69, b_70, b_71, b_72, b_73, b_74, b_75, b_76, b_77, b_78]
      have h_87 : w_55 19 = .inl (ac 0, 60, .inl (fun j => nI (oq j))) := by rw [ew_55, va_up_ne _ _ (by omega), h_38]
      have h_88 : w_55 20 = .inl (ac 0, 4, .inl pd) := by rw [ew_55, va_up_ne _ _ (by omega), h_39]
      have h_89 : w_55 21 = .inl (ac 0, 4, .inl er) := by rw [ew_55, va_up_ne _ _ (by omega), h_40]
      have h_90 : w_55 3 = .inr (5, [.ref (adr_53 4), .ref (adr_53 5), .ref (adr_53 6)]) := by rw [ew_55, va_up_ne _ _ (by omega), h_41] <;> simp only [b_56, b_57, b_58, b_59, b_60, b_61, b_62, b_63, b_64, b_65, b_66, b_67, b_68, b_69, b_70, b_71, b_72, b_73, b_74, b_75, b_76, b_77, b_78]
      have h_91 : w_55 4 = .inl (ac 0, 600, .inl fs) := by rw [ew_55, va_up_ne _ _ (by omega), h_42]
      have h_92 : w_55 5 = .inl (ac 0, 200, .inl fr) := by rw [ew_55, va_up_ne _ _ (by omega), h_43]
      have h_93 : w_55 6 = .inl (ac 0, 200, .inl (fun j => nI (ft j))) := by rw [ew_55, va_up_ne _ _ (by omega), h_44]
      have h_94 : w_55 7 = .inr (2, [.ref (adr_53 8), .ref (adr_53 9), .ref (adr_53 10), .ref (adr_53 12), .int (nI ns)]) := by rw [ew_55, va_up_ne _ _ (by omega), h_45] <;> simp only [b_56, b_57, b_58, b_59, b_60, b_61, b_62, b_63, b_64, b_65, b_66, b_67, b_68, b_69, b_70, b_71, b_72, b_73, b_74, b_75, b_76, b_77, b_78]
      have h_95 : w_55 8 = .inl (ac 4, 40, .inr (.inr (.inr (.inr (sref adr_53 ns so))))) := by rw [ew_55, va_up_ne _ _ (by omega)]; exact (by rw [sref_adr he_54 (fun i hi => by have := hso i hi; omega)]; exact h_46)
      have h_96 : w_55 9 = .inl (ac 1, 50, .inr (.inl hv)) := by rw [ew_55, va_up_ne _ _ (by omega), h_47]
      have h_97 : w_55 10 = .inr (1, [.ref (adr_53 11), .int (nI nd)]) := by rw [ew_55, va_up_ne _ _ (by omega), h_48] <;> simp only [b_56, b_57, b_58, b_59, b_60, b_61, b_62, b_63, b_64, b_65, b_66, b_67, b_68, b_69, b_70, b_71, b_72, b_73, b_74, b_75, b_76, b_77, b_78]
      have h_98 : w_55 11 = .inl (ac 0, 60, .inl (fun j => nI (du j))) := by rw [ew_55, va_up_ne _ _ (by omega), h_49]
      have h_99 : w_55 12 = .inr (0, [.ref (adr_53 13)]) := by rw [ew_55, va_up_ne _ _ (by omega), h_50] <;> simp only [b_56, b_57, b_58, b_59, b_60, b_61, b_62, b_63, b_64, b_65, b_66, b_67, b_68, b_69, b_70, b_71, b_72, b_73, b_74, b_75, b_76, b_77, b_78]
      have h_100 : w_55 13 = .inl (ac 0, 81, .inl T) := by rw [ew_55, va_up_ne _ _ (by omega), h_51]
      have h_101 : w_55 (22 + 6 * no) = .inr (3, [.int 0, .int 0, .null, .int 0, .int 0, .int 0, .int 0]) := by rw [ew_55, va_up_ne _ _ (by omega), h_52]
      have h_102 : w_55 (22 + 6 * no + 1) = .inr (6, [.int 0, .null, .null]) := by rw [ew_55]; exact va_up_self _ _ _
      refine lv_dup hx hb dX7_order_48 rfl ?_
      refine lv_iload_n hx hb dX7_order_49 rfl (lv_at hl 2 rfl) ?_
      refine lv_aload_n hx hb dX7_order_50 rfl (lv_at hl 1 rfl) ?_
      refine m_get (ci := 7) (C := RX7) (T := TX7) (n := 13) (v := .ref (adr_53 1)) hx hb hts inX7_ hown hK rfl (hM.cel (by omega) h_79) 0 (by decide) (hts _ (by decide +kernel)) rfl dX7_order_51 ?_
      refine c_callv (va_runI (mc := 4) (ms := 20) (As := [.int (nI k9), .ref (adr_53 1)]) (rest := [.ref (adr_53 (22 + 6 * no + 1)), .int b, .int (nI no), .ref (adr_53 (22 + 6 * no)), .ref (adr_53 (22 + 6 * no)), .int (nI no), .ref (adr_53 14)]) ⟨hx, hb, hml, hown, hts⟩ (k_X6_init l D ac _ A (fun q hq => hA q (Nat.le_trans hS.1 hq)) (22 + 6 * no + 2) adr_53 w_55 hM (22 + 6 * no + 1) (by omega) h_102 k9 1 2 dl dw (by omega) (by omega) (by omega) (by omega) h_80 h_81) (cwI 2 hts gX7_order_X6_init rfl rfl rfl (hts _ (by decide +kernel)) (hts _ (by decide +kernel)) (hts _ (by decide +kernel)) rfl (by decide +kernel) ⟨(Nat.le_of_ble_eq_true rfl), (Nat.le_of_ble_eq_true rfl)⟩) (pS hK) rfl rfl hl.1 rfl (lv_room (Nat.le_of_ble_eq_true rfl)) dX7_order_54 ⟨(Nat.le_of_ble_eq_true rfl), (Nat.le_of_ble_eq_true rfl)⟩) hS (fun adr_103 w_106 H locs hw_106 hM hS => ?_)
      obtain ⟨hf_104, f_107, f_108, f_109, f_110, f_111⟩ := hw_106
      have he_105 : ∀ k, k < ((22 + 6 * no + 2)) → adr_53 k = adr_103 k := fun k hk => (hf_104 k hk).1
      have hM : MW D A (22 + 6 * no + 6) adr_103 w_106 H := hM
      have b_112 := he_105 0 (by omega)
      have b_113 := he_105 1 (by omega)
      have b_114 := he_105 2 (by omega)
      have b_115 := he_105 14 (by omega)
      have b_116 := he_105 15 (by omega)
      have b_117 := he_105 16 (by omega)
      have b_118 := he_105 17 (by omega)
      have b_119 := he_105 18 (by omega)
      have b_120 := he_105 19 (by omega)
      have b_121 := he_105 20 (by omega)
      have b_122 := he_105 21 (by omega)
      have b_123 := he_105 3 (by omega)
      have b_124 := he_105 4 (by omega)
      have b_125 := he_105 5 (by omega)
      have b_126 := he_105 6 (by omega)
      have b_127 := he_105 7 (by omega)
      have b_128 := he_105 8 (by omega)
      have b_129 := he_105 9 (by omega)
      have b_130 := he_105 10 (by omega)
      have b_131 := he_105 11 (by omega)
      have b_132 := he_105 12 (by omega)
      have b_133 := he_105 13 (by omega)
      have b_134 := he_105 (22 + 6 * no) (by omega)
      have b_135 := he_105 (22 + 6 * no + 1) (by omega)
      simp only [b_112, b_113, b_114, b_115, b_116, b_117, b_118, b_119, b_120, b_121, b_122, b_123, b_124, b_125, b_126, b_127, b_128, b_129, b_130, b_131, b_132, b_133, b_134, b_135] at hl
      try simp only [b_112, b_113, b_114, b_115, b_116, b_117, b_118, b_119, b_120, b_121, b_122, b_123, b_124, b_125, b_126, b_127, b_128, b_129, b_130, b_131, b_132, b_133, b_134, b_135]
      have h_136 : w_106 0 = .inr (7, [.ref (adr_103 1), .ref (adr_103 3), .ref (adr_103 7), .ref (adr_103 14), .ref (adr_103 15), .ref (adr_103 16), .ref (adr_103 18), .ref (adr_103 20), .ref (adr_103 21), .int (nI no), .int le, .int pr, .int ra]) := by rw [(hf_104 0 (by omega)).2 (by omega), h_79] <;> simp only [b_112, b_113, b_114, b_115, b_116, b_117, b_118, b_119, b_120, b_121, b_122, b_123, b_124, b_125, b_126, b_127, b_128, b_129, b_130, b_131, b_132, b_133, b_134, b_135]
      have h_137 : w_106 1 = .inr (4, [.ref (adr_103 2), .int (nI dl)]) := by rw [(hf_104 1 (by omega)).2 (by omega), h_80] <;> simp only [b_112, b_113, b_114, b_115, b_116, b_117, b_118, b_119, b_120, b_121, b_122, b_123, b_124, b_125, b_126, b_127, b_128, b_129, b_130, b_131, b_132, b_133, b_134, b_135]
      have h_138 : w_106 2 = .inl (ac 0, 8, .inl (fun j => nI (dw j))) := by rw [(hf_104 2 (by omega)).2 (by omega), h_81]
      have h_139 : w_106 14 = .inl (ac 3, 60, .inr (.inr (.inr (.inr (oref adr_103 no))))) := by rw [(hf_104 14 (by omega)).2 (by omega)]; exact (by rw [oref_adr he_105 (by omega)]; exact h_82)
      have h_140 : w_106 15 = .inl (ac 3, 4, .inr (.inr (.inr (.inr (href adr_103 hd))))) := by rw [(hf_104 15 (by omega)).2 (by omega)]; exact (by rw [href_adr he_105 (fun t o hh => by have := hho_ t o hh; omega)]; exact h_83)
      have h_141 : w_106 16 = .inr (1, [.ref (adr_103 17), .int (nI nr)]) := by rw [(hf_104 16 (by omega)).2 (by omega), h_84] <;> simp only [b_112, b_113, b_114, b_115, b_116, b_117, b_118, b_119, b_120, b_121, b_122, b_123, b_124, b_125, b_126, b_127, b_128, b_129, b_130, b_131, b_132, b_133, b_134, b_135]
      have h_142 : w_106 17 = .inl (ac 0, 60, .inl (fun j => nI (rq j))) := by rw [(hf_104 17 (by omega)).2 (by omega), h_85]
      have h_143 : w_106 18 = .inr (1, [.ref (adr_103 19), .int (nI nq)]) := by rw [(hf_104 18 (by omega)).2 (by omega), h_86] <;> simp only [b_112, b_113, b_114, b_115, b_116, b_117, b_118, b_119, b_120, b_121, b_122, b_123, b_124, b_125, b_126, b_127, b_128, b_129, b_130, b_131, b_132, b_133, b_134, b_135]
      have h_144 : w_106 19 = .inl (ac 0, 60, .inl (fun j => nI (oq j))) := by rw [(hf_104 19 (by omega)).2 (by omega), h_87]
      have h_145 : w_106 20 = .inl (ac 0, 4, .inl pd) := by rw [(hf_104 20 (by omega)).2 (by omega), h_88]
      have h_146 : w_106 21 = .inl (ac 0, 4, .inl er) := by rw [(hf_104 21 (by omega)).2 (by omega), h_89]
      have h_147 : w_106 3 = .inr (5, [.ref (adr_103 4), .ref (adr_103 5), .ref (adr_103 6)]) := by rw [(hf_104 3 (by omega)).2 (by omega), h_90] <;> simp only [b_112, b_113, b_114, b_115, b_116, b_117, b_118, b_119, b_120, b_121, b_122, b_123, b_124, b_125, b_126, b_127, b_128, b_129, b_130, b_131, b_132, b_133, b_134, b_135]
      have h_148 : w_106 4 = .inl (ac 0, 600, .inl fs) := by rw [(hf_104 4 (by omega)).2 (by omega), h_91]
      have h_149 : w_106 5 = .inl (ac 0, 200, .inl fr) := by rw [(hf_104 5 (by omega)).2 (by omega), h_92]
      have h_150 : w_106 6 = .inl (ac 0, 200, .inl (fun j => nI (ft j))) := by rw [(hf_104 6 (by omega)).2 (by omega), h_93]
      have h_151 : w_106 7 = .inr (2, [.ref (adr_103 8), .ref (adr_103 9), .ref (adr_103 10), .ref (adr_103 12), .int (nI ns)]) := by rw [(hf_104 7 (by omega)).2 (by omega), h_94] <;> simp only [b_112, b_113, b_114, b_115, b_116, b_117, b_118, b_119, b_120, b_121, b_122, b_123, b_124, b_125, b_126, b_127, b_128, b_129, b_130, b_131, b_132, b_133, b_134, b_135]
      have h_152 : w_106 8 = .inl (ac 4, 40, .inr (.inr (.inr (.inr (sref adr_103 ns so))))) := by rw [(hf_104 8 (by omega)).2 (by omega)]; exact (by rw [sref_adr he_105 (fun i hi => by have := hso i hi; omega)]; exact h_95)
      have h_153 : w_106 9 = .inl (ac 1, 50, .inr (.inl hv)) := by rw [(hf_104 9 (by omega)).2 (by omega), h_96]
      have h_154 : w_106 10 = .inr (1, [.ref (adr_103 11), .int (nI nd)]) := by rw [(hf_104 10 (by omega)).2 (by omega), h_97] <;> simp only [b_112, b_113, b_114, b_115, b_116, b_117, b_118, b_119, b_120, b_121, b_122, b_123, b_124, b_125, b_126, b_127, b_128, b_129, b_130, b_131, b_132, b_133, b_134, b_135]
      have h_155 : w_106 11 = .inl (ac 0, 60, .inl (fun j => nI (du j))) := by rw [(hf_104 11 (by omega)).2 (by omega), h_98]
      have h_156 : w_106 12 = .inr (0, [.ref (adr_103 13)]) := by rw [(hf_104 12 (by omega)).2 (by omega), h_99] <;> simp only [b_112, b_113, b_114, b_115, b_116, b_117, b_118, b_119, b_120, b_121, b_122, b_123, b_124, b_125, b_126, b_127, b_128, b_129, b_130, b_131, b_132, b_133, b_134, b_135]
      have h_157 : w_106 13 = .inl (ac 0, 81, .inl T) := by rw [(hf_104 13 (by omega)).2 (by omega), h_100]
      have h_158 : w_106 (22 + 6 * no) = .inr (3, [.int 0, .int 0, .null, .int 0, .int 0, .int 0, .int 0]) := by rw [(hf_104 (22 + 6 * no) (by omega)).2 (by omega), h_101]
      refine c_callv (va_runI (mc := 0) (ms := 0) (As := [.int (nI no), .int b, .ref (adr_103 (22 + 6 * no + 1))]) (rest := [.ref (adr_103 (22 + 6 * no)), .int (nI no), .ref (adr_103 14)]) ⟨hx, hb, hml, hown, hts⟩ (k_X3_init l D ac _ A (fun q hq => hA q (Nat.le_trans hS.1 hq)) ((22 + 6 * no + 6)) adr_103 w_106 hM (22 + 6 * no) (by omega) h_158 (nI no) b hbv (adr_103 (22 + 6 * no + 1))) (cwI 3 hts gX7_order_X3_init rfl rfl rfl (hts _ (by decide +kernel)) (hts _ (by decide +kernel)) (hts _ (by decide +kernel)) rfl (by decide +kernel) ⟨(Nat.le_of_ble_eq_true rfl), (Nat.le_of_ble_eq_true rfl)⟩) (pS hK) rfl rfl hl.1 rfl (lv_room (Nat.le_of_ble_eq_true rfl)) dX7_order_57 ⟨(Nat.le_of_ble_eq_true rfl), (Nat.le_of_ble_eq_true rfl)⟩) hS (fun adr_159 w_162 H locs hw_162 hM hS => ?_)
      obtain ⟨hf_160, f_163⟩ := hw_162
      have he_161 : ∀ k, k < ((22 + 6 * no + 6)) → adr_103 k = adr_159 k := fun k hk => (hf_160 k hk).1
      have hM : MW D A (22 + 6 * no + 6) adr_159 w_162 H := hM
      have b_164 := he_161 0 (by omega)
      have b_165 := he_161 1 (by omega)
      have b_166 := he_161 2 (by omega)
      have b_167 := he_161 14 (by omega)
      have b_168 := he_161 15 (by omega)
      have b_169 := he_161 16 (by omega)
      have b_170 := he_161 17 (by omega)
      have b_171 := he_161 18 (by omega)
      have b_172 := he_161 19 (by omega)
      have b_173 := he_161 20 (by omega)
      have b_174 := he_161 21 (by omega)
      have b_175 := he_161 3 (by omega)
      have b_176 := he_161 4 (by omega)
      have b_177 := he_161 5 (by omega)
      have b_178 := he_161 6 (by omega)
      have b_179 := he_161 7 (by omega)
      have b_180 := he_161 8 (by omega)
      have b_181 := he_161 9 (by omega)
      have b_182 := he_161 10 (by omega)
      have b_183 := he_161 11 (by omega)
      have b_184 := he_161 12 (by omega)
      have b_185 := he_161 13 (by omega)
      have b_186 := he_161 (22 + 6 * no) (by omega)
      have b_187 := he_161 (22 + 6 * no + 1) (by omega)
      have b_188 := he_161 (22 + 6 * no + 2) (by omega)
      have b_189 := he_161 (22 + 6 * no + 3) (by omega)
      have b_190 := he_161 (22 + 6 * no + 4) (by omega)
      have b_191 := he_161 (22 + 6 * no + 5) (by omega)
      simp only [b_164, b_165, b_166, b_167, b_168, b_169, b_170, b_171, b_172, b_173, b_174, b_175, b_176, b_177, b_178, b_179, b_180, b_181, b_182, b_183, b_184, b_185, b_186, b_187, b_188, b_189, b_190, b_191] at hl
      try simp only [b_164, b_165, b_166, b_167, b_168, b_169, b_170, b_171, b_172, b_173, b_174, b_175, b_176, b_177, b_178, b_179, b_180, b_181, b_182, b_183, b_184, b_185, b_186, b_187, b_188, b_189, b_190, b_191]
      have h_192 : w_162 0 = .inr (7, [.ref (adr_159 1), .ref (adr_159 3), .ref (adr_159 7), .ref (adr_159 14), .ref (adr_159 15), .ref (adr_159 16), .ref (adr_159 18), .ref (adr_159 20), .ref (adr_159 21), .int (nI no), .int le, .int pr, .int ra]) := by rw [(hf_160 0 (by omega)).2 (by omega), h_136] <;> simp only [b_164, b_165, b_166, b_167, b_168, b_169, b_170, b_171, b_172, b_173, b_174, b_175, b_176, b_177, b_178, b_179, b_180, b_181, b_182, b_183, b_184, b_185, b_186, b_187, b_188, b_189, b_190, b_191]
      have h_193 : w_162 1 = .inr (4, [.ref (adr_159 2), .int (nI dl)]) := by rw [(hf_160 1 (by omega)).2 (by omega), h_137] <;> simp only [b_164, b_165, b_166, b_167, b_168, b_169, b_170, b_171, b_172, b_173, b_174, b_175, b_176, b_177, b_178, b_179, b_180, b_181, b_182, b_183, b_184, b_185, b_186, b_187, b_188, b_189, b_190, b_191]
      have h_194 : w_162 2 = .inl (ac 0, 8, .inl (fun j => nI (dw j))) := by rw [(hf_160 2 (by omega)).2 (by omega), h_138]
      have h_195 : w_162 14 = .inl (ac 3, 60, .inr (.inr (.inr (.inr (oref adr_159 no))))) := by rw [(hf_160 14 (by omega)).2 (by omega)]; exact (by rw [oref_adr he_161 (by omega)]; exact h_139)
      have h_196 : w_162 15 = .inl (ac 3, 4, .inr (.inr (.inr (.inr (href adr_159 hd))))) := by rw [(hf_160 15 (by omega)).2 (by omega)]; exact (by rw [href_adr he_161 (fun t o hh => by have := hho_ t o hh; omega)]; exact h_140)
      have h_197 : w_162 16 = .inr (1, [.ref (adr_159 17), .int (nI nr)]) := by rw [(hf_160 16 (by omega)).2 (by omega), h_141] <;> simp only [b_164, b_165, b_166, b_167, b_168, b_169, b_170, b_171, b_172, b_173, b_174, b_175, b_176, b_177, b_178, b_179, b_180, b_181, b_182, b_183, b_184, b_185, b_186, b_187, b_188, b_189, b_190, b_191]
      have h_198 : w_162 17 = .inl (ac 0, 60, .inl (fun j => nI (rq j))) := by rw [(hf_160 17 (by omega)).2 (by omega), h_142]
      have h_199 : w_162 18 = .inr (1, [.ref (adr_159 19), .int (nI nq)]) := by rw [(hf_160 18 (by omega)).2 (by omega), h_143] <;> simp only [b_164, b_165, b_166, b_167, b_168, b_169, b_170, b_171, b_172, b_173, b_174, b_175, b_176, b_177, b_178, b_179, b_180, b_181, b_182, b_183, b_184, b_185, b_186, b_187, b_188, b_189, b_190, b_191]
      have h_200 : w_162 19 = .inl (ac 0, 60, .inl (fun j => nI (oq j))) := by rw [(hf_160 19 (by omega)).2 (by omega), h_144]
      have h_201 : w_162 20 = .inl (ac 0, 4, .inl pd) := by rw [(hf_160 20 (by omega)).2 (by omega), h_145]
      have h_202 : w_162 21 = .inl (ac 0, 4, .inl er) := by rw [(hf_160 21 (by omega)).2 (by omega), h_146]
      have h_203 : w_162 3 = .inr (5, [.ref (adr_159 4), .ref (adr_159 5), .ref (adr_159 6)]) := by rw [(hf_160 3 (by omega)).2 (by omega), h_147] <;> simp only [b_164, b_165, b_166, b_167, b_168, b_169, b_170, b_171, b_172, b_173, b_174, b_175, b_176, b_177, b_178, b_179, b_180, b_181, b_182, b_183, b_184, b_185, b_186, b_187, b_188, b_189, b_190, b_191]
      have h_204 : w_162 4 = .inl (ac 0, 600, .inl fs) := by rw [(hf_160 4 (by omega)).2 (by omega), h_148]
      have h_205 : w_162 5 = .inl (ac 0, 200, .inl fr) := by rw [(hf_160 5 (by omega)).2 (by omega), h_149]
      have h_206 : w_162 6 = .inl (ac 0, 200, .inl (fun j => nI (ft j))) := by rw [(hf_160 6 (by omega)).2 (by omega), h_150]
      have h_207 : w_162 7 = .inr (2, [.ref (adr_159 8), .ref (adr_159 9), .ref (adr_159 10), .ref (adr_159 12), .int (nI ns)]) := by rw [(hf_160 7 (by omega)).2 (by omega), h_151] <;> simp only [b_164, b_165, b_166, b_167, b_168, b_169, b_170, b_171, b_172, b_173, b_174, b_175, b_176, b_177, b_178, b_179, b_180, b_181, b_182, b_183, b_184, b_185, b_186, b_187, b_188, b_189, b_190, b_191]
      have h_208 : w_162 8 = .inl (ac 4, 40, .inr (.inr (.inr (.inr (sref adr_159 ns so))))) := by rw [(hf_160 8 (by omega)).2 (by omega)]; exact (by rw [sref_adr he_161 (fun i hi => by have := hso i hi; omega)]; exact h_152)
      have h_209 : w_162 9 = .inl (ac 1, 50, .inr (.inl hv)) := by rw [(hf_160 9 (by omega)).2 (by omega), h_153]
      have h_210 : w_162 10 = .inr (1, [.ref (adr_159 11), .int (nI nd)]) := by rw [(hf_160 10 (by omega)).2 (by omega), h_154] <;> simp only [b_164, b_165, b_166, b_167, b_168, b_169, b_170, b_171, b_172, b_173, b_174, b_175, b_176, b_177, b_178, b_179, b_180, b_181, b_182, b_183, b_184, b_185, b_186, b_187, b_188, b_189, b_190, b_191]
      have h_211 : w_162 11 = .inl (ac 0, 60, .inl (fun j => nI (du j))) := by rw [(hf_160 11 (by omega)).2 (by omega), h_155]
      have h_212 : w_162 12 = .inr (0, [.ref (adr_159 13)]) := by rw [(hf_160 12 (by omega)).2 (by omega), h_156] <;> simp only [b_164, b_165, b_166, b_167, b_168, b_169, b_170, b_171, b_172, b_173, b_174, b_175, b_176, b_177, b_178, b_179, b_180, b_181, b_182, b_183, b_184, b_185, b_186, b_187, b_188, b_189, b_190, b_191]
      have h_213 : w_162 13 = .inl (ac 0, 81, .inl T) := by rw [(hf_160 13 (by omega)).2 (by omega), h_157]
      have h_214 : w_162 (22 + 6 * no + 1) = .inr (6, [.int (nI k9), .ref (adr_159 (22 + 6 * no + 2)), .ref (adr_159 (22 + 6 * no + 4))]) := by rw [(hf_160 (22 + 6 * no + 1) (by omega)).2 (by omega), f_107] <;> simp only [b_164, b_165, b_166, b_167, b_168, b_169, b_170, b_171, b_172, b_173, b_174, b_175, b_176, b_177, b_178, b_179, b_180, b_181, b_182, b_183, b_184, b_185, b_186, b_187, b_188, b_189, b_190, b_191]
      have h_215 : w_162 (22 + 6 * no + 2) = .inr (4, [.ref (adr_159 (22 + 6 * no + 3)), .int (nI dl)]) := by rw [(hf_160 (22 + 6 * no + 2) (by omega)).2 (by omega), f_108] <;> simp only [b_164, b_165, b_166, b_167, b_168, b_169, b_170, b_171, b_172, b_173, b_174, b_175, b_176, b_177, b_178, b_179, b_180, b_181, b_182, b_183, b_184, b_185, b_186, b_187, b_188, b_189, b_190, b_191]
      have h_216 : w_162 (22 + 6 * no + 3) = .inl (ac 0, 8, .inl (fun j => nI (mixN dl dw j))) := by rw [(hf_160 (22 + 6 * no + 3) (by omega)).2 (by omega), f_109]
      have h_217 : w_162 (22 + 6 * no + 4) = .inr (4, [.ref (adr_159 (22 + 6 * no + 5)), .int (nI dl)]) := by rw [(hf_160 (22 + 6 * no + 4) (by omega)).2 (by omega), f_110] <;> simp only [b_164, b_165, b_166, b_167, b_168, b_169, b_170, b_171, b_172, b_173, b_174, b_175, b_176, b_177, b_178, b_179, b_180, b_181, b_182, b_183, b_184, b_185, b_186, b_187, b_188, b_189, b_190, b_191]
      have h_218 : w_162 (22 + 6 * no + 5) = .inl (ac 0, 8, .inl (mixF dl (fun _ => -1) (fun _ => 0))) := by rw [(hf_160 (22 + 6 * no + 5) (by omega)).2 (by omega), f_111]
      have h_219 : w_162 (22 + 6 * no) = .inr (3, [.int (nI no), .int b, .ref (adr_159 (22 + 6 * no + 1)), .int (-1), .int (-1), .int 0, .int 0]) := by rw [f_163] <;> simp only [he_161 ((22 + 6 * no + 1)) (by omega)]
      refine m_astq hx hb hK hM hS 3 14 (by omega) h_195 (22 + 6 * no) 3 (by omega) h_219 rfl rfl (vp_in_nI (by omega) (by decide)) dX7_order_60 (fun H locs hM hS => ?_)
      have ef_ : (va_up (oref adr_159 no) (nI no).toNatClampNeg (some (adr_159 (22 + 6 * no)))) = oref adr_159 (no + 1) := by rw [nI_clamp (by omega)]; exact oref_push
      rw [ef_] at hM
      clear ef_
      obtain ⟨w_220, ew_220⟩ : ∃ z9_, z9_ = va_up w_162 14 (.inl (ac 3, 60, .inr (.inr (.inr (.inr (oref adr_159 (no + 1))))))) := ⟨_, rfl⟩
      rw [← ew_220] at hM
      have h_221 : w_220 0 = .inr (7, [.ref (adr_159 1), .ref (adr_159 3), .ref (adr_159 7), .ref (adr_159 14), .ref (adr_159 15), .ref (adr_159 16), .ref (adr_159 18), .ref (adr_159 20), .ref (adr_159 21), .int (nI no), .int le, .int pr, .int ra]) := by rw [ew_220, va_up_ne _ _ (by omega)]; exact h_192
      have h_222 : w_220 1 = .inr (4, [.ref (adr_159 2), .int (nI dl)]) := by rw [ew_220, va_up_ne _ _ (by omega)]; exact h_193
      have h_223 : w_220 2 = .inl (ac 0, 8, .inl (fun j => nI (dw j))) := by rw [ew_220, va_up_ne _ _ (by omega)]; exact h_194
      have h_224 : w_220 14 = .inl (ac 3, 60, .inr (.inr (.inr (.inr (oref adr_159 (no + 1)))))) := by rw [ew_220]; exact va_up_self _ _ _
      have h_225 : w_220 15 = .inl (ac 3, 4, .inr (.inr (.inr (.inr (href adr_159 hd))))) := by rw [ew_220, va_up_ne _ _ (by omega)]; exact h_196
      have h_226 : w_220 16 = .inr (1, [.ref (adr_159 17), .int (nI nr)]) := by rw [ew_220, va_up_ne _ _ (by omega)]; exact h_197
      have h_227 : w_220 17 = .inl (ac 0, 60, .inl (fun j => nI (rq j))) := by rw [ew_220, va_up_ne _ _ (by omega)]; exact h_198
      have h_228 : w_220 18 = .inr (1, [.ref (adr_159 19), .int (nI nq)]) := by rw [ew_220, va_up_ne _ _ (by omega)]; exact h_199
      have h_229 : w_220 19 = .inl (ac 0, 60, .inl (fun j => nI (oq j))) := by rw [ew_220, va_up_ne _ _ (by omega)]; exact h_200
      have h_230 : w_220 20 = .inl (ac 0, 4, .inl pd) := by rw [ew_220, va_up_ne _ _ (by omega)]; exact h_201
      have h_231 : w_220 21 = .inl (ac 0, 4, .inl er) := by rw [ew_220, va_up_ne _ _ (by omega)]; exact h_202
      have h_232 : w_220 3 = .inr (5, [.ref (adr_159 4), .ref (adr_159 5), .ref (adr_159 6)]) := by rw [ew_220, va_up_ne _ _ (by omega)]; exact h_203
      have h_233 : w_220 4 = .inl (ac 0, 600, .inl fs) := by rw [ew_220, va_up_ne _ _ (by omega)]; exact h_204
      have h_234 : w_220 5 = .inl (ac 0, 200, .inl fr) := by rw [ew_220, va_up_ne _ _ (by omega)]; exact h_205
      have h_235 : w_220 6 = .inl (ac 0, 200, .inl (fun j => nI (ft j))) := by rw [ew_220, va_up_ne _ _ (by omega)]; exact h_206
      have h_236 : w_220 7 = .inr (2, [.ref (adr_159 8), .ref (adr_159 9), .ref (adr_159 10), .ref (adr_159 12), .int (nI ns)]) := by rw [ew_220, va_up_ne _ _ (by omega)]; exact h_207
      have h_237 : w_220 8 = .inl (ac 4, 40, .inr (.inr (.inr (.inr (sref adr_159 ns so))))) := by rw [ew_220, va_up_ne _ _ (by omega)]; exact h_208
      have h_238 : w_220 9 = .inl (ac 1, 50, .inr (.inl hv)) := by rw [ew_220, va_up_ne _ _ (by omega)]; exact h_209
      have h_239 : w_220 10 = .inr (1, [.ref (adr_159 11), .int (nI nd)]) := by rw [ew_220, va_up_ne _ _ (by omega)]; exact h_210
      have h_240 : w_220 11 = .inl (ac 0, 60, .inl (fun j => nI (du j))) := by rw [ew_220, va_up_ne _ _ (by omega)]; exact h_211
      have h_241 : w_220 12 = .inr (0, [.ref (adr_159 13)]) := by rw [ew_220, va_up_ne _ _ (by omega)]; exact h_212
      have h_242 : w_220 13 = .inl (ac 0, 81, .inl T) := by rw [ew_220, va_up_ne _ _ (by omega)]; exact h_213
      have h_243 : w_220 (22 + 6 * no + 1) = .inr (6, [.int (nI k9), .ref (adr_159 (22 + 6 * no + 2)), .ref (adr_159 (22 + 6 * no + 4))]) := by rw [ew_220, va_up_ne _ _ (by omega)]; exact h_214
      have h_244 : w_220 (22 + 6 * no + 2) = .inr (4, [.ref (adr_159 (22 + 6 * no + 3)), .int (nI dl)]) := by rw [ew_220, va_up_ne _ _ (by omega)]; exact h_215
      have h_245 : w_220 (22 + 6 * no + 3) = .inl (ac 0, 8, .inl (fun j => nI (mixN dl dw j))) := by rw [ew_220, va_up_ne _ _ (by omega)]; exact h_216
      have h_246 : w_220 (22 + 6 * no + 4) = .inr (4, [.ref (adr_159 (22 + 6 * no + 5)), .int (nI dl)]) := by rw [ew_220, va_up_ne _ _ (by omega)]; exact h_217
      have h_247 : w_220 (22 + 6 * no + 5) = .inl (ac 0, 8, .inl (mixF dl (fun _ => -1) (fun _ => 0))) := by rw [ew_220, va_up_ne _ _ (by omega)]; exact h_218
      have h_248 : w_220 (22 + 6 * no) = .inr (3, [.int (nI no), .int b, .ref (adr_159 (22 + 6 * no + 1)), .int (-1), .int (-1), .int 0, .int 0]) := by rw [ew_220, va_up_ne _ _ (by omega)]; exact h_219
      refine lv_aload_n hx hb dX7_order_61 rfl (lv_at hl 1 rfl) ?_
      refine lv_dup hx hb dX7_order_62 rfl ?_
      refine m_get (ci := 7) (C := RX7) (T := TX7) (n := 13) (v := .int (nI no)) hx hb hts inX7_ hown hK rfl (hM.cel (by omega) h_221) 9 (by decide) (hts _ (by decide +kernel)) rfl dX7_order_63 ?_
      refine lv_iconst (v := 1) hx hb dX7_order_66 (by decide) ?_
      refine lv_iadd hx hb dX7_order_67 ?_
      refine m_top (show ((nI no) + 1) = nI (no + 1) from nI_1 _) ?_
      refine m_put (ci := 7) (C := RX7) (T := TX7) (n := 13) (v := .int (nI (no + 1))) (ty := tyX7 9) hx hb hts inX7_ tyX7 tyX7_ok nmX7 hown hK hM hS rfl 0 (by omega) h_221 9 (by decide) (hts _ (by decide +kernel)) rfl (by decide +kernel) rfl rfl (Nat.le_of_ble_eq_true rfl) dX7_order_68 (fun H locs hM hS => ?_)
      have hM : MW D A (22 + 6 * no + 6) adr_159 (va_up w_220 0 (.inr (7, [.ref (adr_159 1), .ref (adr_159 3), .ref (adr_159 7), .ref (adr_159 14), .ref (adr_159 15), .ref (adr_159 16), .ref (adr_159 18), .ref (adr_159 20), .ref (adr_159 21), .int (nI (no + 1)), .int le, .int pr, .int ra]))) H := hM
      obtain ⟨w_249, ew_249⟩ : ∃ z9_, z9_ = va_up w_220 0 (.inr (7, [.ref (adr_159 1), .ref (adr_159 3), .ref (adr_159 7), .ref (adr_159 14), .ref (adr_159 15), .ref (adr_159 16), .ref (adr_159 18), .ref (adr_159 20), .ref (adr_159 21), .int (nI (no + 1)), .int le, .int pr, .int ra])) := ⟨_, rfl⟩
      rw [← ew_249] at hM
      have h_250 : w_249 0 = .inr (7, [.ref (adr_159 1), .ref (adr_159 3), .ref (adr_159 7), .ref (adr_159 14), .ref (adr_159 15), .ref (adr_159 16), .ref (adr_159 18), .ref (adr_159 20), .ref (adr_159 21), .int (nI (no + 1)), .int le, .int pr, .int ra]) := by rw [ew_249]; exact va_up_self _ _ _
      have h_251 : w_249 1 = .inr (4, [.ref (adr_159 2), .int (nI dl)]) := by rw [ew_249, va_up_ne _ _ (by omega)]; exact h_222
      have h_252 : w_249 2 = .inl (ac 0, 8, .inl (fun j => nI (dw j))) := by rw [ew_249, va_up_ne _ _ (by omega)]; exact h_223
      have h_253 : w_249 14 = .inl (ac 3, 60, .inr (.inr (.inr (.inr (oref adr_159 (no + 1)))))) := by rw [ew_249, va_up_ne _ _ (by omega)]; exact h_224
      have h_254 : w_249 15 = .inl (ac 3, 4, .inr (.inr (.inr (.inr (href adr_159 hd))))) := by rw [ew_249, va_up_ne _ _ (by omega)]; exact h_225
      have h_255 : w_249 16 = .inr (1, [.ref (adr_159 17), .int (nI nr)]) := by rw [ew_249, va_up_ne _ _ (by omega)]; exact h_226
      have h_256 : w_249 17 = .inl (ac 0, 60, .inl (fun j => nI (rq j))) := by rw [ew_249, va_up_ne _ _ (by omega)]; exact h_227
      have h_257 : w_249 18 = .inr (1, [.ref (adr_159 19), .int (nI nq)]) := by rw [ew_249, va_up_ne _ _ (by omega)]; exact h_228
      have h_258 : w_249 19 = .inl (ac 0, 60, .inl (fun j => nI (oq j))) := by rw [ew_249, va_up_ne _ _ (by omega)]; exact h_229
      have h_259 : w_249 20 = .inl (ac 0, 4, .inl pd) := by rw [ew_249, va_up_ne _ _ (by omega)]; exact h_230
      have h_260 : w_249 21 = .inl (ac 0, 4, .inl er) := by rw [ew_249, va_up_ne _ _ (by omega)]; exact h_231
      have h_261 : w_249 3 = .inr (5, [.ref (adr_159 4), .ref (adr_159 5), .ref (adr_159 6)]) := by rw [ew_249, va_up_ne _ _ (by omega)]; exact h_232
      have h_262 : w_249 4 = .inl (ac 0, 600, .inl fs) := by rw [ew_249, va_up_ne _ _ (by omega)]; exact h_233
      have h_263 : w_249 5 = .inl (ac 0, 200, .inl fr) := by rw [ew_249, va_up_ne _ _ (by omega)]; exact h_234
      have h_264 : w_249 6 = .inl (ac 0, 200, .inl (fun j => nI (ft j))) := by rw [ew_249, va_up_ne _ _ (by omega)]; exact h_235
      have h_265 : w_249 7 = .inr (2, [.ref (adr_159 8), .ref (adr_159 9), .ref (adr_159 10), .ref (adr_159 12), .int (nI ns)]) := by rw [ew_249, va_up_ne _ _ (by omega)]; exact h_236
      have h_266 : w_249 8 = .inl (ac 4, 40, .inr (.inr (.inr (.inr (sref adr_159 ns so))))) := by rw [ew_249, va_up_ne _ _ (by omega)]; exact h_237
      have h_267 : w_249 9 = .inl (ac 1, 50, .inr (.inl hv)) := by rw [ew_249, va_up_ne _ _ (by omega)]; exact h_238
      have h_268 : w_249 10 = .inr (1, [.ref (adr_159 11), .int (nI nd)]) := by rw [ew_249, va_up_ne _ _ (by omega)]; exact h_239
      have h_269 : w_249 11 = .inl (ac 0, 60, .inl (fun j => nI (du j))) := by rw [ew_249, va_up_ne _ _ (by omega)]; exact h_240
      have h_270 : w_249 12 = .inr (0, [.ref (adr_159 13)]) := by rw [ew_249, va_up_ne _ _ (by omega)]; exact h_241
      have h_271 : w_249 13 = .inl (ac 0, 81, .inl T) := by rw [ew_249, va_up_ne _ _ (by omega)]; exact h_242
      have h_272 : w_249 (22 + 6 * no + 1) = .inr (6, [.int (nI k9), .ref (adr_159 (22 + 6 * no + 2)), .ref (adr_159 (22 + 6 * no + 4))]) := by rw [ew_249, va_up_ne _ _ (by omega)]; exact h_243
      have h_273 : w_249 (22 + 6 * no + 2) = .inr (4, [.ref (adr_159 (22 + 6 * no + 3)), .int (nI dl)]) := by rw [ew_249, va_up_ne _ _ (by omega)]; exact h_244
      have h_274 : w_249 (22 + 6 * no + 3) = .inl (ac 0, 8, .inl (fun j => nI (mixN dl dw j))) := by rw [ew_249, va_up_ne _ _ (by omega)]; exact h_245
      have h_275 : w_249 (22 + 6 * no + 4) = .inr (4, [.ref (adr_159 (22 + 6 * no + 5)), .int (nI dl)]) := by rw [ew_249, va_up_ne _ _ (by omega)]; exact h_246
      have h_276 : w_249 (22 + 6 * no + 5) = .inl (ac 0, 8, .inl (mixF dl (fun _ => -1) (fun _ => 0))) := by rw [ew_249, va_up_ne _ _ (by omega)]; exact h_247
      have h_277 : w_249 (22 + 6 * no) = .inr (3, [.int (nI no), .int b, .ref (adr_159 (22 + 6 * no + 1)), .int (-1), .int (-1), .int 0, .int 0]) := by rw [ew_249, va_up_ne _ _ (by omega)]; exact h_248
      refine lv_aload_n hx hb dX7_order_71 rfl (lv_at hl 1 rfl) ?_
      refine lv_iload_n hx hb dX7_order_72 rfl (lv_at hl 3 rfl) ?_
      refine r_callq (va_runV (As := [.int b]) (rest := []) ⟨hx, hb, hml, hown, hts⟩ (k_X7_deskFor l D ac _ (adr_159 0) (adr_159 16) (adr_159 18) (.ref (adr_159 1)) (.ref (adr_159 3)) (.ref (adr_159 7)) (.ref (adr_159 14)) (.ref (adr_159 15)) (.ref (adr_159 20)) (.ref (adr_159 21)) (.int (nI (no + 1))) (.int le) (.int pr) (.int ra) (hM.cel (by omega) h_250) b) (cwV 1 hts gX7_order_X7_deskFor rfl rfl rfl (by decide +kernel) ⟨Nat.le_of_ble_eq_true rfl, Nat.le_of_ble_eq_true rfl⟩) (pV hK (ci := 7) rfl (hM.cel (by omega) h_250)) rfl rfl hl.1 rfl (lv_room (Nat.le_of_ble_eq_true rfl)) dX7_order_73 ⟨Nat.le_of_ble_eq_true rfl, Nat.le_of_ble_eq_true rfl⟩) hS (fun rv_278 locs hrv_278 hS => ?_)
      subst hrv_278
      by_cases hb0_ : b = 0
      · refine m_topq (if_pos hb0_) ?_
        refine m_topr ?_
        refine lv_iload_n hx hb dX7_order_76 rfl (lv_at hl 0 rfl) ?_
        refine w_callv (va_runV (As := [.int (nI no)]) (rest := []) ⟨hx, hb, hml, hown, hts⟩ (k_X1_addLast l D ac _ A (22 + 6 * no + 6) adr_159 w_249 hM 18 19 nq (fun j => nI (oq j)) (by omega) (by omega) (by omega) h_257 h_258 (by omega) (nI no)) (cwV 1 hts gX7_order_X1_addLast rfl rfl rfl (by decide +kernel) ⟨Nat.le_of_ble_eq_true rfl, Nat.le_of_ble_eq_true rfl⟩) (pV hK (ci := 1) rfl (hM.cel (by omega) h_257)) rfl rfl hl.1 rfl (lv_room (Nat.le_of_ble_eq_true rfl)) dX7_order_77 ⟨Nat.le_of_ble_eq_true rfl, Nat.le_of_ble_eq_true rfl⟩) hS (fun w_280 H locs hw_280 hM hS => ?_)
        rw [upd_nI] at hw_280
        have h_281 : w_280 0 = .inr (7, [.ref (adr_159 1), .ref (adr_159 3), .ref (adr_159 7), .ref (adr_159 14), .ref (adr_159 15), .ref (adr_159 16), .ref (adr_159 18), .ref (adr_159 20), .ref (adr_159 21), .int (nI (no + 1)), .int le, .int pr, .int ra]) := by rw [hw_280, va_up_ne _ _ (by omega), va_up_ne _ _ (by omega)]; exact h_250
        have h_282 : w_280 1 = .inr (4, [.ref (adr_159 2), .int (nI dl)]) := by rw [hw_280, va_up_ne _ _ (by omega), va_up_ne _ _ (by omega)]; exact h_251
        have h_283 : w_280 2 = .inl (ac 0, 8, .inl (fun j => nI (dw j))) := by rw [hw_280, va_up_ne _ _ (by omega), va_up_ne _ _ (by omega)]; exact h_252
        have h_284 : w_280 14 = .inl (ac 3, 60, .inr (.inr (.inr (.inr (oref adr_159 (no + 1)))))) := by rw [hw_280, va_up_ne _ _ (by omega), va_up_ne _ _ (by omega)]; exact h_253
        have h_285 : w_280 15 = .inl (ac 3, 4, .inr (.inr (.inr (.inr (href adr_159 hd))))) := by rw [hw_280, va_up_ne _ _ (by omega), va_up_ne _ _ (by omega)]; exact h_254
        have h_286 : w_280 16 = .inr (1, [.ref (adr_159 17), .int (nI nr)]) := by rw [hw_280, va_up_ne _ _ (by omega), va_up_ne _ _ (by omega)]; exact h_255
        have h_287 : w_280 17 = .inl (ac 0, 60, .inl (fun j => nI (rq j))) := by rw [hw_280, va_up_ne _ _ (by omega), va_up_ne _ _ (by omega)]; exact h_256
        have h_288 : w_280 18 = .inr (1, [.ref (adr_159 19), .int (nI (nq + 1))]) := by rw [hw_280]; exact va_up_self _ _ _
        have h_289 : w_280 19 = .inl (ac 0, 60, .inl (fun j => nI (va_up oq nq no j))) := by rw [hw_280, va_up_ne _ _ (by omega)]; exact va_up_self _ _ _
        have h_290 : w_280 20 = .inl (ac 0, 4, .inl pd) := by rw [hw_280, va_up_ne _ _ (by omega), va_up_ne _ _ (by omega)]; exact h_259
        have h_291 : w_280 21 = .inl (ac 0, 4, .inl er) := by rw [hw_280, va_up_ne _ _ (by omega), va_up_ne _ _ (by omega)]; exact h_260
        have h_292 : w_280 3 = .inr (5, [.ref (adr_159 4), .ref (adr_159 5), .ref (adr_159 6)]) := by rw [hw_280, va_up_ne _ _ (by omega), va_up_ne _ _ (by omega)]; exact h_261
        have h_293 : w_280 4 = .inl (ac 0, 600, .inl fs) := by rw [hw_280, va_up_ne _ _ (by omega), va_up_ne _ _ (by omega)]; exact h_262
        have h_294 : w_280 5 = .inl (ac 0, 200, .inl fr) := by rw [hw_280, va_up_ne _ _ (by omega), va_up_ne _ _ (by omega)]; exact h_263
        have h_295 : w_280 6 = .inl (ac 0, 200, .inl (fun j => nI (ft j))) := by rw [hw_280, va_up_ne _ _ (by omega), va_up_ne _ _ (by omega)]; exact h_264
        have h_296 : w_280 7 = .inr (2, [.ref (adr_159 8), .ref (adr_159 9), .ref (adr_159 10), .ref (adr_159 12), .int (nI ns)]) := by rw [hw_280, va_up_ne _ _ (by omega), va_up_ne _ _ (by omega)]; exact h_265
        have h_297 : w_280 8 = .inl (ac 4, 40, .inr (.inr (.inr (.inr (sref adr_159 ns so))))) := by rw [hw_280, va_up_ne _ _ (by omega), va_up_ne _ _ (by omega)]; exact h_266
        have h_298 : w_280 9 = .inl (ac 1, 50, .inr (.inl hv)) := by rw [hw_280, va_up_ne _ _ (by omega), va_up_ne _ _ (by omega)]; exact h_267
        have h_299 : w_280 10 = .inr (1, [.ref (adr_159 11), .int (nI nd)]) := by rw [hw_280, va_up_ne _ _ (by omega), va_up_ne _ _ (by omega)]; exact h_268
        have h_300 : w_280 11 = .inl (ac 0, 60, .inl (fun j => nI (du j))) := by rw [hw_280, va_up_ne _ _ (by omega), va_up_ne _ _ (by omega)]; exact h_269
        have h_301 : w_280 12 = .inr (0, [.ref (adr_159 13)]) := by rw [hw_280, va_up_ne _ _ (by omega), va_up_ne _ _ (by omega)]; exact h_270
        have h_302 : w_280 13 = .inl (ac 0, 81, .inl T) := by rw [hw_280, va_up_ne _ _ (by omega), va_up_ne _ _ (by omega)]; exact h_271
        have h_303 : w_280 (22 + 6 * no + 1) = .inr (6, [.int (nI k9), .ref (adr_159 (22 + 6 * no + 2)), .ref (adr_159 (22 + 6 * no + 4))]) := by rw [hw_280, va_up_ne _ _ (by omega), va_up_ne _ _ (by omega)]; exact h_272
        have h_304 : w_280 (22 + 6 * no + 2) = .inr (4, [.ref (adr_159 (22 + 6 * no + 3)), .int (nI dl)]) := by rw [hw_280, va_up_ne _ _ (by omega), va_up_ne _ _ (by omega)]; exact h_273
        have h_305 : w_280 (22 + 6 * no + 3) = .inl (ac 0, 8, .inl (fun j => nI (mixN dl dw j))) := by rw [hw_280, va_up_ne _ _ (by omega), va_up_ne _ _ (by omega)]; exact h_274
        have h_306 : w_280 (22 + 6 * no + 4) = .inr (4, [.ref (adr_159 (22 + 6 * no + 5)), .int (nI dl)]) := by rw [hw_280, va_up_ne _ _ (by omega), va_up_ne _ _ (by omega)]; exact h_275
        have h_307 : w_280 (22 + 6 * no + 5) = .inl (ac 0, 8, .inl (mixF dl (fun _ => -1) (fun _ => 0))) := by rw [hw_280, va_up_ne _ _ (by omega), va_up_ne _ _ (by omega)]; exact h_276
        have h_308 : w_280 (22 + 6 * no) = .inr (3, [.int (nI no), .int b, .ref (adr_159 (22 + 6 * no + 1)), .int (-1), .int (-1), .int 0, .int 0]) := by rw [hw_280, va_up_ne _ _ (by omega), va_up_ne _ _ (by omega)]; exact h_277
        refine lv_iload_n hx hb dX7_order_80 rfl (lv_at hl 0 rfl) ?_
        have hE_ : ∀ k, k < 22 + 6 * no → adr k = adr_159 k := fun k9 hk9 => ((he_6 k9 (by omega)).trans ((he_54 k9 (by omega)).trans ((he_105 k9 (by omega)).trans (he_161 k9 (by omega)))))
        have hF_ : ∀ k, 22 ≤ k → k < 22 + 6 * no → w_280 k = w k := fun k hk1 hk2 => by rw [hw_280, va_up_ne _ _ (by omega), va_up_ne _ _ (by omega), ew_249, va_up_ne _ _ (by omega), ew_220, va_up_ne _ _ (by omega), (hf_160 k (by omega)).2 (by omega), (hf_104 k (by omega)).2 (by omega), ew_55, va_up_ne _ _ (by omega), ew_7, va_up_ne _ _ (by omega)]
        rw [hQ0]
        exact ex_oi (post := fun r adr2 w1 => ∃ k, k < 4 ∧ nI k9 = nI k ∧ 0 < dl ∧ no < 60 ∧ r = nI no ∧ (∀ k, k < 22 + 6 * no → adr k = adr2 k) ∧ ((b = 0 ∧ HR ac adr2 w1 dl dw fs fr ft ns so hv nd du T nr rq (nq + 1) (va_up oq nq no) pd er (no + 1) (va_up oc no k) (va_up on_ no dl) (va_up owd no (mixN dl dw)) (va_up obf no (mixF dl (fun _ => -1) (fun _ => 0))) (va_up rb no b) (va_up st no (-1)) (va_up mt no (-1)) (va_up co no 0) (va_up py no 0) hd le pr ra) ∨ (¬ b = 0 ∧ HR ac adr2 w1 dl dw fs fr ft ns so hv nd du T (nr + 1) (va_up rq nr no) nq oq pd er (no + 1) (va_up oc no k) (va_up on_ no dl) (va_up owd no (mixN dl dw)) (va_up obf no (mixF dl (fun _ => -1) (fun _ => 0))) (va_up rb no b) (va_up st no (-1)) (va_up mt no (-1)) (va_up co no 0) (va_up py no 0) hd le pr ra))) hx hb hlocks hr dX7_order_81 (Nat.le_of_ble_eq_true rfl) (Nat.le_of_ble_eq_true rfl) hM hS (⟨k9, hk_k9, rfl, hdl0_, hno60_, rfl, hE_, Or.inl ⟨hb0_, ⟨h_281, ⟨h_282, h_283, hdr.2.2⟩, ⟨h_292, h_293, h_294, h_295⟩, ⟨h_296, h_297, h_298, h_299, h_300, h_301, h_302, hm.2.2.2.2.2.2.2⟩, hS1.push hE_ hF_ (by unfold SenW; rw [show 23 + 6 * no = 22 + 6 * no + 1 from by omega]; exact ⟨h_303, h_304, h_305, h_306, h_307, hdl0_, hdr.2.2.1, hk_k9, fun j hj => by rw [mixN_lt hj]; exact hdr.2.2.2 j hj⟩), hO1.push hE_ hF_ (by rw [show 23 + 6 * no = 22 + 6 * no + 1 from by omega]; exact h_308), ⟨h_286, h_287, h_288, h_289, by omega, by omega⟩, ⟨h_284, h_285, by omega⟩, ⟨h_290, h_291⟩, hin_.push_o hb0_⟩⟩⟩)
      · refine m_topq (if_neg hb0_) ?_
        refine m_topr ?_
        refine lv_iload_n hx hb dX7_order_76 rfl (lv_at hl 0 rfl) ?_
        refine w_callv (va_runV (As := [.int (nI no)]) (rest := []) ⟨hx, hb, hml, hown, hts⟩ (k_X1_addLast l D ac _ A (22 + 6 * no + 6) adr_159 w_249 hM 16 17 nr (fun j => nI (rq j)) (by omega) (by omega) (by omega) h_255 h_256 (by omega) (nI no)) (cwV 1 hts gX7_order_X1_addLast rfl rfl rfl (by decide +kernel) ⟨Nat.le_of_ble_eq_true rfl, Nat.le_of_ble_eq_true rfl⟩) (pV hK (ci := 1) rfl (hM.cel (by omega) h_255)) rfl rfl hl.1 rfl (lv_room (Nat.le_of_ble_eq_true rfl)) dX7_order_77 ⟨Nat.le_of_ble_eq_true rfl, Nat.le_of_ble_eq_true rfl⟩) hS (fun w_310 H locs hw_310 hM hS => ?_)
        rw [upd_nI] at hw_310
        have h_311 : w_310 0 = .inr (7, [.ref (adr_159 1), .ref (adr_159 3), .ref (adr_159 7), .ref (adr_159 14), .ref (adr_159 15), .ref (adr_159 16), .ref (adr_159 18), .ref (adr_159 20), .ref (adr_159 21), .int (nI (no + 1)), .int le, .int pr, .int ra]) := by rw [hw_310, va_up_ne _ _ (by omega), va_up_ne _ _ (by omega)]; exact h_250
        have h_312 : w_310 1 = .inr (4, [.ref (adr_159 2), .int (nI dl)]) := by rw [hw_310, va_up_ne _ _ (by omega), va_up_ne _ _ (by omega)]; exact h_251
        have h_313 : w_310 2 = .inl (ac 0, 8, .inl (fun j => nI (dw j))) := by rw [hw_310, va_up_ne _ _ (by omega), va_up_ne _ _ (by omega)]; exact h_252
        have h_314 : w_310 14 = .inl (ac 3, 60, .inr (.inr (.inr (.inr (oref adr_159 (no + 1)))))) := by rw [hw_310, va_up_ne _ _ (by omega), va_up_ne _ _ (by omega)]; exact h_253
        have h_315 : w_310 15 = .inl (ac 3, 4, .inr (.inr (.inr (.inr (href adr_159 hd))))) := by rw [hw_310, va_up_ne _ _ (by omega), va_up_ne _ _ (by omega)]; exact h_254
        have h_316 : w_310 16 = .inr (1, [.ref (adr_159 17), .int (nI (nr + 1))]) := by rw [hw_310]; exact va_up_self _ _ _
        have h_317 : w_310 17 = .inl (ac 0, 60, .inl (fun j => nI (va_up rq nr no j))) := by rw [hw_310, va_up_ne _ _ (by omega)]; exact va_up_self _ _ _
        have h_318 : w_310 18 = .inr (1, [.ref (adr_159 19), .int (nI nq)]) := by rw [hw_310, va_up_ne _ _ (by omega), va_up_ne _ _ (by omega)]; exact h_257
        have h_319 : w_310 19 = .inl (ac 0, 60, .inl (fun j => nI (oq j))) := by rw [hw_310, va_up_ne _ _ (by omega), va_up_ne _ _ (by omega)]; exact h_258
        have h_320 : w_310 20 = .inl (ac 0, 4, .inl pd) := by rw [hw_310, va_up_ne _ _ (by omega), va_up_ne _ _ (by omega)]; exact h_259
        have h_321 : w_310 21 = .inl (ac 0, 4, .inl er) := by rw [hw_310, va_up_ne _ _ (by omega), va_up_ne _ _ (by omega)]; exact h_260
        have h_322 : w_310 3 = .inr (5, [.ref (adr_159 4), .ref (adr_159 5), .ref (adr_159 6)]) := by rw [hw_310, va_up_ne _ _ (by omega), va_up_ne _ _ (by omega)]; exact h_261
        have h_323 : w_310 4 = .inl (ac 0, 600, .inl fs) := by rw [hw_310, va_up_ne _ _ (by omega), va_up_ne _ _ (by omega)]; exact h_262
        have h_324 : w_310 5 = .inl (ac 0, 200, .inl fr) := by rw [hw_310, va_up_ne _ _ (by omega), va_up_ne _ _ (by omega)]; exact h_263
        have h_325 : w_310 6 = .inl (ac 0, 200, .inl (fun j => nI (ft j))) := by rw [hw_310, va_up_ne _ _ (by omega), va_up_ne _ _ (by omega)]; exact h_264
        have h_326 : w_310 7 = .inr (2, [.ref (adr_159 8), .ref (adr_159 9), .ref (adr_159 10), .ref (adr_159 12), .int (nI ns)]) := by rw [hw_310, va_up_ne _ _ (by omega), va_up_ne _ _ (by omega)]; exact h_265
        have h_327 : w_310 8 = .inl (ac 4, 40, .inr (.inr (.inr (.inr (sref adr_159 ns so))))) := by rw [hw_310, va_up_ne _ _ (by omega), va_up_ne _ _ (by omega)]; exact h_266
        have h_328 : w_310 9 = .inl (ac 1, 50, .inr (.inl hv)) := by rw [hw_310, va_up_ne _ _ (by omega), va_up_ne _ _ (by omega)]; exact h_267
        have h_329 : w_310 10 = .inr (1, [.ref (adr_159 11), .int (nI nd)]) := by rw [hw_310, va_up_ne _ _ (by omega), va_up_ne _ _ (by omega)]; exact h_268
        have h_330 : w_310 11 = .inl (ac 0, 60, .inl (fun j => nI (du j))) := by rw [hw_310, va_up_ne _ _ (by omega), va_up_ne _ _ (by omega)]; exact h_269
        have h_331 : w_310 12 = .inr (0, [.ref (adr_159 13)]) := by rw [hw_310, va_up_ne _ _ (by omega), va_up_ne _ _ (by omega)]; exact h_270
        have h_332 : w_310 13 = .inl (ac 0, 81, .inl T) := by rw [hw_310, va_up_ne _ _ (by omega), va_up_ne _ _ (by omega)]; exact h_271
        have h_333 : w_310 (22 + 6 * no + 1) = .inr (6, [.int (nI k9), .ref (adr_159 (22 + 6 * no + 2)), .ref (adr_159 (22 + 6 * no + 4))]) := by rw [hw_310, va_up_ne _ _ (by omega), va_up_ne _ _ (by omega)]; exact h_272
        have h_334 : w_310 (22 + 6 * no + 2) = .inr (4, [.ref (adr_159 (22 + 6 * no + 3)), .int (nI dl)]) := by rw [hw_310, va_up_ne _ _ (by omega), va_up_ne _ _ (by omega)]; exact h_273
        have h_335 : w_310 (22 + 6 * no + 3) = .inl (ac 0, 8, .inl (fun j => nI (mixN dl dw j))) := by rw [hw_310, va_up_ne _ _ (by omega), va_up_ne _ _ (by omega)]; exact h_274
        have h_336 : w_310 (22 + 6 * no + 4) = .inr (4, [.ref (adr_159 (22 + 6 * no + 5)), .int (nI dl)]) := by rw [hw_310, va_up_ne _ _ (by omega), va_up_ne _ _ (by omega)]; exact h_275
        have h_337 : w_310 (22 + 6 * no + 5) = .inl (ac 0, 8, .inl (mixF dl (fun _ => -1) (fun _ => 0))) := by rw [hw_310, va_up_ne _ _ (by omega), va_up_ne _ _ (by omega)]; exact h_276
        have h_338 : w_310 (22 + 6 * no) = .inr (3, [.int (nI no), .int b, .ref (adr_159 (22 + 6 * no + 1)), .int (-1), .int (-1), .int 0, .int 0]) := by rw [hw_310, va_up_ne _ _ (by omega), va_up_ne _ _ (by omega)]; exact h_277
        refine lv_iload_n hx hb dX7_order_80 rfl (lv_at hl 0 rfl) ?_
        have hE_ : ∀ k, k < 22 + 6 * no → adr k = adr_159 k := fun k9 hk9 => ((he_6 k9 (by omega)).trans ((he_54 k9 (by omega)).trans ((he_105 k9 (by omega)).trans (he_161 k9 (by omega)))))
        have hF_ : ∀ k, 22 ≤ k → k < 22 + 6 * no → w_310 k = w k := fun k hk1 hk2 => by rw [hw_310, va_up_ne _ _ (by omega), va_up_ne _ _ (by omega), ew_249, va_up_ne _ _ (by omega), ew_220, va_up_ne _ _ (by omega), (hf_160 k (by omega)).2 (by omega), (hf_104 k (by omega)).2 (by omega), ew_55, va_up_ne _ _ (by omega), ew_7, va_up_ne _ _ (by omega)]
        rw [hQ0]
        exact ex_oi (post := fun r adr2 w1 => ∃ k, k < 4 ∧ nI k9 = nI k ∧ 0 < dl ∧ no < 60 ∧ r = nI no ∧ (∀ k, k < 22 + 6 * no → adr k = adr2 k) ∧ ((b = 0 ∧ HR ac adr2 w1 dl dw fs fr ft ns so hv nd du T nr rq (nq + 1) (va_up oq nq no) pd er (no + 1) (va_up oc no k) (va_up on_ no dl) (va_up owd no (mixN dl dw)) (va_up obf no (mixF dl (fun _ => -1) (fun _ => 0))) (va_up rb no b) (va_up st no (-1)) (va_up mt no (-1)) (va_up co no 0) (va_up py no 0) hd le pr ra) ∨ (¬ b = 0 ∧ HR ac adr2 w1 dl dw fs fr ft ns so hv nd du T (nr + 1) (va_up rq nr no) nq oq pd er (no + 1) (va_up oc no k) (va_up on_ no dl) (va_up owd no (mixN dl dw)) (va_up obf no (mixF dl (fun _ => -1) (fun _ => 0))) (va_up rb no b) (va_up st no (-1)) (va_up mt no (-1)) (va_up co no 0) (va_up py no 0) hd le pr ra))) hx hb hlocks hr dX7_order_81 (Nat.le_of_ble_eq_true rfl) (Nat.le_of_ble_eq_true rfl) hM hS (⟨k9, hk_k9, rfl, hdl0_, hno60_, rfl, hE_, Or.inr ⟨hb0_, ⟨h_311, ⟨h_312, h_313, hdr.2.2⟩, ⟨h_322, h_323, h_324, h_325⟩, ⟨h_326, h_327, h_328, h_329, h_330, h_331, h_332, hm.2.2.2.2.2.2.2⟩, hS1.push hE_ hF_ (by unfold SenW; rw [show 23 + 6 * no = 22 + 6 * no + 1 from by omega]; exact ⟨h_333, h_334, h_335, h_336, h_337, hdl0_, hdr.2.2.1, hk_k9, fun j hj => by rw [mixN_lt hj]; exact hdr.2.2.2 j hj⟩), hO1.push hE_ hF_ (by rw [show 23 + 6 * no = 22 + 6 * no + 1 from by omega]; exact h_338), ⟨h_316, h_317, h_318, h_319, by omega, by omega⟩, ⟨h_314, h_315, by omega⟩, ⟨h_320, h_321⟩, hin_.push_r hb0_⟩⟩⟩)
    · have hno60_ : no = 60 := by have := nlt_le (b := 60) c23 (by omega) (by decide); omega
      exact x_throw hx hb hlt hlocks hout hown (by decide) (hts _ (by decide +kernel)) (hts _ (by decide +kernel)) (fun w hw => hts w (hgIS_ w hw)) ng_IS ot_IS hX hM hS (hl.1.trans hml.symm) dX7_order_26 dX7_order_29 dX7_order_30 dX7_order_33 (Nat.le_of_ble_eq_true rfl) (Nat.le_of_ble_eq_true rfl) (Nat.le_of_ble_eq_true rfl) (Nat.le_of_ble_eq_true rfl) (Nat.le_of_ble_eq_true rfl) (Nat.le_of_ble_eq_true rfl) (Or.inr ⟨rfl, cd2_2 (ixs hk_k9 (by decide) rfl) (by rw [decide_eq_true hno60_]; simp)⟩)
