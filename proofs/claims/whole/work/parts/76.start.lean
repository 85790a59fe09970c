theorem MW.of {D : va_G} {A : Nat → Prop} {N : Nat} {adr : Nat → Nat} {w : Nat → va_E} {H : Heap} (hc : ∀ k, k < N → Cel D H (adr k) (w k)) (hi : ∀ i j, i < N → j < N → adr i = adr j → i = j) (ho : ∀ k, k < N → A (adr k)) : MW D A N adr w H := by
  refine ⟨fun k q hk => ?_, fun i j p q hi9 hj9 he => ?_, fun k q hk => ?_⟩
  · have hl : k < N := by have := (List.getElem?_eq_some_iff.mp hk).1; rwa [wn_len] at this
    rw [wn_get hl rfl] at hk
    cases hk
    exact hc k hl
  · have hli : i < N := by have := (List.getElem?_eq_some_iff.mp hi9).1; rwa [wn_len] at this
    have hlj : j < N := by have := (List.getElem?_eq_some_iff.mp hj9).1; rwa [wn_len] at this
    rw [wn_get hli rfl] at hi9
    rw [wn_get hlj rfl] at hj9
    cases hi9
    cases hj9
    exact hi i j hli hlj he
  · have hl : k < N := by have := (List.getElem?_eq_some_iff.mp hk).1; rwa [wn_len] at this
    rw [wn_get hl rfl] at hk
    cases hk
    exact ho k hl
theorem MW.nil {D : va_G} {A : Nat → Prop} {adr : Nat → Nat} {w : Nat → va_E} {H : Heap} : MW D A 0 adr w H := MW.of (fun _ h => absurd h (Nat.not_lt_zero _)) (fun _ _ h => absurd h (Nat.not_lt_zero _)) (fun _ h => absurd h (Nat.not_lt_zero _))
theorem arr_prim {ty : FieldType} {args : Array Value} {s : State} (h : (Cond.arrayClass ty).before args s = true) : ∃ cA, ArrOfT s cA ty ∧ s.vm.findClass ("[" ++ ty.toString) = some cA := by
  obtain ⟨cA, k, comp, h1, h2, h3⟩ := Cond.arrayClass_spec h
  exact ⟨cA, fun n z => ⟨fun k h => (by cases h), k, h2, comp, h3⟩, h1⟩
theorem arr_obj {C : String} {s : State} (h : va_AO C s) : ∃ cA, ArrOfT s cA (.object C) ∧ va_RA s cA (.object C) := by
  obtain ⟨comp, cA, k, h1, h2, h3, h4, h5⟩ := Cond.arrayOver_spec h
  exact ⟨cA, fun n z => ⟨fun k h => (by cases h), k, h3, comp, h4⟩, k, comp, h3, h4, h1, h5⟩
theorem nestL_ot : ∀ w ∈ nestL, w.onTables = true := by decide +kernel
/-- the classes are there -/
theorem kn_start {args : Array Value} {s : State} (hts : ∀ w ∈ lw_tbl, w.before args s = true) : ∃ (D : va_G) (ac : Nat → ClassId), KN D ac s := by
  obtain ⟨c0, i0, k0⟩ := u_known (C := RX0) (T := TX0) (N := 1) (n := 1) hts inX0 (hts _ (List.mem_append_right _ (List.mem_of_getElem? (i := 88) (by decide +kernel))))
  obtain ⟨c1, i1, k1⟩ := u_known (C := RX1) (T := TX1) (N := 2) (n := 2) hts inX1 (hts _ (List.mem_append_right _ (List.mem_of_getElem? (i := 72) (by decide +kernel))))
  obtain ⟨c2, i2, k2⟩ := u_known (C := RX2) (T := TX2) (N := 5) (n := 5) hts inX2 (hts _ (List.mem_append_right _ (List.mem_of_getElem? (i := 64) (by decide +kernel))))
  obtain ⟨c3, i3, k3⟩ := u_known (C := RX3) (T := TX3) (N := 7) (n := 7) hts inX3 (hts _ (List.mem_append_right _ (List.mem_of_getElem? (i := 410) (by decide +kernel))))
  obtain ⟨c4, i4, k4⟩ := u_known (C := RX4) (T := TX4) (N := 2) (n := 2) hts inX4 (hts _ (List.mem_append_right _ (List.mem_of_getElem? (i := 27) (by decide +kernel))))
  obtain ⟨c5, i5, k5⟩ := u_known (C := RX5) (T := TX5) (N := 3) (n := 3) hts inX5 (hts _ (List.mem_append_right _ (List.mem_of_getElem? (i := 45) (by decide +kernel))))
  obtain ⟨c6, i6, k6⟩ := u_known (C := RX6) (T := TX6) (N := 3) (n := 3) hts inX6 (hts _ (List.mem_append_right _ (List.mem_of_getElem? (i := 412) (by decide +kernel))))
  obtain ⟨c7, i7, k7⟩ := u_known (C := RX7) (T := TX7) (N := 13) (n := 13) hts inX7 (hts _ (List.mem_append_right _ (List.mem_of_getElem? (i := 19) (by decide +kernel))))
  obtain ⟨c8, i8, k8⟩ := u_known (C := RX8) (T := TX8) (N := 35) (n := 35) hts inX8 (hts _ (List.mem_append_right _ (List.mem_of_getElem? (i := 758) (by decide +kernel))))
  obtain ⟨a0, x0, y0⟩ := arr_prim (ty := .int) (hts _ (List.mem_append_right _ (List.mem_of_getElem? (i := 43) (by decide +kernel))))
  obtain ⟨a1, x1, y1⟩ := arr_prim (ty := .long) (hts _ (List.mem_append_right _ (List.mem_of_getElem? (i := 86) (by decide +kernel))))
  obtain ⟨a2, x2, y2⟩ := arr_prim (ty := .boolean) (hts _ (List.mem_append_right _ (List.mem_of_getElem? (i := 869) (by decide +kernel))))
  obtain ⟨a3, x3, y3⟩ := arr_obj (C := RX3) (va_AO.of (hts _ (List.mem_append_right _ (List.mem_of_getElem? (i := 117) (by decide +kernel)))))
  obtain ⟨a4, x4, y4⟩ := arr_obj (C := RX6) (va_AO.of (hts _ (List.mem_append_right _ (List.mem_of_getElem? (i := 70) (by decide +kernel)))))
  refine ⟨(fun k => match k with | 0 => c0 | 1 => c1 | 2 => c2 | 3 => c3 | 4 => c4 | 5 => c5 | 6 => c6 | 7 => c7 | _ => c8, fun k => match k with | 0 => i0 | 1 => i1 | 2 => i2 | 3 => i3 | 4 => i4 | 5 => i5 | 6 => i6 | 7 => i7 | _ => i8), (fun k => match k with | 0 => a0 | 1 => a1 | 2 => a2 | 3 => a3 | _ => a4), ⟨fun k q hk => ?_, fun k q hk => ?_⟩, fun w hw => va_Nw.of (nestL_ot w hw) (hts w (List.mem_append_right _ (nestL_in w hw)))⟩
  · have hl : k < 9 := (List.getElem?_eq_some_iff.mp hk).1
    have h9 : k = 0 ∨ k = 1 ∨ k = 2 ∨ k = 3 ∨ k = 4 ∨ k = 5 ∨ k = 6 ∨ k = 7 ∨ k = 8 := by omega
    rcases h9 with rfl | rfl | rfl | rfl | rfl | rfl | rfl | rfl | rfl <;> cases hk
    · exact k0
    · exact k1
    · exact k2
    · exact k3
    · exact k4
    · exact k5
    · exact k6
    · exact k7
    · exact k8
  · have hl : k < 5 := (List.getElem?_eq_some_iff.mp hk).1
    have h9 : k = 0 ∨ k = 1 ∨ k = 2 ∨ k = 3 ∨ k = 4 := by omega
    rcases h9 with rfl | rfl | rfl | rfl | rfl <;> cases hk
    · exact ⟨x0, y0⟩
    · exact ⟨x1, y1⟩
    · exact ⟨x2, y2⟩
    · exact ⟨x3, y3⟩
    · exact ⟨x4, y4⟩
theorem xq_start {args : Array Value} {s : State} (hts : ∀ w ∈ lw_tbl, w.before args s = true) (h1 : (Cond.isRef (.static Bundle.tN "UNASSIGNED_STACK" Bundle.steD)).before args s = true) (h2 : (Cond.isRef (.static Bundle.tN "SUPPRESSED_SENTINEL" Bundle.listD)).before args s = true) : XQ (Lo s) s s.heap :=
  ⟨vx_Zqof (hts _ (List.mem_append_right _ (List.mem_of_getElem? (i := 223) (by decide +kernel)))) (hts _ (List.mem_append_right _ (List.mem_of_getElem? (i := 9) (by decide +kernel)))) h1 (fun a ha hn => Nat.not_le.mpr ha hn), vx_Zqof (hts _ (List.mem_append_right _ (List.mem_of_getElem? (i := 225) (by decide +kernel)))) (hts _ (List.mem_append_right _ (List.mem_of_getElem? (i := 9) (by decide +kernel)))) h2 (fun a ha hn => Nat.not_le.mpr ha hn), va_Nw.of rfl (hts _ (List.mem_append_right _ (List.mem_of_getElem? (i := 198) (by decide +kernel)))), va_Nw.of rfl (hts _ (List.mem_append_right _ (List.mem_of_getElem? (i := 261) (by decide +kernel)))), va_Nw.of rfl (hts _ (List.mem_append_right _ (List.mem_of_getElem? (i := 296) (by decide +kernel)))), va_Nw.of rfl (hts _ (List.mem_append_right _ (List.mem_of_getElem? (i := 199) (by decide +kernel)))), va_Nw.of rfl (hts _ (List.mem_append_right _ (List.mem_of_getElem? (i := 201) (by decide +kernel)))), va_Nw.of rfl (hts _ (List.mem_append_right _ (List.mem_of_getElem? (i := 203) (by decide +kernel))))⟩
/-- class and reference start alike -/
theorem JR.start : JR msf0 (va_up maf0 17 (mixF 600 (fun _ => -1) (maf0 17))) 0 0 (fun _ => 0) (mixF 600 (fun _ => -1) (fun _ => 0)) (mixF 200 (fun _ => -1) (fun _ => 0)) (fun _ => 0) 0 (fun _ => 0) (fun _ => 0) 0 (fun _ => 0) 0 (fun _ => 0) 0 (fun _ => 0) (fun _ => 0) (fun _ => 0) 0 (fun _ => 0) (fun _ => 0) (fun _ _ => 0) (fun _ _ => 0) (fun _ => 0) (fun _ => 0) (fun _ => 0) (fun _ => 0) (fun _ => 0) (fun _ => none) 50 10 6 := by
  have e : ∀ n j, j < n → mixF n (fun _ => (-1 : Int32)) (fun _ => 0) j = -1 := fun n j h => if_pos h
  have a17 : (va_up maf0 17 (mixF 600 (fun _ => -1) (maf0 17))) 17 = mixF 600 (fun _ => -1) (fun _ => 0) := va_up_self _ _ _
  have a18 : (va_up maf0 17 (mixF 600 (fun _ => -1) (maf0 17))) 18 = fun _ => 0 := va_up_ne _ _ (by decide)
  have a19 : (va_up maf0 17 (mixF 600 (fun _ => -1) (maf0 17))) 19 = fun _ => 0 := va_up_ne _ _ (by decide)
  have a20 : (va_up maf0 17 (mixF 600 (fun _ => -1) (maf0 17))) 20 = fun _ => 0 := va_up_ne _ _ (by decide)
  have a21 : (va_up maf0 17 (mixF 600 (fun _ => -1) (maf0 17))) 21 = fun _ => 0 := va_up_ne _ _ (by decide)
  have r0 : ∀ z9 : Int32, z9 ≤ z9 := fun z9 => Int32.le_refl z9
  refine ⟨⟨rfl, by decide, fun j hj => absurd hj (Nat.not_lt_zero _)⟩, ⟨fun q hq => congrFun a17 q, fun q hq => ?_⟩, ⟨rfl, by decide, fun i hi => absurd hi (Nat.not_lt_zero _)⟩, ⟨rfl, by decide, fun i hi => absurd hi (Nat.not_lt_zero _)⟩, fun t o _ h => (by cases h), ⟨⟨rfl, rfl, rfl⟩, by decide⟩, ⟨fun i hi => absurd hi (Nat.not_lt_zero _), fun q _ => Nat.le_refl _, fun q => ?_, fun i hi => absurd hi (Nat.not_lt_zero _), by decide⟩, ⟨0, Nat.le_refl _, fun i hi => absurd hi (Nat.not_lt_zero _), fun i _ => ?_, fun i => ?_, List.Pairwise.nil, fun i => ?_, rfl⟩, ⟨List.Pairwise.nil, List.Pairwise.nil, fun o ho => absurd ho (Nat.not_lt_zero _), fun o ho => absurd ho (Nat.not_lt_zero _), by decide, by decide⟩, fun k _ => ⟨congrFun a20 k, congrFun a21 k⟩, fun v9 _ i _ => ?_, ⟨fun t _ => rfl, fun t _ o ho => absurd ho (Nat.not_lt_zero _), fun o ho => absurd ho (Nat.not_lt_zero _), fun o => Or.inl rfl, fun i j hi => absurd hi (Nat.not_lt_zero _)⟩, by decide⟩
  · rw [e 200 q hq, e 600 q (by omega), e 600 (200 + q) (by omega), e 600 (400 + q) (by omega)]
    decide
  · rw [a18]
    exact r0 _
  · rw [a19]
  · rw [a19]
    show ¬ (0 : Int32) < 0
    decide
  · rw [a19]
    exact r0 _
  · exact ⟨fun h => (by rw [btL_0] at h; cases h), fun h => absurd h.1 (Nat.not_lt_zero _)⟩
set_option maxHeartbeats 4000000 in
set_option maxRecDepth 100000 in
/-- from the entry to the end -/
theorem whole_go {p : Program} {e : Env} {s : State} {m : MethodId} {below : List Frame} {meth : Method} {c : Code} (l : Launch) (hflags : l.flags = flags0) {b L : Nat} {xs : Nat → Int32} (hL : L ≤ 2560) (C0 : lw_At p s m meth c b L xs) : W p l e room_1 s m #[Value.ref b] below meth c s.heap [] 0 0 (lw_Z below #[Value.ref b] s) (entryFrame m ([Value.ref b] : List Value).toArray 7) := by
  obtain ⟨hx, hb, hr, hml, hown, hts0, hX0, hbl, hlocks, hgv⟩ := C0
  have hn := flat_of_before _ hgv
  obtain ⟨D, ac, hK⟩ := kn_start hts0
  have hlt : l.stackTraces = false := by unfold Launch.stackTraces; rw [hflags]; decide +kernel
  have hX : XQ (Lo s) s s.heap := xq_start hts0 (hn _ (by decide +kernel)) (hn _ (by decide +kernel))
  have hC : NCW s := ⟨va_Nc.of (hn _ (by decide +kernel)), va_Nc.of (hn _ (by decide +kernel)), va_Nc.of (hn _ (by decide +kernel)), va_Nc.of (hn _ (by decide +kernel))⟩
  have hO : AOs s := ⟨va_AO.of (hts0 _ (List.mem_append_right _ (List.mem_of_getElem? (i := 117) (by decide +kernel)))), va_AO.of (hts0 _ (List.mem_append_right _ (List.mem_of_getElem? (i := 70) (by decide +kernel))))⟩
  have hts : ∀ w ∈ wsL_law, w.before #[Value.ref b] s = true := fun w h => hts0 w (wsL_law_in w h)
  have E : LEn p l s m c b L xs D ac := ⟨hx, hb, hml, hown, hts, hlt, hK, hX, hC, hX0, hbl, hL⟩
  have hS : va_S (Lo s) s.heap s.heap [] := va_S.rf
  have hA : ∀ q, s.heap.size ≤ q → Lo s q := fun q h => h
  have rc : room_1.cells = 678713 := rfl
  have rs : room_1.slots = 7059965 := rfl
  have hl := lv_entry ([.ref b]) (n := 7) (Nat.le_of_ble_eq_true rfl)
  have hen := lg_entry_eq m [.ref b] 7
  rw [hen]
  generalize (lg_sl ([.ref b]) ++ List.replicate (7 - (lg_sl ([.ref b])).length) Slot.unset).toArray = ls at hl ⊢
  have hl : lv_has ls 7 [(0, .ref b)] := hl
  refine m_new (ci := 7) (fs := [.null, .null, .null, .null, .null, .null, .null, .null, .null, .int 0, .int 0, .int 0, .int 0]) (C := RX7) (T := TX7) (n := 13) (N := 0) (adr := fun _ => 0) (w := fun _ => .inr (7, [])) hx hb hts inlX7 tyX7 tyX7_ok hown (hts _ (by decide +kernel)) (hts _ (by decide +kernel)) (hts _ (by decide +kernel)) hK MW.nil hS hA rfl (by intro j hj; have hj9 : j = 0 ∨ j = 1 ∨ j = 2 ∨ j = 3 ∨ j = 4 ∨ j = 5 ∨ j = 6 ∨ j = 7 ∨ j = 8 ∨ j = 9 ∨ j = 10 ∨ j = 11 ∨ j = 12 := (by omega); rcases hj9 with rfl | rfl | rfl | rfl | rfl | rfl | rfl | rfl | rfl | rfl | rfl | rfl | rfl <;> rfl) (by omega) (by omega) dL_law_0 (fun adr H he hM hS => ?_)
  clear he
  refine lv_dup hx hb dL_law_3 rfl ?_
  refine c_callv (va_runI (mc := 21) (ms := 1448) (As := []) (rest := [.ref (adr 0)]) ⟨hx, hb, hml, hown, hts⟩ (k_X7_init l D ac _ (Lo s) (fun q hq => Nat.le_trans hS.1 hq) adr _ hM (va_up_self _ _ _)) (cwI 0 hts gL_law_X7_init rfl rfl rfl (hts _ (by decide +kernel)) (hts _ (by decide +kernel)) (hts _ (by decide +kernel)) rfl (by decide +kernel) ⟨(Nat.le_of_ble_eq_true rfl), (Nat.le_of_ble_eq_true rfl)⟩) (pSA hK hO) rfl rfl hl.1 rfl (lv_room (Nat.le_of_ble_eq_true rfl)) dL_law_4 ⟨by omega, by omega⟩) hS (fun adr1 w H locs hp hM hS => ?_)
  obtain ⟨ea, hR⟩ := hp
  rw [ea]
  clear ea
  refine lv_astore_n (lv' := [(1, .ref (adr1 0)), (0, .ref b)]) hx hb dL_law_7 rfl hl (by decide) rfl (fun ls hl => ?_)
  have hM1 := hM
  have hz1 := hM.lt (show 0 < 22 by omega)
  refine m_new (ci := 8) (fs := [.int 0, .int 0, .null, .int 0, .int 0, .int 0, .int 0, .null, .null, .null, .null, .null, .int 0, .null, .null, .null, .null, .null, .null, .int 0, .int 0, .null, .null, .null, .null, .null, .null, .int 0, .null, .int 0, .null, .null, .int 0, .null, .null]) (C := RX8) (T := TX8) (n := 35) hx hb hts inlX8 tyX8 tyX8_ok hown (hts _ (by decide +kernel)) (hts _ (by decide +kernel)) (hts _ (by decide +kernel)) hK hM hS hA rfl (by intro j hj; have hj9 : j = 0 ∨ j = 1 ∨ j = 2 ∨ j = 3 ∨ j = 4 ∨ j = 5 ∨ j = 6 ∨ j = 7 ∨ j = 8 ∨ j = 9 ∨ j = 10 ∨ j = 11 ∨ j = 12 ∨ j = 13 ∨ j = 14 ∨ j = 15 ∨ j = 16 ∨ j = 17 ∨ j = 18 ∨ j = 19 ∨ j = 20 ∨ j = 21 ∨ j = 22 ∨ j = 23 ∨ j = 24 ∨ j = 25 ∨ j = 26 ∨ j = 27 ∨ j = 28 ∨ j = 29 ∨ j = 30 ∨ j = 31 ∨ j = 32 ∨ j = 33 ∨ j = 34 := (by omega); rcases hj9 with rfl | rfl | rfl | rfl | rfl | rfl | rfl | rfl | rfl | rfl | rfl | rfl | rfl | rfl | rfl | rfl | rfl | rfl | rfl | rfl | rfl | rfl | rfl | rfl | rfl | rfl | rfl | rfl | rfl | rfl | rfl | rfl | rfl | rfl | rfl <;> rfl) (by omega) (by omega) dL_law_8 (fun adr2 H2 he hM2 hS => ?_)
  have hMo : MW D (fun q => H2.size ≤ q ∨ q = adr2 22) 1 (fun _ => adr2 22) (fun _ => .inr (8, [.int 0, .int 0, .null, .int 0, .int 0, .int 0, .int 0, .null, .null, .null, .null, .null, .int 0, .null, .null, .null, .null, .null, .null, .int 0, .int 0, .null, .null, .null, .null, .null, .null, .int 0, .null, .int 0, .null, .null, .int 0, .null, .null])) H2 := MW.of (fun k _ => hM2.cel (show 22 < 22 + 1 by omega) (va_up_self _ _ _)) (fun i j hi hj _ => by omega) (fun k _ => Or.inr rfl)
  refine lv_dup hx hb dL_law_11 rfl ?_
  refine va_callv (va_runI (mc := 23) (ms := 3145) (As := []) (rest := [.ref (adr2 22)]) ⟨hx, hb, hml, hown, hts⟩ (k_X8_init l D ac _ (fun q => H2.size ≤ q ∨ q = adr2 22) (fun q hq => Or.inl hq) (fun _ => adr2 22) _ hMo rfl) (cwI 0 hts gL_law_X8_init rfl rfl rfl (hts _ (by decide +kernel)) (hts _ (by decide +kernel)) (hts _ (by decide +kernel)) rfl (by decide +kernel) ⟨(Nat.le_of_ble_eq_true rfl), (Nat.le_of_ble_eq_true rfl)⟩) (pS hK) rfl rfl hl.1 rfl (lv_room (Nat.le_of_ble_eq_true rfl)) dL_law_12 ⟨by omega, by omega⟩) hS (fun q _ h => h.elim (fun z9 => Nat.le_trans hS.1 z9) (fun z9 => by rw [z9]; exact hM2.own (show 22 < 22 + 1 by omega))) (fun q h => h.elim (fun z9 => Nat.le_trans hS.1 z9) (fun z9 => by rw [z9]; exact hM2.own (show 22 < 22 + 1 by omega))) (fun u t H3 locs3 ht hvm hp hB hz hk hS3 => ?_)
  obtain ⟨adm, wm⟩ := u
  have hp : adr2 22 = adm 0 ∧ wm = mw ac adm msf0 (va_up maf0 17 (mixF 600 (fun _ => -1) (maf0 17))) := hp
  obtain ⟨ea, ew⟩ := hp
  have hB : MW D (fun q => H2.size ≤ q ∨ q = adr2 22) 24 adm wm t.heap := hB
  rw [ht, ew] at hB
  have hmo : ∀ j, j < 24 → Lo s (adm j) := fun j hj => (hB.own hj).elim (fun z9 => Nat.le_trans hS.1 z9) (fun z9 => by rw [z9]; exact hM2.own (show 22 < 22 + 1 by omega))
  have hne : ∀ k, k < 22 → ∀ j, j < 24 → ¬ adr1 k = adm j := fun k hk9 j hj q => by
    rw [he k hk9] at q
    have q2 := hB.own hj
    rw [← q] at q2
    rcases q2 with q2 | q2
    · exact absurd (hM2.lt (show k < 22 + 1 by omega)) (Nat.not_lt.mpr q2)
    · exact absurd (hM2.inj (show k < 22 + 1 by omega) (show 22 < 22 + 1 by omega) q2) (by omega)
  have hMc : ∀ k, k < 22 → Cel D H3 (adr1 k) (w k) := fun k hk9 => by
    have h1 : Cel D H2 (adr2 k) (w k) := hM2.cel (show k < 22 + 1 by omega) (va_up_ne _ _ (by omega))
    have h2 : ¬ (H2.size ≤ adr2 k ∨ adr2 k = adr2 22) := fun q2 => by
      rcases q2 with q2 | q2
      · exact absurd (hM2.lt (show k < 22 + 1 by omega)) (Nat.not_lt.mpr q2)
      · exact absurd (hM2.inj (show k < 22 + 1 by omega) (show 22 < 22 + 1 by omega) q2) (by omega)
    rw [he k hk9]
    exact h1.kept (hk _ (hM2.lt (show k < 22 + 1 by omega)) h2)
  rw [ea]
  refine lv_astore_n (lv' := [(2, .ref (adm 0)), (1, .ref (adr1 0)), (0, .ref b)]) hx hb dL_law_15 rfl hl (by decide) rfl (fun ls hl => ?_)
  have hMJ : MW D (Lo s) 46 (fun k => if k < 22 then adr1 k else adm (k - 22)) (fun k => if k < 22 then w k else mw ac adm msf0 (va_up maf0 17 (mixF 600 (fun _ => -1) (maf0 17))) (k - 22)) H3 := by
    refine MW.of (fun k hk9 => ?_) (fun i j hi hj q => ?_) (fun k hk9 => ?_)
    · by_cases h : k < 22
      · show Cel D H3 (if k < 22 then adr1 k else adm (k - 22)) (if k < 22 then w k else mw ac adm msf0 (va_up maf0 17 (mixF 600 (fun _ => -1) (maf0 17))) (k - 22))
        rw [if_pos h, if_pos h]
        exact hMc k h
      · show Cel D H3 (if k < 22 then adr1 k else adm (k - 22)) (if k < 22 then w k else mw ac adm msf0 (va_up maf0 17 (mixF 600 (fun _ => -1) (maf0 17))) (k - 22))
        rw [if_neg h, if_neg h]
        exact hB.cel (show k - 22 < 24 by omega) rfl
    · have q : (if i < 22 then adr1 i else adm (i - 22)) = (if j < 22 then adr1 j else adm (j - 22)) := q
      by_cases h : i < 22
      · by_cases h2 : j < 22
        · rw [if_pos h, if_pos h2] at q
          exact hM1.inj h h2 q
        · rw [if_pos h, if_neg h2] at q
          exact absurd q (hne i h (j - 22) (by omega))
      · by_cases h2 : j < 22
        · rw [if_neg h, if_pos h2] at q
          exact absurd q.symm (hne j h2 (i - 22) (by omega))
        · rw [if_neg h, if_neg h2] at q
          have := hB.inj (show i - 22 < 24 by omega) (show j - 22 < 24 by omega) q
          omega
    · show Lo s (if k < 22 then adr1 k else adm (k - 22))
      by_cases h : k < 22
      · rw [if_pos h]
        exact hM1.own h
      · rw [if_neg h]
        exact hmo (k - 22) (by omega)
  have ho1 : ∀ k, k < 22 → Lo s (adr1 k) := fun k h => hM1.own h
  have hi1 : ∀ i j, i < 22 → j < 22 → adr1 i = adr1 j → i = j := fun i j h h2 q => hM1.inj h h2 q
  have hi2 : ∀ i j, i < 24 → j < 24 → adm i = adm j → i = j := fun i j h h2 q => hB.inj h h2 q
  clear hM1 hM hM2 hMo hMc hB hk hS
  refine lv_iconst (v := 1) hx hb dL_law_16 (by decide) ?_
  refine m_newa (ty := .long) (N' := 1) (a0 := (1, .inr (.inl (fun _ => 0)))) hx hb (hts _ (by decide +kernel)) hK hMJ hS3 hA 1 rfl rfl (fun cA => rfl) (by decide) (by decide) (by decide) (by omega) (by omega) dL_law_17 (fun adr3 H4 he3 hM4 hS4 => ?_)
  generalize eb : adr3 46 = b9
  have hc4 : ∀ k, k < 22 → Cel D H4 (adr1 k) (w k) := fun k h => by
    have h1 := hM4.cel (show k < 46 + 1 by omega) (va_up_ne _ _ (by omega))
    rw [← he3 k (by omega)] at h1
    have h1 : Cel D H4 (if k < 22 then adr1 k else adm (k - 22)) (if k < 22 then w k else mw ac adm msf0 (va_up maf0 17 (mixF 600 (fun _ => -1) (maf0 17))) (k - 22)) := h1
    rwa [if_pos h, if_pos h] at h1
  have hm4 : ∀ k, k < 24 → Cel D H4 (adm k) (mw ac adm msf0 (va_up maf0 17 (mixF 600 (fun _ => -1) (maf0 17))) k) := fun k h => by
    have h1 := hM4.cel (show k + 22 < 46 + 1 by omega) (va_up_ne _ _ (by omega))
    rw [← he3 (k + 22) (by omega)] at h1
    have h1 : Cel D H4 (if k + 22 < 22 then adr1 (k + 22) else adm (k + 22 - 22)) (if k + 22 < 22 then w (k + 22) else mw ac adm msf0 (va_up maf0 17 (mixF 600 (fun _ => -1) (maf0 17))) (k + 22 - 22)) := h1
    rwa [if_neg (by omega), if_neg (by omega), Nat.add_sub_cancel] at h1
  have hb4 : OCel D ac H4 b9 (fun _ => 0) := by
    rw [← eb]
    exact hM4.cel (show 46 < 46 + 1 by omega) (va_up_self _ _ _)
  have hob : Lo s b9 := by
    rw [← eb]
    exact hM4.own (show 46 < 46 + 1 by omega)
  have hn1 : ∀ k, k < 22 → ¬ adr1 k = b9 := fun k h q => by
    have h1 : adr1 k = adr3 k := by
      have h2 := he3 k (by omega)
      have h2 : (if k < 22 then adr1 k else adm (k - 22)) = adr3 k := h2
      rwa [if_pos h] at h2
    rw [h1, ← eb] at q
    have := hM4.inj (show k < 46 + 1 by omega) (show 46 < 46 + 1 by omega) q
    omega
  have hn2 : ∀ k, k < 24 → ¬ b9 = adm k := fun k h q => by
    have h1 : adm k = adr3 (k + 22) := by
      have h2 := he3 (k + 22) (by omega)
      have h2 : (if k + 22 < 22 then adr1 (k + 22) else adm (k + 22 - 22)) = adr3 (k + 22) := h2
      rwa [if_neg (by omega), Nat.add_sub_cancel] at h2
    rw [h1, ← eb] at q
    have := hM4.inj (show 46 < 46 + 1 by omega) (show k + 22 < 46 + 1 by omega) q
    omega
  have hLW : LW D ac (Lo s) 22 adr1 w b9 (fun _ => 0) adm msf0 (va_up maf0 17 (mixF 600 (fun _ => -1) (maf0 17))) H4 :=
    ⟨MW.of hc4 hi1 (fun k h => ⟨⟨ho1 k h, fun j hj => hne k h j hj⟩, hn1 k h⟩), hb4, ⟨hob, hn2⟩, MW.of hm4 hi2 (fun k h => ⟨k, h, rfl⟩), hmo⟩
  have hLI : LIv D ac s (adr1 0) (adm 0) b9 0 H4 := ⟨22, adr1, w, fun _ => 0, adm, msf0, (va_up maf0 17 (mixF 600 (fun _ => -1) (maf0 17))), rfl, rfl, hLW, _, _, _, _, _, _, _, _, _, _, _, _, _, _, _, _, _, _, _, _, _, _, _, _, _, _, _, _, _, _, _, hR, JR.start, rfl⟩
  clear hM4 hMJ hc4 hm4 hb4
  refine lv_astore_n (lv' := [(3, .ref b9), (2, .ref (adm 0)), (1, .ref (adr1 0)), (0, .ref b)]) hx hb dL_law_19 rfl hl (by decide) rfl (fun ls hl => ?_)
  refine lv_iconst (v := 0) hx hb dL_law_20 (by decide) ?_
  refine lv_istore (lv' := [(4, .int 0), (3, .ref b9), (2, .ref (adm 0)), (1, .ref (adr1 0)), (0, .ref b)]) hx hb dL_law_21 hl (by decide) rfl (fun ls hl => ?_)
  exact law_loop E hr hlocks 1000 0 0 _ _ H4 _ ls hLI hS4 (lv_sub hl [4, 3, 2, 1, 0] rfl) rfl (by omega) (by omega) (by omega) (by omega)
