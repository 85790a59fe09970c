def RulC (D : va_G) (ac : Nat → ClassId) (H : Heap) (u u1 u2 u3 : Nat) (fs fr ft : Nat → Int32) : Prop := Cel D H u (.inr (5, [.ref u1, .ref u2, .ref u3])) ∧ Cel D H u1 (.inl (ac 0, 600, .inl fs)) ∧ Cel D H u2 (.inl (ac 0, 200, .inl fr)) ∧ Cel D H u3 (.inl (ac 0, 200, .inl ft))
def SenC (D : va_G) (ac : Nat → ClassId) (H : Heap) (a r1 v1 r2 v2 cl n : Nat) (wf bf : Nat → Int32) (wd : Nat → Nat) : Prop := Cel D H a (.inr (6, [.int (nI cl), .ref r1, .ref r2])) ∧ Cel D H r1 (.inr (4, [.ref v1, .int (nI n)])) ∧ Cel D H v1 (.inl (ac 0, 8, .inl wf)) ∧ Cel D H r2 (.inr (4, [.ref v2, .int (nI n)])) ∧ Cel D H v2 (.inl (ac 0, 8, .inl bf)) ∧ n ≤ 8 ∧ cl < 4 ∧ ∀ j, j < n → wf j = nI (wd j) ∧ wd j < 50
set_option maxHeartbeats 4000000 in
set_option maxRecDepth 100000 in
/-- Rulings.slotOf -/
theorem k_X5_slotOf (l : Launch) (D : va_G) (ac : Nat → ClassId) (H : Heap) (k j : Nat) (hk : k < 4) (hj : j < 50) : ROi l yX5_slotOf wsX5_slotOf ({ frames := 0, cells := 0, slots := 0, locals := 0 }) [.int (nI k), .int (nI j)] D ac H (fun r => r = nI (k * 50 + j)) := by
  refine Met.ofW (cc := cX5_slotOf) (maxL := 3) (ret := (some .int)) (by decide) rfl ?_
  intro p e s m args below meth c s₁ B hml hv
  obtain ⟨hargs, hsz, hK⟩ := hv
  have hx := B.exec
  have hb := B.bytes
  have hr := B.returns
  have hts := atoms_spec (ws := wsX5_slotOf) B.pre
  have hown : s.vm.findClass RX5 = some m.cls := findClass_of_methodNamed B.named
  have hlocks := B.notSynchronized
  subst hsz
  have hS : va_S (fun _ => False) s.heap s.heap [] := va_S.rf
  have hl := lv_entry ([.int (nI k), .int (nI j)]) (n := 3) (Nat.le_of_ble_eq_true rfl)
  have hen := lg_entry_eq m [.int (nI k), .int (nI j)] 3
  rw [← hargs] at hen
  rw [hen]
  generalize (lg_sl ([.int (nI k), .int (nI j)]) ++ List.replicate (3 - (lg_sl ([.int (nI k), .int (nI j)])).length) Slot.unset).toArray = ls at hl ⊢
  have hl : lv_has ls 3 [(0, .int (nI k)), (1, .int (nI j))] := hl
  refine lv_iload_n hx hb dX5_slotOf_0 rfl (lv_at hl 0 rfl) ?_
  refine lv_if_lt (tgt := 23) hx hb dX5_slotOf_1 (by decide) (fun c1 => ?_) (fun c1 => ?_)
  · exact absurd c1 (nI_pos (by omega))
  · refine lv_iload_n hx hb dX5_slotOf_4 rfl (lv_at hl 0 rfl) ?_
    refine lv_iconst (v := 4) hx hb dX5_slotOf_5 (by decide) ?_
    refine lv_icmp_ge (tgt := 23) hx hb dX5_slotOf_6 (by decide) (fun c6 => ?_) (fun c6 => ?_)
    · exact absurd (le_le (a := 4) c6 (by omega) (by omega)) (by omega)
    · refine lv_iload_n hx hb dX5_slotOf_9 rfl (lv_at hl 1 rfl) ?_
      refine lv_if_lt (tgt := 23) hx hb dX5_slotOf_10 (by decide) (fun c10 => ?_) (fun c10 => ?_)
      · exact absurd c10 (nI_pos (by omega))
      · refine lv_iload_n hx hb dX5_slotOf_13 rfl (lv_at hl 1 rfl) ?_
        refine lv_bipush (v := 50) hx hb dX5_slotOf_14 (by decide) ?_
        refine lv_icmp_ge (tgt := 23) hx hb dX5_slotOf_16 (by decide) (fun c16 => ?_) (fun c16 => ?_)
        · exact absurd (le_le (a := 50) c16 (by omega) (by omega)) (by omega)
        · refine lv_iconst (v := 1) hx hb dX5_slotOf_19 (by decide) ?_
          refine lv_goto (tgt := 24) hx hb dX5_slotOf_20 (by decide) ?_
          refine lv_istore_n (lv' := [(2, .int 1), (0, .int (nI k)), (1, .int (nI j))]) hx hb dX5_slotOf_24 rfl hl (by decide) rfl (fun ls hl => ?_)
          refine lv_iload_n hx hb dX5_slotOf_25 rfl (lv_at hl 0 rfl) ?_
          refine lv_if_eq (tgt := 38) hx hb dX5_slotOf_26 (by decide) (fun c26 => ?_) (fun c26 => ?_)
          · exact absurd c26 (by decide)
          · refine lv_iload_n hx hb dX5_slotOf_29 rfl (lv_at hl 1 rfl) ?_
            refine lv_bipush (v := 50) hx hb dX5_slotOf_30 (by decide) ?_
            refine lv_imul hx hb dX5_slotOf_32 ?_
            refine lv_iload_n hx hb dX5_slotOf_33 rfl (lv_at hl 2 rfl) ?_
            refine lv_iadd hx hb dX5_slotOf_34 ?_
            refine m_top (show (((nI k) * 50) + (nI j)) = nI (k * 50 + j) from by rw [show (50 : Int32) = nI 50 from rfl, pk_mul, nI_add]) ?_
            refine lv_goto (tgt := 39) hx hb dX5_slotOf_35 (by decide) ?_
            exact e_i hx hb hlocks hr dX5_slotOf_39 hS (rfl)
set_option maxHeartbeats 4000000 in
set_option maxRecDepth 100000 in
/-- Rulings.rulingOf -/
theorem k_X5_rulingOf (l : Launch) (D : va_G) (ac : Nat → ClassId) (H : Heap) (u u1 u2 u3 : Nat) (fs fr ft : Nat → Int32) (h5 : RulC D ac H u u1 u2 u3 fs fr ft) (k j : Nat) (hk : k < 4) (hj : j < 50) : ROi l yX5_rulingOf wsX5_rulingOf ({ frames := 1, cells := 0, slots := 0, locals := 22 }) [.ref u, .int (nI k), .int (nI j)] D ac H (fun r => r = fr (k * 50 + j)) := by
  refine Met.ofW (cc := cX5_rulingOf) (maxL := 4) (ret := (some .int)) (by decide) rfl ?_
  intro p e s m args below meth c s₁ B hml hv
  obtain ⟨hargs, hsz, hK⟩ := hv
  have hx := B.exec
  have hb := B.bytes
  have hr := B.returns
  have hts := atoms_spec (ws := wsX5_rulingOf) B.pre
  have hown : s.vm.findClass RX5 = some m.cls := findClass_of_methodNamed B.named
  have hlocks := B.notSynchronized
  subst hsz
  have inX5_ : ∀ w ∈ wsX50, w ∈ wsX5_rulingOf := by decide +kernel
  have hS : va_S (fun _ => False) s.heap s.heap [] := va_S.rf
  have hl := lv_entry ([.ref u, .int (nI k), .int (nI j)]) (n := 4) (Nat.le_of_ble_eq_true rfl)
  have hen := lg_entry_eq m [.ref u, .int (nI k), .int (nI j)] 4
  rw [← hargs] at hen
  rw [hen]
  generalize (lg_sl ([.ref u, .int (nI k), .int (nI j)]) ++ List.replicate (4 - (lg_sl ([.ref u, .int (nI k), .int (nI j)])).length) Slot.unset).toArray = ls at hl ⊢
  have hl : lv_has ls 4 [(0, .ref u), (1, .int (nI k)), (2, .int (nI j))] := hl
  refine lv_iload_n hx hb dX5_rulingOf_0 rfl (lv_at hl 1 rfl) ?_
  refine lv_iload_n hx hb dX5_rulingOf_1 rfl (lv_at hl 2 rfl) ?_
  refine r_calli (va_runS (As := [.int (nI k), .int (nI j)]) (rest := []) ⟨hx, hb, hml, hown, hts⟩ (k_X5_slotOf l D ac _ k j (by omega) (by omega)) (va_cwS 2 hts gX5_rulingOf_X5_slotOf rfl rfl rfl (by decide +kernel) ⟨Nat.le_of_ble_eq_true rfl, Nat.le_of_ble_eq_true rfl⟩) (pS hK) rfl rfl hl.1 rfl (lv_room (Nat.le_of_ble_eq_true rfl)) dX5_rulingOf_2 ⟨Nat.le_of_ble_eq_true rfl, Nat.le_of_ble_eq_true rfl⟩) hS (fun rv_1 locs hrv_1 hS => ?_)
  subst hrv_1
  refine lv_istore_n (lv' := [(3, .int (nI (k * 50 + j))), (0, .ref u), (1, .int (nI k)), (2, .int (nI j))]) hx hb dX5_rulingOf_5 rfl hl (by decide) rfl (fun ls hl => ?_)
  refine lv_iload_n hx hb dX5_rulingOf_6 rfl (lv_at hl 0 rfl) ?_
  refine lv_if_lt (tgt := 28) hx hb dX5_rulingOf_7 (by decide) (fun c7 => ?_) (fun c7 => ?_)
  · exact absurd c7 (nI_pos (by omega))
  · refine lv_iload_n hx hb dX5_rulingOf_10 rfl (lv_at hl 0 rfl) ?_
    refine lv_aload_n hx hb dX5_rulingOf_11 rfl (lv_at hl 1 rfl) ?_
    refine m_get (ci := 5) (C := RX5) (T := TX5) (n := 3) (v := .ref u2) hx hb hts inX5_ hown hK rfl h5.1 1 (by decide) (hts _ (by decide +kernel)) rfl dX5_rulingOf_12 ?_
    refine m_alen (v := 200) (ty := _) hx hb hK 0 h5.2.2.1 rfl (by first | rfl | decide) dX5_rulingOf_15 ?_
    refine lv_icmp_ge (tgt := 28) hx hb dX5_rulingOf_16 (by decide) (fun c16 => ?_) (fun c16 => ?_)
    · exact absurd (le_le (a := 200) c16 (by omega) (by omega)) (by omega)
    · refine lv_aload_n hx hb dX5_rulingOf_19 rfl (lv_at hl 1 rfl) ?_
      refine m_get (ci := 5) (C := RX5) (T := TX5) (n := 3) (v := .ref u2) hx hb hts inX5_ hown hK rfl h5.1 1 (by decide) (hts _ (by decide +kernel)) rfl dX5_rulingOf_20 ?_
      refine lv_iload_n hx hb dX5_rulingOf_23 rfl (lv_at hl 0 rfl) ?_
      refine m_iald hx hb hK h5.2.2.1 (vp_in_nI (by omega) (by decide)) dX5_rulingOf_24 ?_
      refine m_top (show (fr (nI (k * 50 + j)).toNatClampNeg) = fr (k * 50 + j) from by rw [nI_clamp (by omega)]) ?_
      refine lv_goto (tgt := 29) hx hb dX5_rulingOf_25 (by decide) ?_
      exact e_i hx hb hlocks hr dX5_rulingOf_29 hS (rfl)
set_option maxHeartbeats 4000000 in
set_option maxRecDepth 100000 in
/-- Rulings.soldAtChange -/
theorem k_X5_soldAtChange (l : Launch) (D : va_G) (ac : Nat → ClassId) (H : Heap) (u u1 u2 u3 : Nat) (fs fr ft : Nat → Int32) (h5 : RulC D ac H u u1 u2 u3 fs fr ft) (k j : Nat) (hk : k < 4) (hj : j < 50) : ROi l yX5_soldAtChange wsX5_soldAtChange ({ frames := 1, cells := 0, slots := 0, locals := 22 }) [.ref u, .int (nI k), .int (nI j)] D ac H (fun r => r = ft (k * 50 + j)) := by
  refine Met.ofW (cc := cX5_soldAtChange) (maxL := 4) (ret := (some .int)) (by decide) rfl ?_
  intro p e s m args below meth c s₁ B hml hv
  obtain ⟨hargs, hsz, hK⟩ := hv
  have hx := B.exec
  have hb := B.bytes
  have hr := B.returns
  have hts := atoms_spec (ws := wsX5_soldAtChange) B.pre
  have hown : s.vm.findClass RX5 = some m.cls := findClass_of_methodNamed B.named
  have hlocks := B.notSynchronized
  subst hsz
  have inX5_ : ∀ w ∈ wsX50, w ∈ wsX5_soldAtChange := by decide +kernel
  have hS : va_S (fun _ => False) s.heap s.heap [] := va_S.rf
  have hl := lv_entry ([.ref u, .int (nI k), .int (nI j)]) (n := 4) (Nat.le_of_ble_eq_true rfl)
  have hen := lg_entry_eq m [.ref u, .int (nI k), .int (nI j)] 4
  rw [← hargs] at hen
  rw [hen]
  generalize (lg_sl ([.ref u, .int (nI k), .int (nI j)]) ++ List.replicate (4 - (lg_sl ([.ref u, .int (nI k), .int (nI j)])).length) Slot.unset).toArray = ls at hl ⊢
  have hl : lv_has ls 4 [(0, .ref u), (1, .int (nI k)), (2, .int (nI j))] := hl
  refine lv_iload_n hx hb dX5_soldAtChange_0 rfl (lv_at hl 1 rfl) ?_
  refine lv_iload_n hx hb dX5_soldAtChange_1 rfl (lv_at hl 2 rfl) ?_
  refine r_calli (va_runS (As := [.int (nI k), .int (nI j)]) (rest := []) ⟨hx, hb, hml, hown, hts⟩ (k_X5_slotOf l D ac _ k j (by omega) (by omega)) (va_cwS 2 hts gX5_soldAtChange_X5_slotOf rfl rfl rfl (by decide +kernel) ⟨Nat.le_of_ble_eq_true rfl, Nat.le_of_ble_eq_true rfl⟩) (pS hK) rfl rfl hl.1 rfl (lv_room (Nat.le_of_ble_eq_true rfl)) dX5_soldAtChange_2 ⟨Nat.le_of_ble_eq_true rfl, Nat.le_of_ble_eq_true rfl⟩) hS (fun rv_1 locs hrv_1 hS => ?_)
  subst hrv_1
  refine lv_istore_n (lv' := [(3, .int (nI (k * 50 + j))), (0, .ref u), (1, .int (nI k)), (2, .int (nI j))]) hx hb dX5_soldAtChange_5 rfl hl (by decide) rfl (fun ls hl => ?_)
  refine lv_iload_n hx hb dX5_soldAtChange_6 rfl (lv_at hl 0 rfl) ?_
  refine lv_if_lt (tgt := 28) hx hb dX5_soldAtChange_7 (by decide) (fun c7 => ?_) (fun c7 => ?_)
  · exact absurd c7 (nI_pos (by omega))
  · refine lv_iload_n hx hb dX5_soldAtChange_10 rfl (lv_at hl 0 rfl) ?_
    refine lv_aload_n hx hb dX5_soldAtChange_11 rfl (lv_at hl 1 rfl) ?_
    refine m_get (ci := 5) (C := RX5) (T := TX5) (n := 3) (v := .ref u3) hx hb hts inX5_ hown hK rfl h5.1 2 (by decide) (hts _ (by decide +kernel)) rfl dX5_soldAtChange_12 ?_
    refine m_alen (v := 200) (ty := _) hx hb hK 0 h5.2.2.2 rfl (by first | rfl | decide) dX5_soldAtChange_15 ?_
    refine lv_icmp_ge (tgt := 28) hx hb dX5_soldAtChange_16 (by decide) (fun c16 => ?_) (fun c16 => ?_)
    · exact absurd (le_le (a := 200) c16 (by omega) (by omega)) (by omega)
    · refine lv_aload_n hx hb dX5_soldAtChange_19 rfl (lv_at hl 1 rfl) ?_
      refine m_get (ci := 5) (C := RX5) (T := TX5) (n := 3) (v := .ref u3) hx hb hts inX5_ hown hK rfl h5.1 2 (by decide) (hts _ (by decide +kernel)) rfl dX5_soldAtChange_20 ?_
      refine lv_iload_n hx hb dX5_soldAtChange_23 rfl (lv_at hl 0 rfl) ?_
      refine m_iald hx hb hK h5.2.2.2 (vp_in_nI (by omega) (by decide)) dX5_soldAtChange_24 ?_
      refine m_top (show (ft (nI (k * 50 + j)).toNatClampNeg) = ft (k * 50 + j) from by rw [nI_clamp (by omega)]) ?_
      refine lv_goto (tgt := 29) hx hb dX5_soldAtChange_25 (by decide) ?_
      exact e_i hx hb hlocks hr dX5_soldAtChange_29 hS (rfl)
set_option maxHeartbeats 4000000 in
set_option maxRecDepth 100000 in
/-- Rulings.saidBy -/
theorem k_X5_saidBy (l : Launch) (D : va_G) (ac : Nat → ClassId) (H : Heap) (u u1 u2 u3 : Nat) (fs fr ft : Nat → Int32) (h5 : RulC D ac H u u1 u2 u3 fs fr ft) (k j : Nat) (hk : k < 3) (hj : j < 200) : ROi l yX5_saidBy wsX5_saidBy ({ frames := 0, cells := 0, slots := 0, locals := 0 }) [.ref u, .int (nI k), .int (nI j)] D ac H (fun r => r = fs (k * 200 + j)) := by
  refine Met.ofW (cc := cX5_saidBy) (maxL := 4) (ret := (some .int)) (by decide) rfl ?_
  intro p e s m args below meth c s₁ B hml hv
  obtain ⟨hargs, hsz, hK⟩ := hv
  have hx := B.exec
  have hb := B.bytes
  have hr := B.returns
  have hts := atoms_spec (ws := wsX5_saidBy) B.pre
  have hown : s.vm.findClass RX5 = some m.cls := findClass_of_methodNamed B.named
  have hlocks := B.notSynchronized
  subst hsz
  have inX5_ : ∀ w ∈ wsX50, w ∈ wsX5_saidBy := by decide +kernel
  have hS : va_S (fun _ => False) s.heap s.heap [] := va_S.rf
  have hl := lv_entry ([.ref u, .int (nI k), .int (nI j)]) (n := 4) (Nat.le_of_ble_eq_true rfl)
  have hen := lg_entry_eq m [.ref u, .int (nI k), .int (nI j)] 4
  rw [← hargs] at hen
  rw [hen]
  generalize (lg_sl ([.ref u, .int (nI k), .int (nI j)]) ++ List.replicate (4 - (lg_sl ([.ref u, .int (nI k), .int (nI j)])).length) Slot.unset).toArray = ls at hl ⊢
  have hl : lv_has ls 4 [(0, .ref u), (1, .int (nI k)), (2, .int (nI j))] := hl
  refine lv_iload_n hx hb dX5_saidBy_0 rfl (lv_at hl 1 rfl) ?_
  refine lv_iconst (v := 4) hx hb dX5_saidBy_1 (by decide) ?_
  refine lv_imul hx hb dX5_saidBy_2 ?_
  refine lv_bipush (v := 50) hx hb dX5_saidBy_3 (by decide) ?_
  refine lv_imul hx hb dX5_saidBy_5 ?_
  refine lv_iload_n hx hb dX5_saidBy_6 rfl (lv_at hl 2 rfl) ?_
  refine lv_iadd hx hb dX5_saidBy_7 ?_
  refine m_top (show ((((nI k) * 4) * 50) + (nI j)) = nI (k * 200 + j) from by rw [show (50 : Int32) = nI 50 from rfl, show (4 : Int32) = nI 4 from rfl, pk_mul, pk_mul, nI_add]; congr 1; omega) ?_
  refine lv_istore_n (lv' := [(3, .int (nI (k * 200 + j))), (0, .ref u), (1, .int (nI k)), (2, .int (nI j))]) hx hb dX5_saidBy_8 rfl hl (by decide) rfl (fun ls hl => ?_)
  refine lv_iload_n hx hb dX5_saidBy_9 rfl (lv_at hl 0 rfl) ?_
  refine lv_if_lt (tgt := 31) hx hb dX5_saidBy_10 (by decide) (fun c10 => ?_) (fun c10 => ?_)
  · exact absurd c10 (nI_pos (by omega))
  · refine lv_iload_n hx hb dX5_saidBy_13 rfl (lv_at hl 0 rfl) ?_
    refine lv_aload_n hx hb dX5_saidBy_14 rfl (lv_at hl 1 rfl) ?_
    refine m_get (ci := 5) (C := RX5) (T := TX5) (n := 3) (v := .ref u1) hx hb hts inX5_ hown hK rfl h5.1 0 (by decide) (hts _ (by decide +kernel)) rfl dX5_saidBy_15 ?_
    refine m_alen (v := 600) (ty := _) hx hb hK 0 h5.2.1 rfl (by first | rfl | decide) dX5_saidBy_18 ?_
    refine lv_icmp_ge (tgt := 31) hx hb dX5_saidBy_19 (by decide) (fun c19 => ?_) (fun c19 => ?_)
    · exact absurd (le_le (a := 600) c19 (by omega) (by omega)) (by omega)
    · refine lv_aload_n hx hb dX5_saidBy_22 rfl (lv_at hl 1 rfl) ?_
      refine m_get (ci := 5) (C := RX5) (T := TX5) (n := 3) (v := .ref u1) hx hb hts inX5_ hown hK rfl h5.1 0 (by decide) (hts _ (by decide +kernel)) rfl dX5_saidBy_23 ?_
      refine lv_iload_n hx hb dX5_saidBy_26 rfl (lv_at hl 0 rfl) ?_
      refine m_iald hx hb hK h5.2.1 (vp_in_nI (by omega) (by decide)) dX5_saidBy_27 ?_
      refine m_top (show (fs (nI (k * 200 + j)).toNatClampNeg) = fs (k * 200 + j) from by rw [nI_clamp (by omega)]) ?_
      refine lv_goto (tgt := 32) hx hb dX5_saidBy_28 (by decide) ?_
      exact e_i hx hb hlocks hr dX5_saidBy_32 hS (rfl)
def agr (a b c : Int32) : Int32 := if a = b ∨ a = c then a else if b = c then b else -1
set_option maxHeartbeats 4000000 in
set_option maxRecDepth 100000 in
/-- Rulings.agreedOn -/
theorem k_X5_agreedOn (l : Launch) (D : va_G) (ac : Nat → ClassId) (H : Heap) (u u1 u2 u3 : Nat) (fs fr ft : Nat → Int32) (h5 : RulC D ac H u u1 u2 u3 fs fr ft) (j : Nat) (hj : j < 200) : ROi l yX5_agreedOn wsX5_agreedOn ({ frames := 1, cells := 0, slots := 0, locals := 23 }) [.ref u, .int (nI j)] D ac H (fun r => r = agr (fs (0 * 200 + j)) (fs (1 * 200 + j)) (fs (2 * 200 + j))) := by
  refine Met.ofW (cc := cX5_agreedOn) (maxL := 5) (ret := (some .int)) (by decide) rfl ?_
  intro p e s m args below meth c s₁ B hml hv
  obtain ⟨hargs, hsz, hK⟩ := hv
  have hx := B.exec
  have hb := B.bytes
  have hr := B.returns
  have hts := atoms_spec (ws := wsX5_agreedOn) B.pre
  have hown : s.vm.findClass RX5 = some m.cls := findClass_of_methodNamed B.named
  have hlocks := B.notSynchronized
  subst hsz
  have hS : va_S (fun _ => False) s.heap s.heap [] := va_S.rf
  have hl := lv_entry ([.ref u, .int (nI j)]) (n := 5) (Nat.le_of_ble_eq_true rfl)
  have hen := lg_entry_eq m [.ref u, .int (nI j)] 5
  rw [← hargs] at hen
  rw [hen]
  generalize (lg_sl ([.ref u, .int (nI j)]) ++ List.replicate (5 - (lg_sl ([.ref u, .int (nI j)])).length) Slot.unset).toArray = ls at hl ⊢
  have hl : lv_has ls 5 [(0, .ref u), (1, .int (nI j))] := hl
  refine lv_aload_n hx hb dX5_agreedOn_0 rfl (lv_at hl 0 rfl) ?_
  refine lv_iconst (v := 0) hx hb dX5_agreedOn_1 (by decide) ?_
  refine lv_iload_n hx hb dX5_agreedOn_2 rfl (lv_at hl 1 rfl) ?_
  refine r_calli (va_runV (As := [.int 0, .int (nI j)]) (rest := []) ⟨hx, hb, hml, hown, hts⟩ (k_X5_saidBy l D ac _ u u1 u2 u3 fs fr ft ⟨h5.1, h5.2.1, h5.2.2.1, h5.2.2.2⟩ 0 j (by omega) (by omega)) (cwV 2 hts gX5_agreedOn_X5_saidBy rfl rfl rfl (by decide +kernel) ⟨Nat.le_of_ble_eq_true rfl, Nat.le_of_ble_eq_true rfl⟩) (pV hK (ci := 5) rfl h5.1) rfl rfl hl.1 rfl (lv_room (Nat.le_of_ble_eq_true rfl)) dX5_agreedOn_3 ⟨Nat.le_of_ble_eq_true rfl, Nat.le_of_ble_eq_true rfl⟩) hS (fun rv_1 locs hrv_1 hS => ?_)
  subst hrv_1
  refine lv_istore_n (lv' := [(2, .int (fs (0 * 200 + j))), (0, .ref u), (1, .int (nI j))]) hx hb dX5_agreedOn_6 rfl hl (by decide) rfl (fun ls hl => ?_)
  refine lv_aload_n hx hb dX5_agreedOn_7 rfl (lv_at hl 1 rfl) ?_
  refine lv_iconst (v := 1) hx hb dX5_agreedOn_8 (by decide) ?_
  refine lv_iload_n hx hb dX5_agreedOn_9 rfl (lv_at hl 2 rfl) ?_
  refine r_calli (va_runV (As := [.int 1, .int (nI j)]) (rest := []) ⟨hx, hb, hml, hown, hts⟩ (k_X5_saidBy l D ac _ u u1 u2 u3 fs fr ft ⟨h5.1, h5.2.1, h5.2.2.1, h5.2.2.2⟩ 1 j (by omega) (by omega)) (cwV 2 hts gX5_agreedOn_X5_saidBy rfl rfl rfl (by decide +kernel) ⟨Nat.le_of_ble_eq_true rfl, Nat.le_of_ble_eq_true rfl⟩) (pV hK (ci := 5) rfl h5.1) rfl rfl hl.1 rfl (lv_room (Nat.le_of_ble_eq_true rfl)) dX5_agreedOn_10 ⟨Nat.le_of_ble_eq_true rfl, Nat.le_of_ble_eq_true rfl⟩) hS (fun rv_2 locs hrv_2 hS => ?_)
  subst hrv_2
  refine lv_istore_n (lv' := [(3, .int (fs (1 * 200 + j))), (2, .int (fs (0 * 200 + j))), (0, .ref u), (1, .int (nI j))]) hx hb dX5_agreedOn_13 rfl hl (by decide) rfl (fun ls hl => ?_)
  refine lv_aload_n hx hb dX5_agreedOn_14 rfl (lv_at hl 2 rfl) ?_
  refine lv_iconst (v := 2) hx hb dX5_agreedOn_15 (by decide) ?_
  refine lv_iload_n hx hb dX5_agreedOn_16 rfl (lv_at hl 3 rfl) ?_
  refine r_calli (va_runV (As := [.int 2, .int (nI j)]) (rest := []) ⟨hx, hb, hml, hown, hts⟩ (k_X5_saidBy l D ac _ u u1 u2 u3 fs fr ft ⟨h5.1, h5.2.1, h5.2.2.1, h5.2.2.2⟩ 2 j (by omega) (by omega)) (cwV 2 hts gX5_agreedOn_X5_saidBy rfl rfl rfl (by decide +kernel) ⟨Nat.le_of_ble_eq_true rfl, Nat.le_of_ble_eq_true rfl⟩) (pV hK (ci := 5) rfl h5.1) rfl rfl hl.1 rfl (lv_room (Nat.le_of_ble_eq_true rfl)) dX5_agreedOn_17 ⟨Nat.le_of_ble_eq_true rfl, Nat.le_of_ble_eq_true rfl⟩) hS (fun rv_3 locs hrv_3 hS => ?_)
  subst hrv_3
  refine lv_istore (lv' := [(4, .int (fs (2 * 200 + j))), (3, .int (fs (1 * 200 + j))), (2, .int (fs (0 * 200 + j))), (0, .ref u), (1, .int (nI j))]) hx hb dX5_agreedOn_20 hl (by decide) rfl (fun ls hl => ?_)
  refine lv_iload_n hx hb dX5_agreedOn_22 rfl (lv_at hl 2 rfl) ?_
  refine lv_iload_n hx hb dX5_agreedOn_23 rfl (lv_at hl 1 rfl) ?_
  refine lv_icmp_eq (tgt := 33) hx hb dX5_agreedOn_24 (by decide) (fun c24 => ?_) (fun c24 => ?_)
  · refine lv_iload_n hx hb dX5_agreedOn_33 rfl (lv_at hl 2 rfl) ?_
    exact e_i hx hb hlocks hr dX5_agreedOn_34 hS (by unfold agr; first | rw [if_pos (Or.inl c24)] | rw [if_pos (Or.inr c30)])
  · refine lv_iload_n hx hb dX5_agreedOn_27 rfl (lv_at hl 2 rfl) ?_
    refine lv_iload hx hb dX5_agreedOn_28 (lv_at hl 0 rfl) ?_
    refine lv_icmp_ne (tgt := 35) hx hb dX5_agreedOn_30 (by decide) (fun c30 => ?_) (fun c30 => ?_)
    · refine lv_iload_n hx hb dX5_agreedOn_35 rfl (lv_at hl 1 rfl) ?_
      refine lv_iload hx hb dX5_agreedOn_36 (lv_at hl 0 rfl) ?_
      refine lv_icmp_ne (tgt := 45) hx hb dX5_agreedOn_38 (by decide) (fun c38 => ?_) (fun c38 => ?_)
      · refine lv_iconst (v := (-1)) hx hb dX5_agreedOn_45 (by decide) ?_
        exact e_i hx hb hlocks hr dX5_agreedOn_46 hS (by unfold agr; rw [if_neg (fun h => h.elim c24 c30)]; first | rw [if_pos c38] | rw [if_neg c38])
      · refine lv_iload_n hx hb dX5_agreedOn_41 rfl (lv_at hl 1 rfl) ?_
        refine lv_goto (tgt := 46) hx hb dX5_agreedOn_42 (by decide) ?_
        exact e_i hx hb hlocks hr dX5_agreedOn_46 hS (by unfold agr; rw [if_neg (fun h => h.elim c24 c30)]; first | rw [if_pos c38] | rw [if_neg c38])
    · refine lv_iload_n hx hb dX5_agreedOn_33 rfl (lv_at hl 2 rfl) ?_
      exact e_i hx hb hlocks hr dX5_agreedOn_34 hS (by unfold agr; first | rw [if_pos (Or.inl c24)] | rw [if_pos (Or.inr c30)])
set_option maxHeartbeats 4000000 in
set_option maxRecDepth 100000 in
/-- Rulings.hear -/
theorem k_X5_hear (l : Launch) (D : va_G) (ac : Nat → ClassId) (H : Heap) (A : Nat → Prop) (N : Nat) (adr : Nat → Nat) (w : Nat → va_E) (hM : MW D A N adr w H) (u u1 u2 u3 : Nat) (fs fr ft : Nat → Int32) (hu : u < N) (hu1 : u1 < N) (hu2 : u2 < N) (hu3 : u3 < N) (hd : u ≠ u1 ∧ u ≠ u2 ∧ u ≠ u3 ∧ u1 ≠ u2 ∧ u1 ≠ u3 ∧ u2 ≠ u3) (g0 : w u = .inr (5, [.ref (adr u1), .ref (adr u2), .ref (adr u3)])) (g1 : w u1 = .inl (ac 0, 600, .inl fs)) (g2 : w u2 = .inl (ac 0, 200, .inl fr)) (g3 : w u3 = .inl (ac 0, 200, .inl ft)) (k j : Nat) (hk : k < 3) (hj : j < 200) (x y : Int32) : WRv l yX5_hear wsX5_hear ({ frames := 2, cells := 0, slots := 0, locals := 47 }) [.ref (adr u), .int (nI k), .int (nI j), .int x, .int y] D ac H A N adr (fun w1 => (agr ((upd fs (k * 200 + j) x) (0 * 200 + j)) ((upd fs (k * 200 + j) x) (1 * 200 + j)) ((upd fs (k * 200 + j) x) (2 * 200 + j)) = fr j ∧ w1 = va_up w u1 (.inl (ac 0, 600, .inl (upd fs (k * 200 + j) x)))) ∨ (¬ agr ((upd fs (k * 200 + j) x) (0 * 200 + j)) ((upd fs (k * 200 + j) x) (1 * 200 + j)) ((upd fs (k * 200 + j) x) (2 * 200 + j)) = fr j ∧ w1 = va_up (va_up (va_up w u1 (.inl (ac 0, 600, .inl (upd fs (k * 200 + j) x)))) u2 (.inl (ac 0, 200, .inl (upd fr j (agr ((upd fs (k * 200 + j) x) (0 * 200 + j)) ((upd fs (k * 200 + j) x) (1 * 200 + j)) ((upd fs (k * 200 + j) x) (2 * 200 + j))))))) u3 (.inl (ac 0, 200, .inl (upd ft j y))))) := by
  refine Met.ofW (cc := cX5_hear) (maxL := 7) (ret := none) (by decide) rfl ?_
  intro p e s m args below meth c s₁ B hml hv
  obtain ⟨hargs, hsz, hK⟩ := hv
  have hx := B.exec
  have hb := B.bytes
  have hr := B.returns
  have hts := atoms_spec (ws := wsX5_hear) B.pre
  have hown : s.vm.findClass RX5 = some m.cls := findClass_of_methodNamed B.named
  have hlocks := B.notSynchronized
  subst hsz
  have inX5_ : ∀ w ∈ wsX50, w ∈ wsX5_hear := by decide +kernel
  have hS : va_S A s.heap s.heap [] := va_S.rf
  have hl := lv_entry ([.ref (adr u), .int (nI k), .int (nI j), .int x, .int y]) (n := 7) (Nat.le_of_ble_eq_true rfl)
  have hen := lg_entry_eq m [.ref (adr u), .int (nI k), .int (nI j), .int x, .int y] 7
  rw [← hargs] at hen
  rw [hen]
  generalize (lg_sl ([.ref (adr u), .int (nI k), .int (nI j), .int x, .int y]) ++ List.replicate (7 - (lg_sl ([.ref (adr u), .int (nI k), .int (nI j), .int x, .int y])).length) Slot.unset).toArray = ls at hl ⊢
  have hl : lv_has ls 7 [(0, .ref (adr u)), (1, .int (nI k)), (2, .int (nI j)), (3, .int x), (4, .int y)] := hl
  refine lv_iload_n hx hb dX5_hear_0 rfl (lv_at hl 1 rfl) ?_
  refine lv_iconst (v := 4) hx hb dX5_hear_1 (by decide) ?_
  refine lv_imul hx hb dX5_hear_2 ?_
  refine lv_bipush (v := 50) hx hb dX5_hear_3 (by decide) ?_
  refine lv_imul hx hb dX5_hear_5 ?_
  refine lv_iload_n hx hb dX5_hear_6 rfl (lv_at hl 2 rfl) ?_
  refine lv_iadd hx hb dX5_hear_7 ?_
  refine m_top (show ((((nI k) * 4) * 50) + (nI j)) = nI (k * 200 + j) from by rw [show (50 : Int32) = nI 50 from rfl, show (4 : Int32) = nI 4 from rfl, pk_mul, pk_mul, nI_add]; congr 1; omega) ?_
  refine lv_istore (lv' := [(5, .int (nI (k * 200 + j))), (0, .ref (adr u)), (1, .int (nI k)), (2, .int (nI j)), (3, .int x), (4, .int y)]) hx hb dX5_hear_8 hl (by decide) rfl (fun ls hl => ?_)
  refine lv_iload_n hx hb dX5_hear_10 rfl (lv_at hl 3 rfl) ?_
  refine lv_if_lt (tgt := 47) hx hb dX5_hear_11 (by decide) (fun c11 => ?_) (fun c11 => ?_)
  · exact absurd c11 (nI_pos (by omega))
  · refine lv_iload_n hx hb dX5_hear_14 rfl (lv_at hl 3 rfl) ?_
    refine lv_aload_n hx hb dX5_hear_15 rfl (lv_at hl 1 rfl) ?_
    refine m_get (ci := 5) (C := RX5) (T := TX5) (n := 3) (v := .ref (adr u2)) hx hb hts inX5_ hown hK rfl (hM.cel hu g0) 1 (by decide) (hts _ (by decide +kernel)) rfl dX5_hear_16 ?_
    refine m_alen (v := 200) (ty := _) hx hb hK 0 (hM.cel hu2 g2) rfl (by first | rfl | decide) dX5_hear_19 ?_
    refine lv_icmp_ge (tgt := 47) hx hb dX5_hear_20 (by decide) (fun c20 => ?_) (fun c20 => ?_)
    · exact absurd (le_le (a := 200) c20 (by omega) (by omega)) (by omega)
    · refine lv_iload_n hx hb dX5_hear_23 rfl (lv_at hl 3 rfl) ?_
      refine lv_aload_n hx hb dX5_hear_24 rfl (lv_at hl 1 rfl) ?_
      refine m_get (ci := 5) (C := RX5) (T := TX5) (n := 3) (v := .ref (adr u3)) hx hb hts inX5_ hown hK rfl (hM.cel hu g0) 2 (by decide) (hts _ (by decide +kernel)) rfl dX5_hear_25 ?_
      refine m_alen (v := 200) (ty := _) hx hb hK 0 (hM.cel hu3 g3) rfl (by first | rfl | decide) dX5_hear_28 ?_
      refine lv_icmp_ge (tgt := 47) hx hb dX5_hear_29 (by decide) (fun c29 => ?_) (fun c29 => ?_)
      · exact absurd (le_le (a := 200) c29 (by omega) (by omega)) (by omega)
      · refine lv_iload hx hb dX5_hear_32 (lv_at hl 0 rfl) ?_
        refine lv_if_lt (tgt := 47) hx hb dX5_hear_34 (by decide) (fun c34 => ?_) (fun c34 => ?_)
        · exact absurd c34 (nI_pos (by omega))
        · refine lv_iload hx hb dX5_hear_37 (lv_at hl 0 rfl) ?_
          refine lv_aload_n hx hb dX5_hear_39 rfl (lv_at hl 1 rfl) ?_
          refine m_get (ci := 5) (C := RX5) (T := TX5) (n := 3) (v := .ref (adr u1)) hx hb hts inX5_ hown hK rfl (hM.cel hu g0) 0 (by decide) (hts _ (by decide +kernel)) rfl dX5_hear_40 ?_
          refine m_alen (v := 600) (ty := _) hx hb hK 0 (hM.cel hu1 g1) rfl (by first | rfl | decide) dX5_hear_43 ?_
          refine lv_icmp_lt (tgt := 48) hx hb dX5_hear_44 (by decide) (fun c44 => ?_) (fun c44 => ?_)
          · refine lv_aload_n hx hb dX5_hear_48 rfl (lv_at hl 1 rfl) ?_
            refine m_get (ci := 5) (C := RX5) (T := TX5) (n := 3) (v := .ref (adr u1)) hx hb hts inX5_ hown hK rfl (hM.cel hu g0) 0 (by decide) (hts _ (by decide +kernel)) rfl dX5_hear_49 ?_
            refine lv_iload hx hb dX5_hear_52 (lv_at hl 0 rfl) ?_
            refine lv_iload_n hx hb dX5_hear_54 rfl (lv_at hl 4 rfl) ?_
            refine m_iast hx hb hK hM hS u1 hu1 g1 (vp_in_nI (by omega) (by decide)) dX5_hear_55 (fun H locs hM hS => ?_)
            have ef_ : (upd fs (nI (k * 200 + j)).toNatClampNeg x) = (upd fs (k * 200 + j) x) := by rw [nI_clamp (by omega)]
            rw [ef_] at hM
            clear ef_
            obtain ⟨w_2, ew_2⟩ : ∃ z, z = va_up w u1 (.inl (ac 0, 600, .inl ((upd fs (k * 200 + j) x)))) := ⟨_, rfl⟩
            rw [← ew_2] at hM
            have h_3 : w_2 u = .inr (5, [.ref (adr u1), .ref (adr u2), .ref (adr u3)]) := by rw [ew_2, va_up_ne _ _ (by omega)]; exact g0
            have h_4 : w_2 u1 = .inl (ac 0, 600, .inl ((upd fs (k * 200 + j) x))) := by rw [ew_2]; exact va_up_self _ _ _
            have h_5 : w_2 u2 = .inl (ac 0, 200, .inl fr) := by rw [ew_2, va_up_ne _ _ (by omega)]; exact g2
            have h_6 : w_2 u3 = .inl (ac 0, 200, .inl ft) := by rw [ew_2, va_up_ne _ _ (by omega)]; exact g3
            refine lv_aload_n hx hb dX5_hear_56 rfl (lv_at hl 1 rfl) ?_
            refine lv_iload_n hx hb dX5_hear_57 rfl (lv_at hl 3 rfl) ?_
            refine r_calli (va_runV (As := [.int (nI j)]) (rest := []) ⟨hx, hb, hml, hown, hts⟩ (k_X5_agreedOn l D ac _ (adr u) (adr u1) (adr u2) (adr u3) ((upd fs (k * 200 + j) x)) fr ft ⟨(hM.cel hu h_3), (hM.cel hu1 h_4), (hM.cel hu2 h_5), (hM.cel hu3 h_6)⟩ j (by omega)) (cwV 1 hts gX5_hear_X5_agreedOn rfl rfl rfl (by decide +kernel) ⟨Nat.le_of_ble_eq_true rfl, Nat.le_of_ble_eq_true rfl⟩) (pV hK (ci := 5) rfl (hM.cel hu h_3)) rfl rfl hl.1 rfl (lv_room (Nat.le_of_ble_eq_true rfl)) dX5_hear_58 ⟨Nat.le_of_ble_eq_true rfl, Nat.le_of_ble_eq_true rfl⟩) hS (fun rv_7 locs hrv_7 hS => ?_)
            subst hrv_7
            refine lv_istore (lv' := [(6, .int (agr (((upd fs (k * 200 + j) x)) (0 * 200 + j)) (((upd fs (k * 200 + j) x)) (1 * 200 + j)) (((upd fs (k * 200 + j) x)) (2 * 200 + j)))), (5, .int (nI (k * 200 + j))), (0, .ref (adr u)), (1, .int (nI k)), (2, .int (nI j)), (3, .int x), (4, .int y)]) hx hb dX5_hear_61 hl (by decide) rfl (fun ls hl => ?_)
            refine lv_iload hx hb dX5_hear_63 (lv_at hl 0 rfl) ?_
            refine lv_aload_n hx hb dX5_hear_65 rfl (lv_at hl 2 rfl) ?_
            refine m_get (ci := 5) (C := RX5) (T := TX5) (n := 3) (v := .ref (adr u2)) hx hb hts inX5_ hown hK rfl (hM.cel hu h_3) 1 (by decide) (hts _ (by decide +kernel)) rfl dX5_hear_66 ?_
            refine lv_iload_n hx hb dX5_hear_69 rfl (lv_at hl 4 rfl) ?_
            refine m_iald hx hb hK (hM.cel hu2 h_5) (vp_in_nI (by omega) (by decide)) dX5_hear_70 ?_
            refine m_top (show (fr (nI j).toNatClampNeg) = fr j from by rw [nI_clamp (by omega)]) ?_
            refine lv_icmp_eq (tgt := 90) hx hb dX5_hear_71 (by decide) (fun c71 => ?_) (fun c71 => ?_)
            · exact e_wv hx hb hlocks hr dX5_hear_90 hM hS (by subst_vars; first | exact Or.inl ⟨c71, rfl⟩ | exact Or.inr ⟨c71, rfl⟩)
            · refine lv_aload_n hx hb dX5_hear_74 rfl (lv_at hl 2 rfl) ?_
              refine m_get (ci := 5) (C := RX5) (T := TX5) (n := 3) (v := .ref (adr u2)) hx hb hts inX5_ hown hK rfl (hM.cel hu h_3) 1 (by decide) (hts _ (by decide +kernel)) rfl dX5_hear_75 ?_
              refine lv_iload_n hx hb dX5_hear_78 rfl (lv_at hl 4 rfl) ?_
              refine lv_iload hx hb dX5_hear_79 (lv_at hl 0 rfl) ?_
              refine m_iast hx hb hK hM hS u2 hu2 h_5 (vp_in_nI (by omega) (by decide)) dX5_hear_81 (fun H locs hM hS => ?_)
              have ef_ : (upd fr (nI j).toNatClampNeg (agr (((upd fs (k * 200 + j) x)) (0 * 200 + j)) (((upd fs (k * 200 + j) x)) (1 * 200 + j)) (((upd fs (k * 200 + j) x)) (2 * 200 + j)))) = upd fr j (agr ((upd fs (k * 200 + j) x) (0 * 200 + j)) ((upd fs (k * 200 + j) x) (1 * 200 + j)) ((upd fs (k * 200 + j) x) (2 * 200 + j))) := by rw [nI_clamp (by omega)]
              rw [ef_] at hM
              clear ef_
              obtain ⟨w_9, ew_9⟩ : ∃ z, z = va_up w_2 u2 (.inl (ac 0, 200, .inl (upd fr j (agr ((upd fs (k * 200 + j) x) (0 * 200 + j)) ((upd fs (k * 200 + j) x) (1 * 200 + j)) ((upd fs (k * 200 + j) x) (2 * 200 + j)))))) := ⟨_, rfl⟩
              rw [← ew_9] at hM
              have h_10 : w_9 u = .inr (5, [.ref (adr u1), .ref (adr u2), .ref (adr u3)]) := by rw [ew_9, va_up_ne _ _ (by omega)]; exact h_3
              have h_11 : w_9 u1 = .inl (ac 0, 600, .inl ((upd fs (k * 200 + j) x))) := by rw [ew_9, va_up_ne _ _ (by omega)]; exact h_4
              have h_12 : w_9 u2 = .inl (ac 0, 200, .inl (upd fr j (agr ((upd fs (k * 200 + j) x) (0 * 200 + j)) ((upd fs (k * 200 + j) x) (1 * 200 + j)) ((upd fs (k * 200 + j) x) (2 * 200 + j))))) := by rw [ew_9]; exact va_up_self _ _ _
              have h_13 : w_9 u3 = .inl (ac 0, 200, .inl ft) := by rw [ew_9, va_up_ne _ _ (by omega)]; exact h_6
              refine lv_aload_n hx hb dX5_hear_82 rfl (lv_at hl 2 rfl) ?_
              refine m_get (ci := 5) (C := RX5) (T := TX5) (n := 3) (v := .ref (adr u3)) hx hb hts inX5_ hown hK rfl (hM.cel hu h_10) 2 (by decide) (hts _ (by decide +kernel)) rfl dX5_hear_83 ?_
              refine lv_iload_n hx hb dX5_hear_86 rfl (lv_at hl 4 rfl) ?_
              refine lv_iload hx hb dX5_hear_87 (lv_at hl 6 rfl) ?_
              refine m_iast hx hb hK hM hS u3 hu3 h_13 (vp_in_nI (by omega) (by decide)) dX5_hear_89 (fun H locs hM hS => ?_)
              have ef_ : (upd ft (nI j).toNatClampNeg y) = upd ft j y := by rw [nI_clamp (by omega)]
              rw [ef_] at hM
              clear ef_
              obtain ⟨w_15, ew_15⟩ : ∃ z, z = va_up w_9 u3 (.inl (ac 0, 200, .inl (upd ft j y))) := ⟨_, rfl⟩
              rw [← ew_15] at hM
              have h_16 : w_15 u = .inr (5, [.ref (adr u1), .ref (adr u2), .ref (adr u3)]) := by rw [ew_15, va_up_ne _ _ (by omega)]; exact h_10
              have h_17 : w_15 u1 = .inl (ac 0, 600, .inl ((upd fs (k * 200 + j) x))) := by rw [ew_15, va_up_ne _ _ (by omega)]; exact h_11
              have h_18 : w_15 u2 = .inl (ac 0, 200, .inl (upd fr j (agr ((upd fs (k * 200 + j) x) (0 * 200 + j)) ((upd fs (k * 200 + j) x) (1 * 200 + j)) ((upd fs (k * 200 + j) x) (2 * 200 + j))))) := by rw [ew_15, va_up_ne _ _ (by omega)]; exact h_12
              have h_19 : w_15 u3 = .inl (ac 0, 200, .inl (upd ft j y)) := by rw [ew_15]; exact va_up_self _ _ _
              exact e_wv hx hb hlocks hr dX5_hear_90 hM hS (by subst_vars; first | exact Or.inl ⟨c71, rfl⟩ | exact Or.inr ⟨c71, rfl⟩)
          · exact absurd (nlt_le (b := 600) c44 (by omega) (by omega)) (by omega)
