set_option maxHeartbeats 4000000 in
set_option maxRecDepth 100000 in
/-- X8_isIn -/
theorem k_X8_isIn (l : Launch) (D : va_G) (ac : Nat → ClassId) (H : Heap) (x : Int32) (n : Nat) (hn : n < 2147483648) : ROi l yX8_isIn wsX8_isIn ({ frames := 0, cells := 0, slots := 0, locals := 0 }) [.int x, .int (nI n)] D ac H (fun r => r = if (ix x n).isSome then 1 else 0) := by
  refine Met.ofW (cc := cX8_isIn) (maxL := 2) (ret := (some .boolean)) (by decide) rfl ?_
  intro p e s m args below meth c s₁ B hml hv
  obtain ⟨hargs, hsz, hK⟩ := hv
  have hx := B.exec
  have hb := B.bytes
  have hr := B.returns
  have hts := atoms_spec (ws := wsX8_isIn) B.pre
  have hown : s.vm.findClass RX8 = some m.cls := findClass_of_methodNamed B.named
  have hlocks := B.notSynchronized
  subst hsz
  have hS : va_S (fun _ => False) s.heap s.heap [] := va_S.rf
  have hl := lv_entry ([.int x, .int (nI n)]) (n := 2) (Nat.le_of_ble_eq_true rfl)
  have hen := lg_entry_eq m [.int x, .int (nI n)] 2
  rw [← hargs] at hen
  rw [hen]
  generalize (lg_sl ([.int x, .int (nI n)]) ++ List.replicate (2 - (lg_sl ([.int x, .int (nI n)])).length) Slot.unset).toArray = ls at hl ⊢
  have hl : lv_has ls 2 [(0, .int x), (1, .int (nI n))] := hl
  refine lv_iload_n hx hb dX8_isIn_0 rfl (lv_at hl 0 rfl) ?_
  refine lv_if_lt (tgt := 13) hx hb dX8_isIn_1 (by decide) (fun c1 => ?_) (fun c1 => ?_)
  · refine lv_iconst (v := 0) hx hb dX8_isIn_13 (by decide) ?_
    exact e_z hx hb hlocks hr dX8_isIn_14 (by decide) hS (by first | (rw [ix_neg c1]; rfl) | (rw [ix_big c6]; rfl) | (rw [ix_some c1 c6]; rfl))
  · refine lv_iload_n hx hb dX8_isIn_4 rfl (lv_at hl 0 rfl) ?_
    refine lv_iload_n hx hb dX8_isIn_5 rfl (lv_at hl 1 rfl) ?_
    refine lv_icmp_ge (tgt := 13) hx hb dX8_isIn_6 (by decide) (fun c6 => ?_) (fun c6 => ?_)
    · refine lv_iconst (v := 0) hx hb dX8_isIn_13 (by decide) ?_
      exact e_z hx hb hlocks hr dX8_isIn_14 (by decide) hS (by first | (rw [ix_neg c1]; rfl) | (rw [ix_big c6]; rfl) | (rw [ix_some c1 c6]; rfl))
    · refine lv_iconst (v := 1) hx hb dX8_isIn_9 (by decide) ?_
      refine lv_goto (tgt := 14) hx hb dX8_isIn_10 (by decide) ?_
      exact e_z hx hb hlocks hr dX8_isIn_14 (by decide) hS (by first | (rw [ix_neg c1]; rfl) | (rw [ix_big c6]; rfl) | (rw [ix_some c1 c6]; rfl))
set_option maxHeartbeats 4000000 in
set_option maxRecDepth 100000 in
/-- X8_at -/
theorem k_X8_at (l : Launch) (D : va_G) (ac : Nat → ClassId) (H : Heap) (k j : Nat) : ROi l yX8_at wsX8_at ({ frames := 0, cells := 0, slots := 0, locals := 0 }) [.int (nI k), .int (nI j)] D ac H (fun r => r = nI (k * 50 + j)) := by
  refine Met.ofW (cc := cX8_at) (maxL := 2) (ret := (some .int)) (by decide) rfl ?_
  intro p e s m args below meth c s₁ B hml hv
  obtain ⟨hargs, hsz, hK⟩ := hv
  have hx := B.exec
  have hb := B.bytes
  have hr := B.returns
  have hts := atoms_spec (ws := wsX8_at) B.pre
  have hown : s.vm.findClass RX8 = some m.cls := findClass_of_methodNamed B.named
  have hlocks := B.notSynchronized
  subst hsz
  have hS : va_S (fun _ => False) s.heap s.heap [] := va_S.rf
  have hl := lv_entry ([.int (nI k), .int (nI j)]) (n := 2) (Nat.le_of_ble_eq_true rfl)
  have hen := lg_entry_eq m [.int (nI k), .int (nI j)] 2
  rw [← hargs] at hen
  rw [hen]
  generalize (lg_sl ([.int (nI k), .int (nI j)]) ++ List.replicate (2 - (lg_sl ([.int (nI k), .int (nI j)])).length) Slot.unset).toArray = ls at hl ⊢
  have hl : lv_has ls 2 [(0, .int (nI k)), (1, .int (nI j))] := hl
  refine lv_bipush (v := 50) hx hb dX8_at_0 (by decide) ?_
  refine lv_iload_n hx hb dX8_at_2 rfl (lv_at hl 0 rfl) ?_
  refine lv_imul hx hb dX8_at_3 ?_
  refine lv_iload_n hx hb dX8_at_4 rfl (lv_at hl 1 rfl) ?_
  refine lv_iadd hx hb dX8_at_5 ?_
  refine m_top (show ((50 * (nI k)) + (nI j)) = nI (k * 50 + j) from by rw [show (50 : Int32) = nI 50 from rfl, pk_mul, nI_add, Nat.mul_comm]) ?_
  exact e_i hx hb hlocks hr dX8_at_6 hS (rfl)
set_option maxHeartbeats 4000000 in
set_option maxRecDepth 100000 in
/-- X8_lesser -/
theorem k_X8_lesser (l : Launch) (D : va_G) (ac : Nat → ClassId) (H : Heap) (i j : Nat) (hi : i < 2147483648) (hj : j < 2147483648) : ROi l yX8_lesser wsX8_lesser ({ frames := 0, cells := 0, slots := 0, locals := 0 }) [.int (nI i), .int (nI j)] D ac H (fun r => r = nI (min i j)) := by
  refine Met.ofW (cc := cX8_lesser) (maxL := 2) (ret := (some .int)) (by decide) rfl ?_
  intro p e s m args below meth c s₁ B hml hv
  obtain ⟨hargs, hsz, hK⟩ := hv
  have hx := B.exec
  have hb := B.bytes
  have hr := B.returns
  have hts := atoms_spec (ws := wsX8_lesser) B.pre
  have hown : s.vm.findClass RX8 = some m.cls := findClass_of_methodNamed B.named
  have hlocks := B.notSynchronized
  subst hsz
  have hS : va_S (fun _ => False) s.heap s.heap [] := va_S.rf
  have hl := lv_entry ([.int (nI i), .int (nI j)]) (n := 2) (Nat.le_of_ble_eq_true rfl)
  have hen := lg_entry_eq m [.int (nI i), .int (nI j)] 2
  rw [← hargs] at hen
  rw [hen]
  generalize (lg_sl ([.int (nI i), .int (nI j)]) ++ List.replicate (2 - (lg_sl ([.int (nI i), .int (nI j)])).length) Slot.unset).toArray = ls at hl ⊢
  have hl : lv_has ls 2 [(0, .int (nI i)), (1, .int (nI j))] := hl
  refine lv_iload_n hx hb dX8_lesser_0 rfl (lv_at hl 0 rfl) ?_
  refine lv_iload_n hx hb dX8_lesser_1 rfl (lv_at hl 1 rfl) ?_
  refine lv_icmp_ge (tgt := 9) hx hb dX8_lesser_2 (by decide) (fun c2 => ?_) (fun c2 => ?_)
  · have q2 := le_le c2 (by omega) (by omega)
    refine lv_iload_n hx hb dX8_lesser_9 rfl (lv_at hl 1 rfl) ?_
    exact e_i hx hb hlocks hr dX8_lesser_10 hS (by first | rw [Nat.min_eq_right (by omega)] | rw [Nat.min_eq_left (by omega)])
  · have q2 := nle_lt c2 (by omega) (by omega)
    refine lv_iload_n hx hb dX8_lesser_5 rfl (lv_at hl 0 rfl) ?_
    refine lv_goto (tgt := 10) hx hb dX8_lesser_6 (by decide) ?_
    exact e_i hx hb hlocks hr dX8_lesser_10 hS (by first | rw [Nat.min_eq_right (by omega)] | rw [Nat.min_eq_left (by omega)])
set_option maxHeartbeats 4000000 in
set_option maxRecDepth 100000 in
/-- X8_thrown -/
theorem k_X8_thrown (l : Launch) (D : va_G) (ac : Nat → ClassId) (H : Heap) (A : Nat → Prop) (adr : Nat → Nat) (sf : Nat → Int32) (af : Nat → Nat → Int32) (hM : MW D A 24 adr (mw ac adr sf af) H)  : ROi l yX8_thrown wsX8_thrown ({ frames := 0, cells := 0, slots := 0, locals := 0 }) [.ref (adr 0)] D ac H (fun r => r = sf 0) := by
  refine Met.ofW (cc := cX8_thrown) (maxL := 1) (ret := (some .int)) (by decide) rfl ?_
  intro p e s m args below meth c s₁ B hml hv
  obtain ⟨hargs, hsz, hK⟩ := hv
  have hx := B.exec
  have hb := B.bytes
  have hr := B.returns
  have hts := atoms_spec (ws := wsX8_thrown) B.pre
  have hown : s.vm.findClass RX8 = some m.cls := findClass_of_methodNamed B.named
  have hlocks := B.notSynchronized
  subst hsz
  have inX8_ : ∀ w ∈ wsX80, w ∈ wsX8_thrown := by decide +kernel
  have hS : va_S (fun _ => False) s.heap s.heap [] := va_S.rf
  have hl := lv_entry ([.ref (adr 0)]) (n := 1) (Nat.le_of_ble_eq_true rfl)
  have hen := lg_entry_eq m [.ref (adr 0)] 1
  rw [← hargs] at hen
  rw [hen]
  generalize (lg_sl ([.ref (adr 0)]) ++ List.replicate (1 - (lg_sl ([.ref (adr 0)])).length) Slot.unset).toArray = ls at hl ⊢
  have hl : lv_has ls 1 [(0, .ref (adr 0))] := hl
  refine lv_aload_n hx hb dX8_thrown_0 rfl (lv_at hl 0 rfl) ?_
  refine m_get (ci := 8) (C := RX8) (T := TX8) (n := 35) (v := .int (sf 0)) hx hb hts inX8_ hown hK rfl (hM.cel (by omega) (show (mw ac adr sf af) 0 = .inr (8, mfs adr sf) from rfl)) 0 (by decide) (hts _ (by decide +kernel)) rfl dX8_thrown_1 ?_
  exact e_i hx hb hlocks hr dX8_thrown_4 hS (rfl)
set_option maxHeartbeats 4000000 in
set_option maxRecDepth 100000 in
/-- X8_holds -/
theorem k_X8_holds (l : Launch) (D : va_G) (ac : Nat → ClassId) (H : Heap) (A : Nat → Prop) (adr : Nat → Nat) (sf : Nat → Int32) (af : Nat → Nat → Int32) (hM : MW D A 24 adr (mw ac adr sf af) H) (x : Int32) : WRi l yX8_holds wsX8_holds ({ frames := 0, cells := 0, slots := 0, locals := 0 }) [.ref (adr 0), .int x] D ac H A 24 adr (fun r w1 => r = (if x = 0 then 1 else 0) ∧ w1 = mw ac adr (va_up sf 0 x) af) := by
  refine Met.ofW (cc := cX8_holds) (maxL := 2) (ret := (some .boolean)) (by decide) rfl ?_
  intro p e s m args below meth c s₁ B hml hv
  obtain ⟨hargs, hsz, hK⟩ := hv
  have hx := B.exec
  have hb := B.bytes
  have hr := B.returns
  have hts := atoms_spec (ws := wsX8_holds) B.pre
  have hown : s.vm.findClass RX8 = some m.cls := findClass_of_methodNamed B.named
  have hlocks := B.notSynchronized
  subst hsz
  have inX8_ : ∀ w ∈ wsX80, w ∈ wsX8_holds := by decide +kernel
  have hS : va_S A s.heap s.heap [] := va_S.rf
  have hl := lv_entry ([.ref (adr 0), .int x]) (n := 2) (Nat.le_of_ble_eq_true rfl)
  have hen := lg_entry_eq m [.ref (adr 0), .int x] 2
  rw [← hargs] at hen
  rw [hen]
  generalize (lg_sl ([.ref (adr 0), .int x]) ++ List.replicate (2 - (lg_sl ([.ref (adr 0), .int x])).length) Slot.unset).toArray = ls at hl ⊢
  have hl : lv_has ls 2 [(0, .ref (adr 0)), (1, .int x)] := hl
  refine lv_aload_n hx hb dX8_holds_0 rfl (lv_at hl 0 rfl) ?_
  refine lv_iload_n hx hb dX8_holds_1 rfl (lv_at hl 1 rfl) ?_
  refine m_put (ci := 8) (C := RX8) (T := TX8) (n := 35) (v := .int x) (ty := tyX8 0) hx hb hts inX8_ tyX8 tyX8_ok nmX8 hown hK hM hS rfl 0 (by omega) (show (mw ac adr sf af) 0 = .inr (8, mfs adr sf) from rfl) 0 (by decide) (hts _ (by decide +kernel)) rfl (by decide +kernel) rfl rfl (Nat.le_of_ble_eq_true rfl) dX8_holds_2 (fun H locs hM hS => ?_)
  have hM : MW D A 24 adr (va_up (mw ac adr sf af) 0 (.inr (8, mfs adr (va_up sf 0 x)))) H := hM
  have hM := MW.mobj (s1 := (va_up sf 0 x)) hM rfl
  refine lv_iload_n hx hb dX8_holds_5 rfl (lv_at hl 1 rfl) ?_
  refine lv_if_ne (tgt := 13) hx hb dX8_holds_6 (by decide) (fun c6 => ?_) (fun c6 => ?_)
  · refine lv_iconst (v := 0) hx hb dX8_holds_13 (by decide) ?_
    exact e_wz hx hb hlocks hr dX8_holds_14 (by decide) hM hS (⟨by first | rw [if_pos (show x = 0 from c6)] | rw [if_neg (show ¬ x = 0 from c6)], rfl⟩)
  · refine lv_iconst (v := 1) hx hb dX8_holds_9 (by decide) ?_
    refine lv_goto (tgt := 14) hx hb dX8_holds_10 (by decide) ?_
    exact e_wz hx hb hlocks hr dX8_holds_14 (by decide) hM hS (⟨by first | rw [if_pos (show x = 0 from c6)] | rw [if_neg (show ¬ x = 0 from c6)], rfl⟩)
