set_option maxHeartbeats 4000000 in
set_option maxRecDepth 100000 in
/-- X4_init -/
theorem k_X4_init (l : Launch) (D : va_G) (ac : Nat → ClassId) (H : Heap) (A : Nat → Prop) (hA : ∀ q, H.size ≤ q → A q) (N : Nat) (adr : Nat → Nat) (w : Nat → va_E) (hM : MW D A N adr w H) (a : Nat) (ha : a < N) (h1 : w a = .inr (4, [.null, .int 0])) : WCv l yX4_init wsX4_init ({ frames := 1, cells := 1, slots := 8, locals := 20 }) [.ref (adr a)] D ac H A (N + 1) (fun adr2 w1 => (∀ k, k < N → adr k = adr2 k) ∧ w1 = va_up (va_up w N (.inl (ac 0, 8, .inl (fun _ => 0)))) a (.inr (4, [.ref (adr2 N), .int 0]))) 1 8 := by
  refine Met.ofW (cc := cX4_init) (maxL := 1) (ret := none) (by decide) rfl ?_
  intro p e s m args below meth c s₁ B hml hv
  obtain ⟨hargs, hsz, hK⟩ := hv
  have hx := B.exec
  have hb := B.bytes
  have hr := B.returns
  have hts := atoms_spec (ws := wsX4_init) B.pre
  have hown : s.vm.findClass RX4 = some m.cls := findClass_of_methodNamed B.named
  have hlocks := B.notSynchronized
  have hin : meth.name = "<init>" := (name_of_methodNamed B.named B.method).1
  subst hsz
  have inX4_ : ∀ w ∈ wsX40, w ∈ wsX4_init := by decide +kernel
  have hS : va_S A s.heap s.heap [] := va_S.rf
  have hl := lv_entry ([.ref (adr a)]) (n := 1) (Nat.le_of_ble_eq_true rfl)
  have hen := lg_entry_eq m [.ref (adr a)] 1
  rw [← hargs] at hen
  rw [hen]
  generalize (lg_sl ([.ref (adr a)]) ++ List.replicate (1 - (lg_sl ([.ref (adr a)])).length) Slot.unset).toArray = ls at hl ⊢
  have hl : lv_has ls 1 [(0, .ref (adr a))] := hl
  obtain ⟨Q0, hQ0⟩ : ∃ z, z = MQ below (va_Qv (cvP (fun adr2 w1 => (∀ k, k < N → adr k = adr2 k) ∧ w1 = va_up (va_up w N (.inl (ac 0, 8, .inl (fun _ => 0)))) a (.inr (4, [.ref (adr2 N), .int 0])))) (fun u t => MW D A (N + 1) u.1 u.2 t.heap) A) args s 1 8 A := ⟨_, rfl⟩
  rw [← hQ0]
  refine lv_aload_n hx hb dX4_init_0 rfl (lv_at hl 0 rfl) ?_
  refine m_objinit hx hb hown (hts _ (by decide +kernel)) (hts _ (by decide +kernel)) (hts _ (by decide +kernel)) (hl.1.trans hml.symm) dX4_init_1 (Nat.le_of_ble_eq_true rfl) (Nat.le_of_ble_eq_true rfl) ?_
  refine lv_aload_n hx hb dX4_init_4 rfl (lv_at hl 0 rfl) ?_
  refine lv_bipush (v := 8) hx hb dX4_init_5 (by decide) ?_
  refine m_newa (atype := .int) (ty := .int) (a0 := (8, .inl (fun _ => 0))) (N' := 8) hx hb (hts _ (by decide +kernel)) hK hM hS hA 0 rfl rfl (fun _ => rfl) (by decide) (by decide) (by decide) (Nat.le_of_ble_eq_true rfl) (Nat.le_of_ble_eq_true rfl) dX4_init_7 (fun adr_1 H he_2 hM hS => ?_)
  obtain ⟨w_3, ew_3⟩ : ∃ z9_, z9_ = va_up w N (.inl (ac 0, 8, .inl (fun _ => 0))) := ⟨_, rfl⟩
  have hM : MW D A (N + 1) adr_1 w_3 H := by rw [ew_3]; exact hM
  have b_4 := he_2 a (by omega)
  simp only [b_4] at hl
  try simp only [b_4]
  have h_5 : w_3 a = .inr (4, [.null, .int 0]) := by rw [ew_3, va_up_ne _ _ (by omega), h1]
  have h_6 : w_3 N = .inl (ac 0, 8, .inl (fun _ => 0)) := by rw [ew_3]; exact va_up_self _ _ _
  refine m_putF (ci := 4) (C := RX4) (T := TX4) (n := 2) (v := .ref (adr_1 N)) (ty := tyX4 0) hx hb hts inX4_ tyX4 tyX4_ok nmX4 hown hK hM hS rfl a (by omega) h_5 0 (by decide) (hts _ (by decide +kernel)) rfl hin rfl (by decide +kernel) rfl rfl (Nat.le_of_ble_eq_true rfl) dX4_init_9 (fun H locs hM hS => ?_)
  have hM : MW D A (N + 1) adr_1 (va_up w_3 a (.inr (4, [.ref (adr_1 N), .int 0]))) H := hM
  obtain ⟨w_7, ew_7⟩ : ∃ z9_, z9_ = va_up w_3 a (.inr (4, [.ref (adr_1 N), .int 0])) := ⟨_, rfl⟩
  rw [← ew_7] at hM
  have h_8 : w_7 a = .inr (4, [.ref (adr_1 N), .int 0]) := by rw [ew_7]; exact va_up_self _ _ _
  have h_9 : w_7 N = .inl (ac 0, 8, .inl (fun _ => 0)) := by rw [ew_7, va_up_ne _ _ (by omega)]; exact h_6
  refine lv_aload_n hx hb dX4_init_12 rfl (lv_at hl 0 rfl) ?_
  refine lv_iconst (v := 0) hx hb dX4_init_13 (by decide) ?_
  refine m_put (ci := 4) (C := RX4) (T := TX4) (n := 2) (v := .int 0) (ty := tyX4 1) hx hb hts inX4_ tyX4 tyX4_ok nmX4 hown hK hM hS rfl a (by omega) h_8 1 (by decide) (hts _ (by decide +kernel)) rfl (by decide +kernel) rfl rfl (Nat.le_of_ble_eq_true rfl) dX4_init_14 (fun H locs hM hS => ?_)
  have hM : MW D A (N + 1) adr_1 (va_up w_7 a (.inr (4, [.ref (adr_1 N), .int 0]))) H := hM
  obtain ⟨w_10, ew_10⟩ : ∃ z9_, z9_ = va_up w_7 a (.inr (4, [.ref (adr_1 N), .int 0])) := ⟨_, rfl⟩
  rw [← ew_10] at hM
  have h_11 : w_10 a = .inr (4, [.ref (adr_1 N), .int 0]) := by rw [ew_10]; exact va_up_self _ _ _
  have h_12 : w_10 N = .inl (ac 0, 8, .inl (fun _ => 0)) := by rw [ew_10, va_up_ne _ _ (by omega)]; exact h_9
  rw [hQ0]
  exact e_cv (post := fun adr2 w1 => (∀ k, k < N → adr k = adr2 k) ∧ w1 = va_up (va_up w N (.inl (ac 0, 8, .inl (fun _ => 0)))) a (.inr (4, [.ref (adr2 N), .int 0]))) hx hb hlocks hr dX4_init_17 (Nat.le_of_ble_eq_true rfl) (Nat.le_of_ble_eq_true rfl) hM hS (⟨(fun k9 hk9 => (he_2 k9 (by omega))), by first | (rw [ew_10, ew_7, ew_3]; done) | rw [ew_10, ew_7, ew_3, va_up_up]⟩)
set_option maxHeartbeats 4000000 in
set_option maxRecDepth 100000 in
/-- X1_init -/
theorem k_X1_init (l : Launch) (D : va_G) (ac : Nat → ClassId) (H : Heap) (A : Nat → Prop) (hA : ∀ q, H.size ≤ q → A q) (N : Nat) (adr : Nat → Nat) (w : Nat → va_E) (hM : MW D A N adr w H) (a : Nat) (ha : a < N) (h1 : w a = .inr (1, [.null, .int 0])) : WCv l yX1_init wsX1_init ({ frames := 1, cells := 1, slots := 60, locals := 20 }) [.ref (adr a)] D ac H A (N + 1) (fun adr2 w1 => (∀ k, k < N → adr k = adr2 k) ∧ w1 = va_up (va_up w N (.inl (ac 0, 60, .inl (fun _ => 0)))) a (.inr (1, [.ref (adr2 N), .int 0]))) 1 60 := by
  refine Met.ofW (cc := cX1_init) (maxL := 1) (ret := none) (by decide) rfl ?_
  intro p e s m args below meth c s₁ B hml hv
  obtain ⟨hargs, hsz, hK⟩ := hv
  have hx := B.exec
  have hb := B.bytes
  have hr := B.returns
  have hts := atoms_spec (ws := wsX1_init) B.pre
  have hown : s.vm.findClass RX1 = some m.cls := findClass_of_methodNamed B.named
  have hlocks := B.notSynchronized
  have hin : meth.name = "<init>" := (name_of_methodNamed B.named B.method).1
  subst hsz
  have inX1_ : ∀ w ∈ wsX10, w ∈ wsX1_init := by decide +kernel
  have hS : va_S A s.heap s.heap [] := va_S.rf
  have hl := lv_entry ([.ref (adr a)]) (n := 1) (Nat.le_of_ble_eq_true rfl)
  have hen := lg_entry_eq m [.ref (adr a)] 1
  rw [← hargs] at hen
  rw [hen]
  generalize (lg_sl ([.ref (adr a)]) ++ List.replicate (1 - (lg_sl ([.ref (adr a)])).length) Slot.unset).toArray = ls at hl ⊢
  have hl : lv_has ls 1 [(0, .ref (adr a))] := hl
  obtain ⟨Q0, hQ0⟩ : ∃ z, z = MQ below (va_Qv (cvP (fun adr2 w1 => (∀ k, k < N → adr k = adr2 k) ∧ w1 = va_up (va_up w N (.inl (ac 0, 60, .inl (fun _ => 0)))) a (.inr (1, [.ref (adr2 N), .int 0])))) (fun u t => MW D A (N + 1) u.1 u.2 t.heap) A) args s 1 60 A := ⟨_, rfl⟩
  rw [← hQ0]
  refine lv_aload_n hx hb dX1_init_0 rfl (lv_at hl 0 rfl) ?_
  refine m_objinit hx hb hown (hts _ (by decide +kernel)) (hts _ (by decide +kernel)) (hts _ (by decide +kernel)) (hl.1.trans hml.symm) dX1_init_1 (Nat.le_of_ble_eq_true rfl) (Nat.le_of_ble_eq_true rfl) ?_
  refine lv_aload_n hx hb dX1_init_4 rfl (lv_at hl 0 rfl) ?_
  refine lv_bipush (v := 60) hx hb dX1_init_5 (by decide) ?_
  refine m_newa (atype := .int) (ty := .int) (a0 := (60, .inl (fun _ => 0))) (N' := 60) hx hb (hts _ (by decide +kernel)) hK hM hS hA 0 rfl rfl (fun _ => rfl) (by decide) (by decide) (by decide) (Nat.le_of_ble_eq_true rfl) (Nat.le_of_ble_eq_true rfl) dX1_init_7 (fun adr_1 H he_2 hM hS => ?_)
  obtain ⟨w_3, ew_3⟩ : ∃ z9_, z9_ = va_up w N (.inl (ac 0, 60, .inl (fun _ => 0))) := ⟨_, rfl⟩
  have hM : MW D A (N + 1) adr_1 w_3 H := by rw [ew_3]; exact hM
  have b_4 := he_2 a (by omega)
  simp only [b_4] at hl
  try simp only [b_4]
  have h_5 : w_3 a = .inr (1, [.null, .int 0]) := by rw [ew_3, va_up_ne _ _ (by omega), h1]
  have h_6 : w_3 N = .inl (ac 0, 60, .inl (fun _ => 0)) := by rw [ew_3]; exact va_up_self _ _ _
  refine m_putF (ci := 1) (C := RX1) (T := TX1) (n := 2) (v := .ref (adr_1 N)) (ty := tyX1 0) hx hb hts inX1_ tyX1 tyX1_ok nmX1 hown hK hM hS rfl a (by omega) h_5 0 (by decide) (hts _ (by decide +kernel)) rfl hin rfl (by decide +kernel) rfl rfl (Nat.le_of_ble_eq_true rfl) dX1_init_9 (fun H locs hM hS => ?_)
  have hM : MW D A (N + 1) adr_1 (va_up w_3 a (.inr (1, [.ref (adr_1 N), .int 0]))) H := hM
  obtain ⟨w_7, ew_7⟩ : ∃ z9_, z9_ = va_up w_3 a (.inr (1, [.ref (adr_1 N), .int 0])) := ⟨_, rfl⟩
  rw [← ew_7] at hM
  have h_8 : w_7 a = .inr (1, [.ref (adr_1 N), .int 0]) := by rw [ew_7]; exact va_up_self _ _ _
  have h_9 : w_7 N = .inl (ac 0, 60, .inl (fun _ => 0)) := by rw [ew_7, va_up_ne _ _ (by omega)]; exact h_6
  refine lv_aload_n hx hb dX1_init_12 rfl (lv_at hl 0 rfl) ?_
  refine lv_iconst (v := 0) hx hb dX1_init_13 (by decide) ?_
  refine m_put (ci := 1) (C := RX1) (T := TX1) (n := 2) (v := .int 0) (ty := tyX1 1) hx hb hts inX1_ tyX1 tyX1_ok nmX1 hown hK hM hS rfl a (by omega) h_8 1 (by decide) (hts _ (by decide +kernel)) rfl (by decide +kernel) rfl rfl (Nat.le_of_ble_eq_true rfl) dX1_init_14 (fun H locs hM hS => ?_)
  have hM : MW D A (N + 1) adr_1 (va_up w_7 a (.inr (1, [.ref (adr_1 N), .int 0]))) H := hM
  obtain ⟨w_10, ew_10⟩ : ∃ z9_, z9_ = va_up w_7 a (.inr (1, [.ref (adr_1 N), .int 0])) := ⟨_, rfl⟩
  rw [← ew_10] at hM
  have h_11 : w_10 a = .inr (1, [.ref (adr_1 N), .int 0]) := by rw [ew_10]; exact va_up_self _ _ _
  have h_12 : w_10 N = .inl (ac 0, 60, .inl (fun _ => 0)) := by rw [ew_10, va_up_ne _ _ (by omega)]; exact h_9
  rw [hQ0]
  exact e_cv (post := fun adr2 w1 => (∀ k, k < N → adr k = adr2 k) ∧ w1 = va_up (va_up w N (.inl (ac 0, 60, .inl (fun _ => 0)))) a (.inr (1, [.ref (adr2 N), .int 0]))) hx hb hlocks hr dX1_init_17 (Nat.le_of_ble_eq_true rfl) (Nat.le_of_ble_eq_true rfl) hM hS (⟨(fun k9 hk9 => (he_2 k9 (by omega))), by first | (rw [ew_10, ew_7, ew_3]; done) | rw [ew_10, ew_7, ew_3, va_up_up]⟩)
set_option maxHeartbeats 4000000 in
set_option maxRecDepth 100000 in
/-- X0_init -/
theorem k_X0_init (l : Launch) (D : va_G) (ac : Nat → ClassId) (H : Heap) (A : Nat → Prop) (hA : ∀ q, H.size ≤ q → A q) (N : Nat) (adr : Nat → Nat) (w : Nat → va_E) (hM : MW D A N adr w H) (a : Nat) (ha : a < N) (h1 : w a = .inr (0, [.null])) : WCv l yX0_init wsX0_init ({ frames := 1, cells := 1, slots := 81, locals := 20 }) [.ref (adr a)] D ac H A (N + 1) (fun adr2 w1 => (∀ k, k < N → adr k = adr2 k) ∧ w1 = va_up (va_up w N (.inl (ac 0, 81, .inl (fun _ => 0)))) a (.inr (0, [.ref (adr2 N)]))) 1 81 := by
  refine Met.ofW (cc := cX0_init) (maxL := 1) (ret := none) (by decide) rfl ?_
  intro p e s m args below meth c s₁ B hml hv
  obtain ⟨hargs, hsz, hK⟩ := hv
  have hx := B.exec
  have hb := B.bytes
  have hr := B.returns
  have hts := atoms_spec (ws := wsX0_init) B.pre
  have hown : s.vm.findClass RX0 = some m.cls := findClass_of_methodNamed B.named
  have hlocks := B.notSynchronized
  have hin : meth.name = "<init>" := (name_of_methodNamed B.named B.method).1
  subst hsz
  have inX0_ : ∀ w ∈ wsX00, w ∈ wsX0_init := by decide +kernel
  have hS : va_S A s.heap s.heap [] := va_S.rf
  have hl := lv_entry ([.ref (adr a)]) (n := 1) (Nat.le_of_ble_eq_true rfl)
  have hen := lg_entry_eq m [.ref (adr a)] 1
  rw [← hargs] at hen
  rw [hen]
  generalize (lg_sl ([.ref (adr a)]) ++ List.replicate (1 - (lg_sl ([.ref (adr a)])).length) Slot.unset).toArray = ls at hl ⊢
  have hl : lv_has ls 1 [(0, .ref (adr a))] := hl
  obtain ⟨Q0, hQ0⟩ : ∃ z, z = MQ below (va_Qv (cvP (fun adr2 w1 => (∀ k, k < N → adr k = adr2 k) ∧ w1 = va_up (va_up w N (.inl (ac 0, 81, .inl (fun _ => 0)))) a (.inr (0, [.ref (adr2 N)])))) (fun u t => MW D A (N + 1) u.1 u.2 t.heap) A) args s 1 81 A := ⟨_, rfl⟩
  rw [← hQ0]
  refine lv_aload_n hx hb dX0_init_0 rfl (lv_at hl 0 rfl) ?_
  refine m_objinit hx hb hown (hts _ (by decide +kernel)) (hts _ (by decide +kernel)) (hts _ (by decide +kernel)) (hl.1.trans hml.symm) dX0_init_1 (Nat.le_of_ble_eq_true rfl) (Nat.le_of_ble_eq_true rfl) ?_
  refine lv_aload_n hx hb dX0_init_4 rfl (lv_at hl 0 rfl) ?_
  refine lv_bipush (v := 81) hx hb dX0_init_5 (by decide) ?_
  refine m_newa (atype := .int) (ty := .int) (a0 := (81, .inl (fun _ => 0))) (N' := 81) hx hb (hts _ (by decide +kernel)) hK hM hS hA 0 rfl rfl (fun _ => rfl) (by decide) (by decide) (by decide) (Nat.le_of_ble_eq_true rfl) (Nat.le_of_ble_eq_true rfl) dX0_init_7 (fun adr_1 H he_2 hM hS => ?_)
  obtain ⟨w_3, ew_3⟩ : ∃ z9_, z9_ = va_up w N (.inl (ac 0, 81, .inl (fun _ => 0))) := ⟨_, rfl⟩
  have hM : MW D A (N + 1) adr_1 w_3 H := by rw [ew_3]; exact hM
  have b_4 := he_2 a (by omega)
  simp only [b_4] at hl
  try simp only [b_4]
  have h_5 : w_3 a = .inr (0, [.null]) := by rw [ew_3, va_up_ne _ _ (by omega), h1]
  have h_6 : w_3 N = .inl (ac 0, 81, .inl (fun _ => 0)) := by rw [ew_3]; exact va_up_self _ _ _
  refine m_putF (ci := 0) (C := RX0) (T := TX0) (n := 1) (v := .ref (adr_1 N)) (ty := tyX0 0) hx hb hts inX0_ tyX0 tyX0_ok nmX0 hown hK hM hS rfl a (by omega) h_5 0 (by decide) (hts _ (by decide +kernel)) rfl hin rfl (by decide +kernel) rfl rfl (Nat.le_of_ble_eq_true rfl) dX0_init_9 (fun H locs hM hS => ?_)
  have hM : MW D A (N + 1) adr_1 (va_up w_3 a (.inr (0, [.ref (adr_1 N)]))) H := hM
  obtain ⟨w_7, ew_7⟩ : ∃ z9_, z9_ = va_up w_3 a (.inr (0, [.ref (adr_1 N)])) := ⟨_, rfl⟩
  rw [← ew_7] at hM
  have h_8 : w_7 a = .inr (0, [.ref (adr_1 N)]) := by rw [ew_7]; exact va_up_self _ _ _
  have h_9 : w_7 N = .inl (ac 0, 81, .inl (fun _ => 0)) := by rw [ew_7, va_up_ne _ _ (by omega)]; exact h_6
  rw [hQ0]
  exact e_cv (post := fun adr2 w1 => (∀ k, k < N → adr k = adr2 k) ∧ w1 = va_up (va_up w N (.inl (ac 0, 81, .inl (fun _ => 0)))) a (.inr (0, [.ref (adr2 N)]))) hx hb hlocks hr dX0_init_12 (Nat.le_of_ble_eq_true rfl) (Nat.le_of_ble_eq_true rfl) hM hS (⟨(fun k9 hk9 => (he_2 k9 (by omega))), by first | (rw [ew_7, ew_3]; done) | rw [ew_7, ew_3, va_up_up]⟩)
