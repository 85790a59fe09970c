set_option maxHeartbeats 4000000 in
set_option maxRecDepth 100000 in
/-- X3_init -/
theorem k_X3_init (l : Launch) (D : va_G) (ac : Nat → ClassId) (H : Heap) (A : Nat → Prop) (hA : ∀ q, H.size ≤ q → A q) (N : Nat) (adr : Nat → Nat) (w : Nat → va_E) (hM : MW D A N adr w H) (a : Nat) (ha : a < N) (h1 : w a = .inr (3, [.int 0, .int 0, .null, .int 0, .int 0, .int 0, .int 0])) (x b : Int32) (hbv : b = 0 ∨ b = 1) (zr : Nat) : WCv l yX3_init wsX3_init ({ frames := 1, cells := 0, slots := 0, locals := 20 }) [.ref (adr a), .int x, .int b, .ref zr] D ac H A (N) (fun adr2 w1 => (∀ k, k < N → adr k = adr2 k ∧ (¬ k = a → w1 k = w k)) ∧ w1 a = .inr (3, [.int x, .int b, .ref zr, .int (-1), .int (-1), .int 0, .int 0])) 0 0 := by
  refine Met.ofW (cc := cX3_init) (maxL := 4) (ret := none) (by decide) rfl ?_
  intro p e s m args below meth c s₁ B hml hv
  obtain ⟨hargs, hsz, hK⟩ := hv
  have hx := B.exec
  have hb := B.bytes
  have hr := B.returns
  have hts := atoms_spec (ws := wsX3_init) B.pre
  have hown : s.vm.findClass RX3 = some m.cls := findClass_of_methodNamed B.named
  have hlocks := B.notSynchronized
  have hin : meth.name = "<init>" := (name_of_methodNamed B.named B.method).1
  subst hsz
  have inX3_ : ∀ w ∈ wsX30, w ∈ wsX3_init := by decide +kernel
  have hS : va_S A s.heap s.heap [] := va_S.rf
  have hl := lv_entry ([.ref (adr a), .int x, .int b, .ref zr]) (n := 4) (Nat.le_of_ble_eq_true rfl)
  have hen := lg_entry_eq m [.ref (adr a), .int x, .int b, .ref zr] 4
  rw [← hargs] at hen
  rw [hen]
  generalize (lg_sl ([.ref (adr a), .int x, .int b, .ref zr]) ++ List.replicate (4 - (lg_sl ([.ref (adr a), .int x, .int b, .ref zr])).length) Slot.unset).toArray = ls at hl ⊢
  have hl : lv_has ls 4 [(0, .ref (adr a)), (1, .int x), (2, .int b), (3, .ref zr)] := hl
  obtain ⟨Q0, hQ0⟩ : ∃ z, z = MQ below (va_Qv (cvP (fun adr2 w1 => (∀ k, k < N → adr k = adr2 k ∧ (¬ k = a → w1 k = w k)) ∧ w1 a = .inr (3, [.int x, .int b, .ref zr, .int (-1), .int (-1), .int 0, .int 0]))) (fun u t => MW D A (N) u.1 u.2 t.heap) A) args s 0 0 A := ⟨_, rfl⟩
  rw [← hQ0]
  refine lv_aload_n hx hb dX3_init_0 rfl (lv_at hl 0 rfl) ?_
  refine m_objinit hx hb hown (hts _ (by decide +kernel)) (hts _ (by decide +kernel)) (hts _ (by decide +kernel)) (hl.1.trans hml.symm) dX3_init_1 (Nat.le_of_ble_eq_true rfl) (Nat.le_of_ble_eq_true rfl) ?_
  refine lv_aload_n hx hb dX3_init_4 rfl (lv_at hl 0 rfl) ?_
  refine lv_iconst (v := (-1)) hx hb dX3_init_5 (by decide) ?_
  refine m_put (ci := 3) (C := RX3) (T := TX3) (n := 7) (v := .int (-1)) (ty := tyX3 3) hx hb hts inX3_ tyX3 tyX3_ok nmX3 hown hK hM hS rfl a ha h1 3 (by decide) (hts _ (by decide +kernel)) rfl (by decide +kernel) rfl rfl (Nat.le_of_ble_eq_true rfl) dX3_init_6 (fun H locs hM hS => ?_)
  have hM : MW D A N adr (va_up w a (.inr (3, [.int 0, .int 0, .null, .int (-1), .int 0, .int 0, .int 0]))) H := hM
  obtain ⟨w_1, ew_1⟩ : ∃ z9_, z9_ = va_up w a (.inr (3, [.int 0, .int 0, .null, .int (-1), .int 0, .int 0, .int 0])) := ⟨_, rfl⟩
  rw [← ew_1] at hM
  have h_2 : w_1 a = .inr (3, [.int 0, .int 0, .null, .int (-1), .int 0, .int 0, .int 0]) := by rw [ew_1]; exact va_up_self _ _ _
  refine lv_aload_n hx hb dX3_init_9 rfl (lv_at hl 0 rfl) ?_
  refine lv_iconst (v := (-1)) hx hb dX3_init_10 (by decide) ?_
  refine m_put (ci := 3) (C := RX3) (T := TX3) (n := 7) (v := .int (-1)) (ty := tyX3 4) hx hb hts inX3_ tyX3 tyX3_ok nmX3 hown hK hM hS rfl a ha h_2 4 (by decide) (hts _ (by decide +kernel)) rfl (by decide +kernel) rfl rfl (Nat.le_of_ble_eq_true rfl) dX3_init_11 (fun H locs hM hS => ?_)
  have hM : MW D A N adr (va_up w_1 a (.inr (3, [.int 0, .int 0, .null, .int (-1), .int (-1), .int 0, .int 0]))) H := hM
  obtain ⟨w_3, ew_3⟩ : ∃ z9_, z9_ = va_up w_1 a (.inr (3, [.int 0, .int 0, .null, .int (-1), .int (-1), .int 0, .int 0])) := ⟨_, rfl⟩
  rw [← ew_3] at hM
  have h_4 : w_3 a = .inr (3, [.int 0, .int 0, .null, .int (-1), .int (-1), .int 0, .int 0]) := by rw [ew_3]; exact va_up_self _ _ _
  refine lv_aload_n hx hb dX3_init_14 rfl (lv_at hl 0 rfl) ?_
  refine lv_iconst (v := 0) hx hb dX3_init_15 (by decide) ?_
  refine m_put (ci := 3) (C := RX3) (T := TX3) (n := 7) (v := .int 0) (ty := tyX3 5) hx hb hts inX3_ tyX3 tyX3_ok nmX3 hown hK hM hS rfl a ha h_4 5 (by decide) (hts _ (by decide +kernel)) rfl (by decide +kernel) rfl rfl (Nat.le_of_ble_eq_true rfl) dX3_init_16 (fun H locs hM hS => ?_)
  have hM : MW D A N adr (va_up w_3 a (.inr (3, [.int 0, .int 0, .null, .int (-1), .int (-1), .int 0, .int 0]))) H := hM
  obtain ⟨w_5, ew_5⟩ : ∃ z9_, z9_ = va_up w_3 a (.inr (3, [.int 0, .int 0, .null, .int (-1), .int (-1), .int 0, .int 0])) := ⟨_, rfl⟩
  rw [← ew_5] at hM
  have h_6 : w_5 a = .inr (3, [.int 0, .int 0, .null, .int (-1), .int (-1), .int 0, .int 0]) := by rw [ew_5]; exact va_up_self _ _ _
  refine lv_aload_n hx hb dX3_init_19 rfl (lv_at hl 0 rfl) ?_
  refine lv_iconst (v := 0) hx hb dX3_init_20 (by decide) ?_
  refine m_put (ci := 3) (C := RX3) (T := TX3) (n := 7) (v := .int 0) (ty := tyX3 6) hx hb hts inX3_ tyX3 tyX3_ok nmX3 hown hK hM hS rfl a ha h_6 6 (by decide) (hts _ (by decide +kernel)) rfl (by decide +kernel) rfl rfl (Nat.le_of_ble_eq_true rfl) dX3_init_21 (fun H locs hM hS => ?_)
  have hM : MW D A N adr (va_up w_5 a (.inr (3, [.int 0, .int 0, .null, .int (-1), .int (-1), .int 0, .int 0]))) H := hM
  obtain ⟨w_7, ew_7⟩ : ∃ z9_, z9_ = va_up w_5 a (.inr (3, [.int 0, .int 0, .null, .int (-1), .int (-1), .int 0, .int 0])) := ⟨_, rfl⟩
  rw [← ew_7] at hM
  have h_8 : w_7 a = .inr (3, [.int 0, .int 0, .null, .int (-1), .int (-1), .int 0, .int 0]) := by rw [ew_7]; exact va_up_self _ _ _
  refine lv_aload_n hx hb dX3_init_24 rfl (lv_at hl 0 rfl) ?_
  refine lv_iload_n hx hb dX3_init_25 rfl (lv_at hl 1 rfl) ?_
  refine m_putF (ci := 3) (C := RX3) (T := TX3) (n := 7) (v := .int x) (ty := tyX3 0) hx hb hts inX3_ tyX3 tyX3_ok nmX3 hown hK hM hS rfl a ha h_8 0 (by decide) (hts _ (by decide +kernel)) rfl hin rfl (by decide +kernel) rfl rfl (Nat.le_of_ble_eq_true rfl) dX3_init_26 (fun H locs hM hS => ?_)
  have hM : MW D A N adr (va_up w_7 a (.inr (3, [.int x, .int 0, .null, .int (-1), .int (-1), .int 0, .int 0]))) H := hM
  obtain ⟨w_9, ew_9⟩ : ∃ z9_, z9_ = va_up w_7 a (.inr (3, [.int x, .int 0, .null, .int (-1), .int (-1), .int 0, .int 0])) := ⟨_, rfl⟩
  rw [← ew_9] at hM
  have h_10 : w_9 a = .inr (3, [.int x, .int 0, .null, .int (-1), .int (-1), .int 0, .int 0]) := by rw [ew_9]; exact va_up_self _ _ _
  refine lv_aload_n hx hb dX3_init_29 rfl (lv_at hl 0 rfl) ?_
  refine lv_iload_n hx hb dX3_init_30 rfl (lv_at hl 2 rfl) ?_
  refine m_putF (ci := 3) (C := RX3) (T := TX3) (n := 7) (v := .int b) (ty := tyX3 1) hx hb hts inX3_ tyX3 tyX3_ok nmX3 hown hK hM hS rfl a ha h_10 1 (by decide) (hts _ (by decide +kernel)) rfl hin rfl (by decide +kernel) (by rcases hbv with e9 | e9 <;> rw [e9] <;> rfl) (by rcases hbv with e9 | e9 <;> rw [e9] <;> rfl) (Nat.le_of_ble_eq_true rfl) dX3_init_31 (fun H locs hM hS => ?_)
  have hM : MW D A N adr (va_up w_9 a (.inr (3, [.int x, .int b, .null, .int (-1), .int (-1), .int 0, .int 0]))) H := hM
  obtain ⟨w_11, ew_11⟩ : ∃ z9_, z9_ = va_up w_9 a (.inr (3, [.int x, .int b, .null, .int (-1), .int (-1), .int 0, .int 0])) := ⟨_, rfl⟩
  rw [← ew_11] at hM
  have h_12 : w_11 a = .inr (3, [.int x, .int b, .null, .int (-1), .int (-1), .int 0, .int 0]) := by rw [ew_11]; exact va_up_self _ _ _
  refine lv_aload_n hx hb dX3_init_34 rfl (lv_at hl 0 rfl) ?_
  refine lv_aload_n hx hb dX3_init_35 rfl (lv_at hl 3 rfl) ?_
  refine m_putF (ci := 3) (C := RX3) (T := TX3) (n := 7) (v := .ref zr) (ty := tyX3 2) hx hb hts inX3_ tyX3 tyX3_ok nmX3 hown hK hM hS rfl a ha h_12 2 (by decide) (hts _ (by decide +kernel)) rfl hin rfl (by decide +kernel) rfl rfl (Nat.le_of_ble_eq_true rfl) dX3_init_36 (fun H locs hM hS => ?_)
  have hM : MW D A N adr (va_up w_11 a (.inr (3, [.int x, .int b, .ref zr, .int (-1), .int (-1), .int 0, .int 0]))) H := hM
  obtain ⟨w_13, ew_13⟩ : ∃ z9_, z9_ = va_up w_11 a (.inr (3, [.int x, .int b, .ref zr, .int (-1), .int (-1), .int 0, .int 0])) := ⟨_, rfl⟩
  rw [← ew_13] at hM
  have h_14 : w_13 a = .inr (3, [.int x, .int b, .ref zr, .int (-1), .int (-1), .int 0, .int 0]) := by rw [ew_13]; exact va_up_self _ _ _
  rw [hQ0]
  exact e_cv (post := fun adr2 w1 => (∀ k, k < N → adr k = adr2 k ∧ (¬ k = a → w1 k = w k)) ∧ w1 a = .inr (3, [.int x, .int b, .ref zr, .int (-1), .int (-1), .int 0, .int 0])) hx hb hlocks hr dX3_init_39 (Nat.le_of_ble_eq_true rfl) (Nat.le_of_ble_eq_true rfl) hM hS (⟨fun k9 hk9 => ⟨rfl, fun hka => by rw [ew_13, va_up_ne _ _ (by omega), ew_11, va_up_ne _ _ (by omega), ew_9, va_up_ne _ _ (by omega), ew_7, va_up_ne _ _ (by omega), ew_5, va_up_ne _ _ (by omega), ew_3, va_up_ne _ _ (by omega), ew_1, va_up_ne _ _ (by omega)]⟩, h_14⟩)
set_option maxHeartbeats 4000000 in
set_option maxRecDepth 100000 in
/-- X6_init -/
theorem k_X6_init (l : Launch) (D : va_G) (ac : Nat → ClassId) (H : Heap) (A : Nat → Prop) (hA : ∀ q, H.size ≤ q → A q) (N : Nat) (adr : Nat → Nat) (w : Nat → va_E) (hM : MW D A N adr w H) (a : Nat) (ha : a < N) (h1 : w a = .inr (6, [.int 0, .null, .null])) (cl d v n : Nat) (dw : Nat → Nat) (hd : d < N) (hv : v < N) (hne : a ≠ d ∧ a ≠ v ∧ d ≠ v) (hn : n ≤ 8) (h2 : w d = .inr (4, [.ref (adr v), .int (nI n)])) (h3 : w v = .inl (ac 0, 8, .inl (fun j => nI (dw j)))) : WCv l yX6_init wsX6_init ({ frames := 2, cells := 4, slots := 20, locals := 40 }) [.ref (adr a), .int (nI cl), .ref (adr d)] D ac H A (N + 4) (fun adr2 w1 => (∀ k, k < N → adr k = adr2 k ∧ (¬ k = a → w1 k = w k)) ∧ w1 a = .inr (6, [.int (nI cl), .ref (adr2 N), .ref (adr2 (N + 2))]) ∧ w1 N = .inr (4, [.ref (adr2 (N + 1)), .int (nI n)]) ∧ w1 (N + 1) = .inl (ac 0, 8, .inl (fun j => nI (mixN n dw j))) ∧ w1 (N + 2) = .inr (4, [.ref (adr2 (N + 3)), .int (nI n)]) ∧ w1 (N + 3) = .inl (ac 0, 8, .inl (mixF n (fun _ => -1) (fun _ => 0)))) 4 20 := by
  refine Met.ofW (cc := cX6_init) (maxL := 4) (ret := none) (by decide) rfl ?_
  intro p e s m args below meth c s₁ B hml hv
  obtain ⟨hargs, hsz, hK⟩ := hv
  have hx := B.exec
  have hb := B.bytes
  have hr := B.returns
  have hts := atoms_spec (ws := wsX6_init) B.pre
  have hown : s.vm.findClass RX6 = some m.cls := findClass_of_methodNamed B.named
  have hlocks := B.notSynchronized
  have hin : meth.name = "<init>" := (name_of_methodNamed B.named B.method).1
  subst hsz
  have inX4_ : ∀ w ∈ wsX40, w ∈ wsX6_init := by decide +kernel
  have inX6_ : ∀ w ∈ wsX60, w ∈ wsX6_init := by decide +kernel
  have hS : va_S A s.heap s.heap [] := va_S.rf
  have hl := lv_entry ([.ref (adr a), .int (nI cl), .ref (adr d)]) (n := 4) (Nat.le_of_ble_eq_true rfl)
  have hen := lg_entry_eq m [.ref (adr a), .int (nI cl), .ref (adr d)] 4
  rw [← hargs] at hen
  rw [hen]
  generalize (lg_sl ([.ref (adr a), .int (nI cl), .ref (adr d)]) ++ List.replicate (4 - (lg_sl ([.ref (adr a), .int (nI cl), .ref (adr d)])).length) Slot.unset).toArray = ls at hl ⊢
  have hl : lv_has ls 4 [(0, .ref (adr a)), (1, .int (nI cl)), (2, .ref (adr d))] := hl
  obtain ⟨Q0, hQ0⟩ : ∃ z, z = MQ below (va_Qv (cvP (fun adr2 w1 => (∀ k, k < N → adr k = adr2 k ∧ (¬ k = a → w1 k = w k)) ∧ w1 a = .inr (6, [.int (nI cl), .ref (adr2 N), .ref (adr2 (N + 2))]) ∧ w1 N = .inr (4, [.ref (adr2 (N + 1)), .int (nI n)]) ∧ w1 (N + 1) = .inl (ac 0, 8, .inl (fun j => nI (mixN n dw j))) ∧ w1 (N + 2) = .inr (4, [.ref (adr2 (N + 3)), .int (nI n)]) ∧ w1 (N + 3) = .inl (ac 0, 8, .inl (mixF n (fun _ => -1) (fun _ => 0))))) (fun u t => MW D A (N + 4) u.1 u.2 t.heap) A) args s 4 20 A := ⟨_, rfl⟩
  rw [← hQ0]
  refine lv_aload_n hx hb dX6_init_0 rfl (lv_at hl 0 rfl) ?_
  refine m_objinit hx hb hown (hts _ (by decide +kernel)) (hts _ (by decide +kernel)) (hts _ (by decide +kernel)) (hl.1.trans hml.symm) dX6_init_1 (Nat.le_of_ble_eq_true rfl) (Nat.le_of_ble_eq_true rfl) ?_
  refine lv_aload_n hx hb dX6_init_4 rfl (lv_at hl 0 rfl) ?_
  refine m_new (ci := 4) (fs := [.null, .int 0]) (C := RX4) (T := TX4) (n := 2) hx hb hts inX4_ tyX4 tyX4_ok hown (hts _ (by decide +kernel)) (hts _ (by decide +kernel)) (hts _ (by decide +kernel)) hK hM hS hA rfl (by intro j hj; have : j = 0 ∨ j = 1 := (by omega); rcases this with rfl | rfl <;> rfl) (Nat.le_of_ble_eq_true rfl) (Nat.le_of_ble_eq_true rfl) dX6_init_5 (fun adr_1 H he_2 hM hS => ?_)
  obtain ⟨w_3, ew_3⟩ : ∃ z9_, z9_ = va_up w N (.inr (4, [.null, .int 0])) := ⟨_, rfl⟩
  have hM : MW D A (N + 1) adr_1 w_3 H := by rw [ew_3]; exact hM
  have b_4 := he_2 a (by omega)
  have b_5 := he_2 d (by omega)
  have b_6 := he_2 v (by omega)
  simp only [b_4, b_5, b_6] at hl
  try simp only [b_4, b_5, b_6]
  have h_7 : w_3 a = .inr (6, [.int 0, .null, .null]) := by rw [ew_3, va_up_ne _ _ (by omega), h1]
  have h_8 : w_3 d = .inr (4, [.ref (adr_1 v), .int (nI n)]) := by rw [ew_3, va_up_ne _ _ (by omega), h2] <;> simp only [b_4, b_5, b_6]
  have h_9 : w_3 v = .inl (ac 0, 8, .inl (fun j => nI (dw j))) := by rw [ew_3, va_up_ne _ _ (by omega), h3]
  have h_10 : w_3 N = .inr (4, [.null, .int 0]) := by rw [ew_3]; exact va_up_self _ _ _
  refine lv_dup hx hb dX6_init_8 rfl ?_
  refine c_callv (va_runIN (mc := 1) (ms := 8) (As := []) (rest := [.ref (adr_1 N), .ref (adr_1 a)]) ⟨hx, hb, hml, hown, hts⟩ (k_X4_init l D ac _ A (fun q hq => hA q (Nat.le_trans hS.1 hq)) ((N + 1)) adr_1 w_3 hM N (by omega) h_10) ⟨va_cnB (host := RX7) (rm := { frames := 1, cells := 1, slots := 8, locals := 20 }) 0 hts gX6_init_X4_init_n11 rfl rfl rfl (hK.nest 14 rfl) (hts _ (by decide +kernel)) (by decide +kernel) ⟨(Nat.le_of_ble_eq_true rfl), (Nat.le_of_ble_eq_true rfl)⟩, rfl, hts _ (by decide +kernel)⟩ (pS hK) rfl rfl hl.1 rfl (lv_room (Nat.le_of_ble_eq_true rfl)) dX6_init_9 ⟨(Nat.le_of_ble_eq_true rfl), (Nat.le_of_ble_eq_true rfl)⟩) hS (fun adr_11 w_13 H locs hw_13 hM hS => ?_)
  obtain ⟨he_12, hw_13⟩ := hw_13
  have hM : MW D A (N + 2) adr_11 w_13 H := hM
  have b_14 := he_12 a (by omega)
  have b_15 := he_12 d (by omega)
  have b_16 := he_12 v (by omega)
  have b_17 := he_12 N (by omega)
  simp only [b_14, b_15, b_16, b_17] at hl
  try simp only [b_14, b_15, b_16, b_17]
  have h_18 : w_13 a = .inr (6, [.int 0, .null, .null]) := by rw [hw_13, va_up_ne _ _ (by omega), va_up_ne _ _ (by omega), h_7]
  have h_19 : w_13 d = .inr (4, [.ref (adr_11 v), .int (nI n)]) := by rw [hw_13, va_up_ne _ _ (by omega), va_up_ne _ _ (by omega), h_8] <;> simp only [b_14, b_15, b_16, b_17]
  have h_20 : w_13 v = .inl (ac 0, 8, .inl (fun j => nI (dw j))) := by rw [hw_13, va_up_ne _ _ (by omega), va_up_ne _ _ (by omega), h_9]
  have h_21 : w_13 (N + 1) = .inl (ac 0, 8, .inl (fun _ => 0)) := by rw [hw_13, va_up_ne _ _ (by omega)]; exact va_up_self _ _ _
  have h_22 : w_13 N = .inr (4, [.ref (adr_11 (N + 1)), .int 0]) := by rw [hw_13]; exact va_up_self _ _ _
  refine m_putF (ci := 6) (C := RX6) (T := TX6) (n := 3) (v := .ref (adr_11 N)) (ty := tyX6 1) hx hb hts inX6_ tyX6 tyX6_ok nmX6 hown hK hM hS rfl a (by omega) h_18 1 (by decide) (hts _ (by decide +kernel)) rfl hin rfl (by decide +kernel) rfl rfl (Nat.le_of_ble_eq_true rfl) dX6_init_12 (fun H locs hM hS => ?_)
  have hM : MW D A (N + 2) adr_11 (va_up w_13 a (.inr (6, [.int 0, .ref (adr_11 N), .null]))) H := hM
  obtain ⟨w_23, ew_23⟩ : ∃ z9_, z9_ = va_up w_13 a (.inr (6, [.int 0, .ref (adr_11 N), .null])) := ⟨_, rfl⟩
  rw [← ew_23] at hM
  have h_24 : w_23 a = .inr (6, [.int 0, .ref (adr_11 N), .null]) := by rw [ew_23]; exact va_up_self _ _ _
  have h_25 : w_23 d = .inr (4, [.ref (adr_11 v), .int (nI n)]) := by rw [ew_23, va_up_ne _ _ (by omega)]; exact h_19
  have h_26 : w_23 v = .inl (ac 0, 8, .inl (fun j => nI (dw j))) := by rw [ew_23, va_up_ne _ _ (by omega)]; exact h_20
  have h_27 : w_23 (N + 1) = .inl (ac 0, 8, .inl (fun _ => 0)) := by rw [ew_23, va_up_ne _ _ (by omega)]; exact h_21
  have h_28 : w_23 N = .inr (4, [.ref (adr_11 (N + 1)), .int 0]) := by rw [ew_23, va_up_ne _ _ (by omega)]; exact h_22
  refine lv_aload_n hx hb dX6_init_15 rfl (lv_at hl 0 rfl) ?_
  refine m_new (ci := 4) (fs := [.null, .int 0]) (C := RX4) (T := TX4) (n := 2) hx hb hts inX4_ tyX4 tyX4_ok hown (hts _ (by decide +kernel)) (hts _ (by decide +kernel)) (hts _ (by decide +kernel)) hK hM hS hA rfl (by intro j hj; have : j = 0 ∨ j = 1 := (by omega); rcases this with rfl | rfl <;> rfl) (Nat.le_of_ble_eq_true rfl) (Nat.le_of_ble_eq_true rfl) dX6_init_16 (fun adr_29 H he_30 hM hS => ?_)
  obtain ⟨w_31, ew_31⟩ : ∃ z9_, z9_ = va_up w_23 (N + 2) (.inr (4, [.null, .int 0])) := ⟨_, rfl⟩
  have hM : MW D A (N + 3) adr_29 w_31 H := by rw [ew_31]; exact hM
  have b_32 := he_30 a (by omega)
  have b_33 := he_30 d (by omega)
  have b_34 := he_30 v (by omega)
  have b_35 := he_30 (N + 1) (by omega)
  have b_36 := he_30 N (by omega)
  simp only [b_32, b_33, b_34, b_35, b_36] at hl
  try simp only [b_32, b_33, b_34, b_35, b_36]
  have h_37 : w_31 a = .inr (6, [.int 0, .ref (adr_29 N), .null]) := by rw [ew_31, va_up_ne _ _ (by omega), h_24] <;> simp only [b_32, b_33, b_34, b_35, b_36]
  have h_38 : w_31 d = .inr (4, [.ref (adr_29 v), .int (nI n)]) := by rw [ew_31, va_up_ne _ _ (by omega), h_25] <;> simp only [b_32, b_33, b_34, b_35, b_36]
  have h_39 : w_31 v = .inl (ac 0, 8, .inl (fun j => nI (dw j))) := by rw [ew_31, va_up_ne _ _ (by omega), h_26]
  have h_40 : w_31 (N + 1) = .inl (ac 0, 8, .inl (fun _ => 0)) := by rw [ew_31, va_up_ne _ _ (by omega), h_27]
  have h_41 : w_31 N = .inr (4, [.ref (adr_29 (N + 1)), .int 0]) := by rw [ew_31, va_up_ne _ _ (by omega), h_28] <;> simp only [b_32, b_33, b_34, b_35, b_36]
  have h_42 : w_31 (N + 2) = .inr (4, [.null, .int 0]) := by rw [ew_31]; exact va_up_self _ _ _
  refine lv_dup hx hb dX6_init_19 rfl ?_
  refine c_callv (va_runIN (mc := 1) (ms := 8) (As := []) (rest := [.ref (adr_29 (N + 2)), .ref (adr_29 a)]) ⟨hx, hb, hml, hown, hts⟩ (k_X4_init l D ac _ A (fun q hq => hA q (Nat.le_trans hS.1 hq)) ((N + 3)) adr_29 w_31 hM (N + 2) (by omega) h_42) ⟨va_cnB (host := RX7) (rm := { frames := 1, cells := 1, slots := 8, locals := 20 }) 0 hts gX6_init_X4_init_n11 rfl rfl rfl (hK.nest 14 rfl) (hts _ (by decide +kernel)) (by decide +kernel) ⟨(Nat.le_of_ble_eq_true rfl), (Nat.le_of_ble_eq_true rfl)⟩, rfl, hts _ (by decide +kernel)⟩ (pS hK) rfl rfl hl.1 rfl (lv_room (Nat.le_of_ble_eq_true rfl)) dX6_init_20 ⟨(Nat.le_of_ble_eq_true rfl), (Nat.le_of_ble_eq_true rfl)⟩) hS (fun adr_43 w_45 H locs hw_45 hM hS => ?_)
  obtain ⟨he_44, hw_45⟩ := hw_45
  have hM : MW D A (N + 4) adr_43 w_45 H := hM
  have b_46 := he_44 a (by omega)
  have b_47 := he_44 d (by omega)
  have b_48 := he_44 v (by omega)
  have b_49 := he_44 (N + 1) (by omega)
  have b_50 := he_44 N (by omega)
  have b_51 := he_44 (N + 2) (by omega)
  simp only [b_46, b_47, b_48, b_49, b_50, b_51] at hl
  try simp only [b_46, b_47, b_48, b_49, b_50, b_51]
  have h_52 : w_45 a = .inr (6, [.int 0, .ref (adr_43 N), .null]) := by rw [hw_45, va_up_ne _ _ (by omega), va_up_ne _ _ (by omega), h_37] <;> simp only [b_46, b_47, b_48, b_49, b_50, b_51]
  have h_53 : w_45 d = .inr (4, [.ref (adr_43 v), .int (nI n)]) := by rw [hw_45, va_up_ne _ _ (by omega), va_up_ne _ _ (by omega), h_38] <;> simp only [b_46, b_47, b_48, b_49, b_50, b_51]
  have h_54 : w_45 v = .inl (ac 0, 8, .inl (fun j => nI (dw j))) := by rw [hw_45, va_up_ne _ _ (by omega), va_up_ne _ _ (by omega), h_39]
  have h_55 : w_45 (N + 1) = .inl (ac 0, 8, .inl (fun _ => 0)) := by rw [hw_45, va_up_ne _ _ (by omega), va_up_ne _ _ (by omega), h_40]
  have h_56 : w_45 N = .inr (4, [.ref (adr_43 (N + 1)), .int 0]) := by rw [hw_45, va_up_ne _ _ (by omega), va_up_ne _ _ (by omega), h_41] <;> simp only [b_46, b_47, b_48, b_49, b_50, b_51]
  have h_57 : w_45 (N + 3) = .inl (ac 0, 8, .inl (fun _ => 0)) := by rw [hw_45, va_up_ne _ _ (by omega)]; exact va_up_self _ _ _
  have h_58 : w_45 (N + 2) = .inr (4, [.ref (adr_43 (N + 3)), .int 0]) := by rw [hw_45]; exact va_up_self _ _ _
  refine m_putF (ci := 6) (C := RX6) (T := TX6) (n := 3) (v := .ref (adr_43 (N + 2))) (ty := tyX6 2) hx hb hts inX6_ tyX6 tyX6_ok nmX6 hown hK hM hS rfl a (by omega) h_52 2 (by decide) (hts _ (by decide +kernel)) rfl hin rfl (by decide +kernel) rfl rfl (Nat.le_of_ble_eq_true rfl) dX6_init_23 (fun H locs hM hS => ?_)
  have hM : MW D A (N + 4) adr_43 (va_up w_45 a (.inr (6, [.int 0, .ref (adr_43 N), .ref (adr_43 (N + 2))]))) H := hM
  obtain ⟨w_59, ew_59⟩ : ∃ z9_, z9_ = va_up w_45 a (.inr (6, [.int 0, .ref (adr_43 N), .ref (adr_43 (N + 2))])) := ⟨_, rfl⟩
  rw [← ew_59] at hM
  have h_60 : w_59 a = .inr (6, [.int 0, .ref (adr_43 N), .ref (adr_43 (N + 2))]) := by rw [ew_59]; exact va_up_self _ _ _
  have h_61 : w_59 d = .inr (4, [.ref (adr_43 v), .int (nI n)]) := by rw [ew_59, va_up_ne _ _ (by omega)]; exact h_53
  have h_62 : w_59 v = .inl (ac 0, 8, .inl (fun j => nI (dw j))) := by rw [ew_59, va_up_ne _ _ (by omega)]; exact h_54
  have h_63 : w_59 (N + 1) = .inl (ac 0, 8, .inl (fun _ => 0)) := by rw [ew_59, va_up_ne _ _ (by omega)]; exact h_55
  have h_64 : w_59 N = .inr (4, [.ref (adr_43 (N + 1)), .int 0]) := by rw [ew_59, va_up_ne _ _ (by omega)]; exact h_56
  have h_65 : w_59 (N + 3) = .inl (ac 0, 8, .inl (fun _ => 0)) := by rw [ew_59, va_up_ne _ _ (by omega)]; exact h_57
  have h_66 : w_59 (N + 2) = .inr (4, [.ref (adr_43 (N + 3)), .int 0]) := by rw [ew_59, va_up_ne _ _ (by omega)]; exact h_58
  refine lv_aload_n hx hb dX6_init_26 rfl (lv_at hl 0 rfl) ?_
  refine lv_iload_n hx hb dX6_init_27 rfl (lv_at hl 1 rfl) ?_
  refine m_putF (ci := 6) (C := RX6) (T := TX6) (n := 3) (v := .int (nI cl)) (ty := tyX6 0) hx hb hts inX6_ tyX6 tyX6_ok nmX6 hown hK hM hS rfl a (by omega) h_60 0 (by decide) (hts _ (by decide +kernel)) rfl hin rfl (by decide +kernel) rfl rfl (Nat.le_of_ble_eq_true rfl) dX6_init_28 (fun H locs hM hS => ?_)
  have hM : MW D A (N + 4) adr_43 (va_up w_59 a (.inr (6, [.int (nI cl), .ref (adr_43 N), .ref (adr_43 (N + 2))]))) H := hM
  obtain ⟨w_67, ew_67⟩ : ∃ z9_, z9_ = va_up w_59 a (.inr (6, [.int (nI cl), .ref (adr_43 N), .ref (adr_43 (N + 2))])) := ⟨_, rfl⟩
  rw [← ew_67] at hM
  have h_68 : w_67 a = .inr (6, [.int (nI cl), .ref (adr_43 N), .ref (adr_43 (N + 2))]) := by rw [ew_67]; exact va_up_self _ _ _
  have h_69 : w_67 d = .inr (4, [.ref (adr_43 v), .int (nI n)]) := by rw [ew_67, va_up_ne _ _ (by omega)]; exact h_61
  have h_70 : w_67 v = .inl (ac 0, 8, .inl (fun j => nI (dw j))) := by rw [ew_67, va_up_ne _ _ (by omega)]; exact h_62
  have h_71 : w_67 (N + 1) = .inl (ac 0, 8, .inl (fun _ => 0)) := by rw [ew_67, va_up_ne _ _ (by omega)]; exact h_63
  have h_72 : w_67 N = .inr (4, [.ref (adr_43 (N + 1)), .int 0]) := by rw [ew_67, va_up_ne _ _ (by omega)]; exact h_64
  have h_73 : w_67 (N + 3) = .inl (ac 0, 8, .inl (fun _ => 0)) := by rw [ew_67, va_up_ne _ _ (by omega)]; exact h_65
  have h_74 : w_67 (N + 2) = .inr (4, [.ref (adr_43 (N + 3)), .int 0]) := by rw [ew_67, va_up_ne _ _ (by omega)]; exact h_66
  refine lv_iconst (v := 0) hx hb dX6_init_31 (by decide) ?_
  refine lv_istore_n (lv' := [(3, .int 0), (0, .ref (adr_43 a)), (1, .int (nI cl)), (2, .ref (adr_43 d))]) hx hb dX6_init_32 rfl hl (by decide) rfl (fun ls hl => ?_)
  have L33 : ∀ (k9 : Nat) (i : Nat) (hk : n - i < k9) (hi : i ≤ n) (wz : Nat → va_E) (z0wz : wz a = .inr (6, [.int (nI cl), .ref (adr_43 N), .ref (adr_43 (N + 2))])) (z1wz : wz d = .inr (4, [.ref (adr_43 v), .int (nI n)])) (z2wz : wz v = .inl (ac 0, 8, .inl (fun j => nI (dw j)))) (z3wz : wz (N + 1) = .inl (ac 0, 8, .inl (fun j => nI (mixN i dw j)))) (z4wz : wz N = .inr (4, [.ref (adr_43 (N + 1)), .int (nI i)])) (z5wz : wz (N + 3) = .inl (ac 0, 8, .inl (mixF i (fun _ => -1) (fun _ => 0)))) (z6wz : wz (N + 2) = .inr (4, [.ref (adr_43 (N + 3)), .int (nI i)])) (zrwz : ∀ q, q < N → ¬ q = a → wz q = w q) (H : Heap) (locs : List Loc) (hM : MW D A (N + 4) adr_43 wz H) (hS : va_S A s.heap H locs) (ls : Array Slot) (hl : lv_has ls 4 [(0, .ref (adr_43 a)), (1, .int (nI cl)), (2, .ref (adr_43 d)), (3, .int (nI i))]), W p l e (headSpec wsX6_init ({ frames := 2, cells := 4, slots := 20, locals := 40 })).room s m args below meth c H locs 4 20 Q0 (F0 m 33 ls []) := by
    intro k9
    induction k9 with
    | zero => intro i hk hi wz z0wz z1wz z2wz z3wz z4wz z5wz z6wz zrwz H locs hM hS ls hl; exact absurd hk (Nat.not_lt_zero _)
    | succ k9 ih33 =>
      intro i hk hi wz z0wz z1wz z2wz z3wz z4wz z5wz z6wz zrwz H locs hM hS ls hl
      refine lv_iload_n hx hb dX6_init_33 rfl (lv_at hl 3 rfl) ?_
      refine lv_aload_n hx hb dX6_init_34 rfl (lv_at hl 2 rfl) ?_
      refine m_getN (host := RX7) (ci := 4) (C := RX4) (T := TX4) (n := 2) (v := .int (nI n)) hx hb hts inX4_ hown hK rfl (hM.cel (by omega) z1wz) 1 (by decide) 1 rfl rfl dX6_init_35 ?_
      refine lv_icmp_ge (tgt := 67) hx hb dX6_init_38 (by decide) (fun c38 => ?_) (fun c38 => ?_)
      · have hin : i = n := by have := le_le (b := i) c38 (by omega) (by omega); omega
        rw [hQ0]
        exact e_cv (post := fun adr2 w1 => (∀ k, k < N → adr k = adr2 k ∧ (¬ k = a → w1 k = w k)) ∧ w1 a = .inr (6, [.int (nI cl), .ref (adr2 N), .ref (adr2 (N + 2))]) ∧ w1 N = .inr (4, [.ref (adr2 (N + 1)), .int (nI n)]) ∧ w1 (N + 1) = .inl (ac 0, 8, .inl (fun j => nI (mixN n dw j))) ∧ w1 (N + 2) = .inr (4, [.ref (adr2 (N + 3)), .int (nI n)]) ∧ w1 (N + 3) = .inl (ac 0, 8, .inl (mixF n (fun _ => -1) (fun _ => 0)))) hx hb hlocks hr dX6_init_67 (Nat.le_of_ble_eq_true rfl) (Nat.le_of_ble_eq_true rfl) hM hS (⟨fun k9 hk9 => ⟨((he_2 k9 (by omega)).trans ((he_12 k9 (by omega)).trans ((he_30 k9 (by omega)).trans (he_44 k9 (by omega))))), fun hka => by exact zrwz k9 (by omega) (by omega)⟩, (by first | exact z0wz | (rw [← hin]; exact z0wz)), (by first | exact z4wz | (rw [← hin]; exact z4wz)), (by first | exact z3wz | (rw [← hin]; exact z3wz)), (by first | exact z6wz | (rw [← hin]; exact z6wz)), (by first | exact z5wz | (rw [← hin]; exact z5wz))⟩)
      · have hin : i < n := nle_lt c38 (by omega) (by omega)
        refine lv_aload_n hx hb dX6_init_41 rfl (lv_at hl 0 rfl) ?_
        refine m_get (ci := 6) (C := RX6) (T := TX6) (n := 3) (v := .ref (adr_43 N)) hx hb hts inX6_ hown hK rfl (hM.cel (by omega) z0wz) 1 (by decide) (hts _ (by decide +kernel)) rfl dX6_init_42 ?_
        refine lv_aload_n hx hb dX6_init_45 rfl (lv_at hl 2 rfl) ?_
        refine lv_iload_n hx hb dX6_init_46 rfl (lv_at hl 3 rfl) ?_
        refine r_calli (va_runV (As := [.int (nI i)]) (rest := [.ref (adr_43 N)]) ⟨hx, hb, hml, hown, hts⟩ (k_X4_at l D ac _ (adr_43 d) (adr_43 v) n (fun j => nI (dw j)) (hM.cel (by omega) z1wz) (hM.cel (by omega) z2wz) (by omega) (nI i)) (cwV 1 hts gX6_init_X4_at rfl rfl rfl (by decide +kernel) ⟨Nat.le_of_ble_eq_true rfl, Nat.le_of_ble_eq_true rfl⟩) (pV hK (ci := 4) rfl (hM.cel (by omega) z1wz)) rfl rfl hl.1 rfl (lv_room (Nat.le_of_ble_eq_true rfl)) dX6_init_47 ⟨Nat.le_of_ble_eq_true rfl, Nat.le_of_ble_eq_true rfl⟩) hS (fun rv_75 locs hrv_75 hS => ?_)
        subst hrv_75
        refine m_top (show ((ix (nI i) n).elim (-1) (fun j => nI (dw j))) = nI (dw i) from by rw [ix_nI hin (by omega)]; rfl) ?_
        refine w_callv (va_runV (As := [.int (nI (dw i))]) (rest := []) ⟨hx, hb, hml, hown, hts⟩ (k_X4_append l D ac _ A (N + 4) adr_43 wz hM N (N + 1) i (fun j => nI (mixN i dw j)) (by omega) (by omega) (by omega) z4wz z3wz (by omega) (nI (dw i))) (cwV 1 hts gX6_init_X4_append rfl rfl rfl (by decide +kernel) ⟨Nat.le_of_ble_eq_true rfl, Nat.le_of_ble_eq_true rfl⟩) (pV hK (ci := 4) rfl (hM.cel (by omega) z4wz)) rfl rfl hl.1 rfl (lv_room (Nat.le_of_ble_eq_true rfl)) dX6_init_50 ⟨Nat.le_of_ble_eq_true rfl, Nat.le_of_ble_eq_true rfl⟩) hS (fun w_77 H locs hw_77 hM hS => ?_)
        have ef_ : upd (fun j => nI (mixN i dw j)) i (nI (dw i)) = fun j => nI (mixN (i + 1) dw j) := mixN_s
        rw [ef_] at hw_77
        clear ef_
        have h_78 : w_77 a = .inr (6, [.int (nI cl), .ref (adr_43 N), .ref (adr_43 (N + 2))]) := by rw [hw_77, va_up_ne _ _ (by omega), va_up_ne _ _ (by omega)]; exact z0wz
        have h_79 : w_77 d = .inr (4, [.ref (adr_43 v), .int (nI n)]) := by rw [hw_77, va_up_ne _ _ (by omega), va_up_ne _ _ (by omega)]; exact z1wz
        have h_80 : w_77 v = .inl (ac 0, 8, .inl (fun j => nI (dw j))) := by rw [hw_77, va_up_ne _ _ (by omega), va_up_ne _ _ (by omega)]; exact z2wz
        have h_81 : w_77 (N + 1) = .inl (ac 0, 8, .inl (fun j => nI (mixN (i + 1) dw j))) := by rw [hw_77, va_up_ne _ _ (by omega)]; exact va_up_self _ _ _
        have h_82 : w_77 N = .inr (4, [.ref (adr_43 (N + 1)), .int (nI (i + 1))]) := by rw [hw_77]; exact va_up_self _ _ _
        have h_83 : w_77 (N + 3) = .inl (ac 0, 8, .inl (mixF i (fun _ => -1) (fun _ => 0))) := by rw [hw_77, va_up_ne _ _ (by omega), va_up_ne _ _ (by omega)]; exact z5wz
        have h_84 : w_77 (N + 2) = .inr (4, [.ref (adr_43 (N + 3)), .int (nI i)]) := by rw [hw_77, va_up_ne _ _ (by omega), va_up_ne _ _ (by omega)]; exact z6wz
        refine lv_aload_n hx hb dX6_init_53 rfl (lv_at hl 0 rfl) ?_
        refine m_get (ci := 6) (C := RX6) (T := TX6) (n := 3) (v := .ref (adr_43 (N + 2))) hx hb hts inX6_ hown hK rfl (hM.cel (by omega) h_78) 2 (by decide) (hts _ (by decide +kernel)) rfl dX6_init_54 ?_
        refine lv_iconst (v := (-1)) hx hb dX6_init_57 (by decide) ?_
        refine w_callv (va_runV (As := [.int (-1)]) (rest := []) ⟨hx, hb, hml, hown, hts⟩ (k_X4_append l D ac _ A (N + 4) adr_43 w_77 hM (N + 2) (N + 3) i (mixF i (fun _ => -1) (fun _ => 0)) (by omega) (by omega) (by omega) h_84 h_83 (by omega) (-1)) (cwV 1 hts gX6_init_X4_append rfl rfl rfl (by decide +kernel) ⟨Nat.le_of_ble_eq_true rfl, Nat.le_of_ble_eq_true rfl⟩) (pV hK (ci := 4) rfl (hM.cel (by omega) h_84)) rfl rfl hl.1 rfl (lv_room (Nat.le_of_ble_eq_true rfl)) dX6_init_58 ⟨Nat.le_of_ble_eq_true rfl, Nat.le_of_ble_eq_true rfl⟩) hS (fun w_86 H locs hw_86 hM hS => ?_)
        have ef_ : upd (mixF i (fun _ => -1) (fun _ => 0)) i (-1) = mixF (i + 1) (fun _ => -1) (fun _ => 0) := mixF_s
        rw [ef_] at hw_86
        clear ef_
        have h_87 : w_86 a = .inr (6, [.int (nI cl), .ref (adr_43 N), .ref (adr_43 (N + 2))]) := by rw [hw_86, va_up_ne _ _ (by omega), va_up_ne _ _ (by omega)]; exact h_78
        have h_88 : w_86 d = .inr (4, [.ref (adr_43 v), .int (nI n)]) := by rw [hw_86, va_up_ne _ _ (by omega), va_up_ne _ _ (by omega)]; exact h_79
        have h_89 : w_86 v = .inl (ac 0, 8, .inl (fun j => nI (dw j))) := by rw [hw_86, va_up_ne _ _ (by omega), va_up_ne _ _ (by omega)]; exact h_80
        have h_90 : w_86 (N + 1) = .inl (ac 0, 8, .inl (fun j => nI (mixN (i + 1) dw j))) := by rw [hw_86, va_up_ne _ _ (by omega), va_up_ne _ _ (by omega)]; exact h_81
        have h_91 : w_86 N = .inr (4, [.ref (adr_43 (N + 1)), .int (nI (i + 1))]) := by rw [hw_86, va_up_ne _ _ (by omega), va_up_ne _ _ (by omega)]; exact h_82
        have h_92 : w_86 (N + 3) = .inl (ac 0, 8, .inl (mixF (i + 1) (fun _ => -1) (fun _ => 0))) := by rw [hw_86, va_up_ne _ _ (by omega)]; exact va_up_self _ _ _
        have h_93 : w_86 (N + 2) = .inr (4, [.ref (adr_43 (N + 3)), .int (nI (i + 1))]) := by rw [hw_86]; exact va_up_self _ _ _
        refine lv_iinc (v := nI (i + 1)) (lv' := [(3, .int (nI (i + 1))), (0, .ref (adr_43 a)), (1, .int (nI cl)), (2, .ref (adr_43 d))]) hx hb dX6_init_61 hl (k := 3) rfl (nI_1 _) (by decide) rfl (fun ls hl => ?_)
        refine lv_goto (tgt := 33) hx hb dX6_init_64 (by decide) ?_
        exact ih33 (i + 1) (by omega) (by omega) w_86 h_87 h_88 h_89 h_90 h_91 h_92 h_93 (fun q q1 q2 => by rw [hw_86, va_up_ne _ _ (by omega), va_up_ne _ _ (by omega), hw_77, va_up_ne _ _ (by omega), va_up_ne _ _ (by omega)]; exact zrwz q (by omega) (by omega)) _ _ hM hS ls (lv_sub hl [1, 2, 3, 0] rfl)
  exact L33 _ 0 (Nat.lt_succ_self _) (Nat.zero_le _) w_67 h_68 h_69 h_70 (by rw [mixN_0]; exact h_71) h_72 (by rw [mixF_0]; exact h_73) h_74 (fun q q1 q2 => by rw [ew_67, va_up_ne _ _ (by omega), ew_59, va_up_ne _ _ (by omega), hw_45, va_up_ne _ _ (by omega), va_up_ne _ _ (by omega), ew_31, va_up_ne _ _ (by omega), ew_23, va_up_ne _ _ (by omega), hw_13, va_up_ne _ _ (by omega), va_up_ne _ _ (by omega), ew_3, va_up_ne _ _ (by omega)]) _ _ hM hS ls (lv_sub hl [1, 2, 3, 0] rfl)
