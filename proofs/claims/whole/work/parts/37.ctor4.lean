theorem sref_0 {adr : Nat → Nat} {so : Nat → Nat} : sref adr 0 so = fun _ => none := by
  funext i
  unfold sref
  rw [if_neg (Nat.not_lt_zero _)]
theorem oref_0 {adr : Nat → Nat} : oref adr 0 = fun _ => none := by
  funext i
  unfold oref
  rw [if_neg (Nat.not_lt_zero _)]
theorem HIn.zero {so du rq oq : Nat → Nat} {rb st : Nat → Int32} : HIn 0 so 0 du 0 rq 0 oq 0 rb st (fun _ => none) :=
  ⟨fun i hi => absurd hi (Nat.not_lt_zero _), ⟨List.nodup_nil, fun x hx => absurd hx List.not_mem_nil⟩, ⟨List.nodup_nil, fun x hx => absurd hx List.not_mem_nil⟩, ⟨List.nodup_nil, fun x hx => absurd hx List.not_mem_nil⟩, fun t o ht hh => nomatch hh⟩
set_option maxHeartbeats 4000000 in
set_option maxRecDepth 100000 in
/-- X7_init -/
theorem k_X7_init (l : Launch) (D : va_G) (ac : Nat → ClassId) (H : Heap) (A : Nat → Prop) (hA : ∀ q, H.size ≤ q → A q) (adr : Nat → Nat) (w : Nat → va_E) (hM : MW D A 1 adr w H) (h1 : w 0 = .inr (7, [.null, .null, .null, .null, .null, .null, .null, .null, .null, .int 0, .int 0, .int 0, .int 0])) : WCAv l yX7_init wsX7_init ({ frames := 3, cells := 21, slots := 1448, locals := 60 }) [.ref (adr 0)] D ac H A (22) (fun adr2 w1 => adr 0 = adr2 0 ∧ HR ac adr2 w1 0 ((fun _ => 0)) ((mixF 600 (fun _ => -1) (fun _ => 0))) ((mixF 200 (fun _ => -1) (fun _ => 0))) ((fun _ => 0)) 0 ((fun _ => 0)) ((fun _ => 0)) 0 ((fun _ => 0)) ((fun _ => 0)) 0 ((fun _ => 0)) 0 ((fun _ => 0)) ((fun _ => 0)) ((fun _ => 0)) 0 ((fun _ => 0)) ((fun _ => 0)) ((fun _ _ => 0)) ((fun _ _ => 0)) ((fun _ => 0)) ((fun _ => 0)) ((fun _ => 0)) ((fun _ => 0)) ((fun _ => 0)) ((fun _ => none)) 50 10 6) 21 1448 := by
  refine Met.ofW (cc := cX7_init) (maxL := 1) (ret := none) (by decide) rfl ?_
  intro p e s m args below meth c s₁ B hml hv
  obtain ⟨hargs, hsz, hK, hAO⟩ := hv
  have hx := B.exec
  have hb := B.bytes
  have hr := B.returns
  have hts := atoms_spec (ws := wsX7_init) B.pre
  have hown : s.vm.findClass RX7 = some m.cls := findClass_of_methodNamed B.named
  have hlocks := B.notSynchronized
  have hin : meth.name = "<init>" := (name_of_methodNamed B.named B.method).1
  subst hsz
  have inX1_ : ∀ w ∈ wsX10, w ∈ wsX7_init := by decide +kernel
  have inX2_ : ∀ w ∈ wsX20, w ∈ wsX7_init := by decide +kernel
  have inX4_ : ∀ w ∈ wsX40, w ∈ wsX7_init := by decide +kernel
  have inX5_ : ∀ w ∈ wsX50, w ∈ wsX7_init := by decide +kernel
  have inX7_ : ∀ w ∈ wsX70, w ∈ wsX7_init := by decide +kernel
  have hS : va_S A s.heap s.heap [] := va_S.rf
  have hl := lv_entry ([.ref (adr 0)]) (n := 1) (Nat.le_of_ble_eq_true rfl)
  have hen := lg_entry_eq m [.ref (adr 0)] 1
  rw [← hargs] at hen
  rw [hen]
  generalize (lg_sl ([.ref (adr 0)]) ++ List.replicate (1 - (lg_sl ([.ref (adr 0)])).length) Slot.unset).toArray = ls at hl ⊢
  have hl : lv_has ls 1 [(0, .ref (adr 0))] := hl
  obtain ⟨Q0, hQ0⟩ : ∃ z, z = MQ below (va_Qv (cvP (fun adr2 w1 => adr 0 = adr2 0 ∧ HR ac adr2 w1 0 ((fun _ => 0)) ((mixF 600 (fun _ => -1) (fun _ => 0))) ((mixF 200 (fun _ => -1) (fun _ => 0))) ((fun _ => 0)) 0 ((fun _ => 0)) ((fun _ => 0)) 0 ((fun _ => 0)) ((fun _ => 0)) 0 ((fun _ => 0)) 0 ((fun _ => 0)) ((fun _ => 0)) ((fun _ => 0)) 0 ((fun _ => 0)) ((fun _ => 0)) ((fun _ _ => 0)) ((fun _ _ => 0)) ((fun _ => 0)) ((fun _ => 0)) ((fun _ => 0)) ((fun _ => 0)) ((fun _ => 0)) ((fun _ => none)) 50 10 6)) (fun u t => MW D A (22) u.1 u.2 t.heap) A) args s 21 1448 A := ⟨_, rfl⟩
  rw [← hQ0]
  refine lv_aload_n hx hb dX7_init_0 rfl (lv_at hl 0 rfl) ?_
  refine m_objinit hx hb hown (hts _ (by decide +kernel)) (hts _ (by decide +kernel)) (hts _ (by decide +kernel)) (hl.1.trans hml.symm) dX7_init_1 (Nat.le_of_ble_eq_true rfl) (Nat.le_of_ble_eq_true rfl) ?_
  refine lv_aload_n hx hb dX7_init_4 rfl (lv_at hl 0 rfl) ?_
  refine m_new (ci := 4) (fs := [.null, .int 0]) (C := RX4) (T := TX4) (n := 2) hx hb hts inX4_ tyX4 tyX4_ok hown (hts _ (by decide +kernel)) (hts _ (by decide +kernel)) (hts _ (by decide +kernel)) hK hM hS hA rfl (by intro j hj; have : j = 0 ∨ j = 1 := (by omega); rcases this with rfl | rfl <;> rfl) (Nat.le_of_ble_eq_true rfl) (Nat.le_of_ble_eq_true rfl) dX7_init_5 (fun adr_1 H he_2 hM hS => ?_)
  obtain ⟨w_3, ew_3⟩ : ∃ z9_, z9_ = va_up w 1 (.inr (4, [.null, .int 0])) := ⟨_, rfl⟩
  have hM : MW D A 2 adr_1 w_3 H := by rw [ew_3]; exact hM
  have b_4 := he_2 0 (by omega)
  simp only [b_4] at hl
  try simp only [b_4]
  have h_5 : w_3 0 = .inr (7, [.null, .null, .null, .null, .null, .null, .null, .null, .null, .int 0, .int 0, .int 0, .int 0]) := by rw [ew_3, va_up_ne _ _ (by omega), h1]
  have h_6 : w_3 1 = .inr (4, [.null, .int 0]) := by rw [ew_3]; exact va_up_self _ _ _
  refine lv_dup hx hb dX7_init_8 rfl ?_
  refine c_callv (va_runIN (mc := 1) (ms := 8) (As := []) (rest := [.ref (adr_1 1), .ref (adr_1 0)]) ⟨hx, hb, hml, hown, hts⟩ (k_X4_init l D ac _ A (fun q hq => hA q (Nat.le_trans hS.1 hq)) 2 adr_1 w_3 hM 1 (by omega) h_6) ⟨va_cnB (host := RX7) (rm := { frames := 1, cells := 1, slots := 8, locals := 20 }) 0 hts gX7_init_X4_init_n9 rfl rfl rfl (hK.nest 0 rfl) (hts _ (by decide +kernel)) (by decide +kernel) ⟨(Nat.le_of_ble_eq_true rfl), (Nat.le_of_ble_eq_true rfl)⟩, rfl, hts _ (by decide +kernel)⟩ (pS hK) rfl rfl hl.1 rfl (lv_room (Nat.le_of_ble_eq_true rfl)) dX7_init_9 ⟨(Nat.le_of_ble_eq_true rfl), (Nat.le_of_ble_eq_true rfl)⟩) hS (fun adr_7 w_9 H locs hw_9 hM hS => ?_)
  obtain ⟨he_8, hw_9⟩ := hw_9
  have hM : MW D A 3 adr_7 w_9 H := hM
  have b_10 := he_8 0 (by omega)
  have b_11 := he_8 1 (by omega)
  simp only [b_10, b_11] at hl
  try simp only [b_10, b_11]
  have h_12 : w_9 0 = .inr (7, [.null, .null, .null, .null, .null, .null, .null, .null, .null, .int 0, .int 0, .int 0, .int 0]) := by rw [hw_9, va_up_ne _ _ (by omega), va_up_ne _ _ (by omega), h_5]
  have h_13 : w_9 2 = .inl (ac 0, 8, .inl (fun _ => 0)) := by rw [hw_9, va_up_ne _ _ (by omega)]; exact va_up_self _ _ _
  have h_14 : w_9 1 = .inr (4, [.ref (adr_7 2), .int 0]) := by rw [hw_9]; exact va_up_self _ _ _
  refine m_putF (ci := 7) (C := RX7) (T := TX7) (n := 13) (v := .ref (adr_7 1)) (ty := tyX7 0) hx hb hts inX7_ tyX7 tyX7_ok nmX7 hown hK hM hS rfl 0 (by omega) h_12 0 (by decide) (hts _ (by decide +kernel)) rfl hin rfl (by decide +kernel) rfl rfl (Nat.le_of_ble_eq_true rfl) dX7_init_12 (fun H locs hM hS => ?_)
  have hM : MW D A 3 adr_7 (va_up w_9 0 (.inr (7, [.ref (adr_7 1), .null, .null, .null, .null, .null, .null, .null, .null, .int 0, .int 0, .int 0, .int 0]))) H := hM
  obtain ⟨w_15, ew_15⟩ : ∃ z9_, z9_ = va_up w_9 0 (.inr (7, [.ref (adr_7 1), .null, .null, .null, .null, .null, .null, .null, .null, .int 0, .int 0, .int 0, .int 0])) := ⟨_, rfl⟩
  rw [← ew_15] at hM
  have h_16 : w_15 0 = .inr (7, [.ref (adr_7 1), .null, .null, .null, .null, .null, .null, .null, .null, .int 0, .int 0, .int 0, .int 0]) := by rw [ew_15]; exact va_up_self _ _ _
  have h_17 : w_15 2 = .inl (ac 0, 8, .inl (fun _ => 0)) := by rw [ew_15, va_up_ne _ _ (by omega)]; exact h_13
  have h_18 : w_15 1 = .inr (4, [.ref (adr_7 2), .int 0]) := by rw [ew_15, va_up_ne _ _ (by omega)]; exact h_14
  refine lv_aload_n hx hb dX7_init_15 rfl (lv_at hl 0 rfl) ?_
  refine m_new (ci := 5) (fs := [.null, .null, .null]) (C := RX5) (T := TX5) (n := 3) hx hb hts inX5_ tyX5 tyX5_ok hown (hts _ (by decide +kernel)) (hts _ (by decide +kernel)) (hts _ (by decide +kernel)) hK hM hS hA rfl (by intro j hj; have : j = 0 ∨ j = 1 ∨ j = 2 := (by omega); rcases this with rfl | rfl | rfl <;> rfl) (Nat.le_of_ble_eq_true rfl) (Nat.le_of_ble_eq_true rfl) dX7_init_16 (fun adr_19 H he_20 hM hS => ?_)
  obtain ⟨w_21, ew_21⟩ : ∃ z9_, z9_ = va_up w_15 3 (.inr (5, [.null, .null, .null])) := ⟨_, rfl⟩
  have hM : MW D A 4 adr_19 w_21 H := by rw [ew_21]; exact hM
  have b_22 := he_20 0 (by omega)
  have b_23 := he_20 2 (by omega)
  have b_24 := he_20 1 (by omega)
  simp only [b_22, b_23, b_24] at hl
  try simp only [b_22, b_23, b_24]
  have h_25 : w_21 0 = .inr (7, [.ref (adr_19 1), .null, .null, .null, .null, .null, .null, .null, .null, .int 0, .int 0, .int 0, .int 0]) := by rw [ew_21, va_up_ne _ _ (by omega), h_16] <;> simp only [b_22, b_23, b_24]
  have h_26 : w_21 2 = .inl (ac 0, 8, .inl (fun _ => 0)) := by rw [ew_21, va_up_ne _ _ (by omega), h_17]
  have h_27 : w_21 1 = .inr (4, [.ref (adr_19 2), .int 0]) := by rw [ew_21, va_up_ne _ _ (by omega), h_18] <;> simp only [b_22, b_23, b_24]
  have h_28 : w_21 3 = .inr (5, [.null, .null, .null]) := by rw [ew_21]; exact va_up_self _ _ _
  refine lv_dup hx hb dX7_init_19 rfl ?_
  refine c_callv (va_runI (mc := 3) (ms := 1000) (As := []) (rest := [.ref (adr_19 3), .ref (adr_19 0)]) ⟨hx, hb, hml, hown, hts⟩ (k_X5_init l D ac _ A (fun q hq => hA q (Nat.le_trans hS.1 hq)) 4 adr_19 w_21 hM 3 (by omega) h_28) (cwI 0 hts gX7_init_X5_init rfl rfl rfl (hts _ (by decide +kernel)) (hts _ (by decide +kernel)) (hts _ (by decide +kernel)) rfl (by decide +kernel) ⟨(Nat.le_of_ble_eq_true rfl), (Nat.le_of_ble_eq_true rfl)⟩) (pS hK) rfl rfl hl.1 rfl (lv_room (Nat.le_of_ble_eq_true rfl)) dX7_init_20 ⟨(Nat.le_of_ble_eq_true rfl), (Nat.le_of_ble_eq_true rfl)⟩) hS (fun adr_29 w_32 H locs hw_32 hM hS => ?_)
  obtain ⟨hf_30, f_33, f_34, f_35, f_36⟩ := hw_32
  have he_31 : ∀ k, k < 4 → adr_19 k = adr_29 k := fun k hk => (hf_30 k hk).1
  have hM : MW D A 7 adr_29 w_32 H := hM
  have b_37 := he_31 0 (by omega)
  have b_38 := he_31 2 (by omega)
  have b_39 := he_31 1 (by omega)
  have b_40 := he_31 3 (by omega)
  simp only [b_37, b_38, b_39, b_40] at hl
  try simp only [b_37, b_38, b_39, b_40]
  have h_41 : w_32 0 = .inr (7, [.ref (adr_29 1), .null, .null, .null, .null, .null, .null, .null, .null, .int 0, .int 0, .int 0, .int 0]) := by rw [(hf_30 0 (by omega)).2 (by omega), h_25] <;> simp only [b_37, b_38, b_39, b_40]
  have h_42 : w_32 2 = .inl (ac 0, 8, .inl (fun _ => 0)) := by rw [(hf_30 2 (by omega)).2 (by omega), h_26]
  have h_43 : w_32 1 = .inr (4, [.ref (adr_29 2), .int 0]) := by rw [(hf_30 1 (by omega)).2 (by omega), h_27] <;> simp only [b_37, b_38, b_39, b_40]
  refine m_putF (ci := 7) (C := RX7) (T := TX7) (n := 13) (v := .ref (adr_29 3)) (ty := tyX7 1) hx hb hts inX7_ tyX7 tyX7_ok nmX7 hown hK hM hS rfl 0 (by omega) h_41 1 (by decide) (hts _ (by decide +kernel)) rfl hin rfl (by decide +kernel) rfl rfl (Nat.le_of_ble_eq_true rfl) dX7_init_23 (fun H locs hM hS => ?_)
  have hM : MW D A 7 adr_29 (va_up w_32 0 (.inr (7, [.ref (adr_29 1), .ref (adr_29 3), .null, .null, .null, .null, .null, .null, .null, .int 0, .int 0, .int 0, .int 0]))) H := hM
  obtain ⟨w_44, ew_44⟩ : ∃ z9_, z9_ = va_up w_32 0 (.inr (7, [.ref (adr_29 1), .ref (adr_29 3), .null, .null, .null, .null, .null, .null, .null, .int 0, .int 0, .int 0, .int 0])) := ⟨_, rfl⟩
  rw [← ew_44] at hM
  have h_45 : w_44 0 = .inr (7, [.ref (adr_29 1), .ref (adr_29 3), .null, .null, .null, .null, .null, .null, .null, .int 0, .int 0, .int 0, .int 0]) := by rw [ew_44]; exact va_up_self _ _ _
  have h_46 : w_44 2 = .inl (ac 0, 8, .inl (fun _ => 0)) := by rw [ew_44, va_up_ne _ _ (by omega)]; exact h_42
  have h_47 : w_44 1 = .inr (4, [.ref (adr_29 2), .int 0]) := by rw [ew_44, va_up_ne _ _ (by omega)]; exact h_43
  have h_48 : w_44 3 = .inr (5, [.ref (adr_29 4), .ref (adr_29 5), .ref (adr_29 6)]) := by rw [ew_44, va_up_ne _ _ (by omega)]; exact f_33
  have h_49 : w_44 4 = .inl (ac 0, 600, .inl ((mixF 600 (fun _ => -1) (fun _ => 0)))) := by rw [ew_44, va_up_ne _ _ (by omega)]; exact f_34
  have h_50 : w_44 5 = .inl (ac 0, 200, .inl ((mixF 200 (fun _ => -1) (fun _ => 0)))) := by rw [ew_44, va_up_ne _ _ (by omega)]; exact f_35
  have h_51 : w_44 6 = .inl (ac 0, 200, .inl (fun _ => 0)) := by rw [ew_44, va_up_ne _ _ (by omega)]; exact f_36
  refine lv_aload_n hx hb dX7_init_26 rfl (lv_at hl 0 rfl) ?_
  refine m_new (ci := 2) (fs := [.null, .null, .null, .null, .int 0]) (C := RX2) (T := TX2) (n := 5) hx hb hts inX2_ tyX2 tyX2_ok hown (hts _ (by decide +kernel)) (hts _ (by decide +kernel)) (hts _ (by decide +kernel)) hK hM hS hA rfl (by intro j hj; have : j = 0 ∨ j = 1 ∨ j = 2 ∨ j = 3 ∨ j = 4 := (by omega); rcases this with rfl | rfl | rfl | rfl | rfl <;> rfl) (Nat.le_of_ble_eq_true rfl) (Nat.le_of_ble_eq_true rfl) dX7_init_27 (fun adr_52 H he_53 hM hS => ?_)
  obtain ⟨w_54, ew_54⟩ : ∃ z9_, z9_ = va_up w_44 7 (.inr (2, [.null, .null, .null, .null, .int 0])) := ⟨_, rfl⟩
  have hM : MW D A 8 adr_52 w_54 H := by rw [ew_54]; exact hM
  have b_55 := he_53 0 (by omega)
  have b_56 := he_53 2 (by omega)
  have b_57 := he_53 1 (by omega)
  have b_58 := he_53 3 (by omega)
  have b_59 := he_53 4 (by omega)
  have b_60 := he_53 5 (by omega)
  have b_61 := he_53 6 (by omega)
  simp only [b_55, b_56, b_57, b_58, b_59, b_60, b_61] at hl
  try simp only [b_55, b_56, b_57, b_58, b_59, b_60, b_61]
  have h_62 : w_54 0 = .inr (7, [.ref (adr_52 1), .ref (adr_52 3), .null, .null, .null, .null, .null, .null, .null, .int 0, .int 0, .int 0, .int 0]) := by rw [ew_54, va_up_ne _ _ (by omega), h_45] <;> simp only [b_55, b_56, b_57, b_58, b_59, b_60, b_61]
  have h_63 : w_54 2 = .inl (ac 0, 8, .inl (fun _ => 0)) := by rw [ew_54, va_up_ne _ _ (by omega), h_46]
  have h_64 : w_54 1 = .inr (4, [.ref (adr_52 2), .int 0]) := by rw [ew_54, va_up_ne _ _ (by omega), h_47] <;> simp only [b_55, b_56, b_57, b_58, b_59, b_60, b_61]
  have h_65 : w_54 3 = .inr (5, [.ref (adr_52 4), .ref (adr_52 5), .ref (adr_52 6)]) := by rw [ew_54, va_up_ne _ _ (by omega), h_48] <;> simp only [b_55, b_56, b_57, b_58, b_59, b_60, b_61]
  have h_66 : w_54 4 = .inl (ac 0, 600, .inl ((mixF 600 (fun _ => -1) (fun _ => 0)))) := by rw [ew_54, va_up_ne _ _ (by omega), h_49]
  have h_67 : w_54 5 = .inl (ac 0, 200, .inl ((mixF 200 (fun _ => -1) (fun _ => 0)))) := by rw [ew_54, va_up_ne _ _ (by omega), h_50]
  have h_68 : w_54 6 = .inl (ac 0, 200, .inl (fun _ => 0)) := by rw [ew_54, va_up_ne _ _ (by omega), h_51]
  have h_69 : w_54 7 = .inr (2, [.null, .null, .null, .null, .int 0]) := by rw [ew_54]; exact va_up_self _ _ _
  refine lv_dup hx hb dX7_init_30 rfl ?_
  refine c_callv (va_runIN (mc := 6) (ms := 234) (As := []) (rest := [.ref (adr_52 7), .ref (adr_52 0)]) ⟨hx, hb, hml, hown, hts⟩ (k_X2_init l D ac _ A (fun q hq => hA q (Nat.le_trans hS.1 hq)) 8 adr_52 w_54 hM 7 (by omega) h_69) ⟨va_cnB (host := RX7) (rm := { frames := 2, cells := 6, slots := 234, locals := 40 }) 0 hts gX7_init_X2_init_n25 rfl rfl rfl (hK.nest 5 rfl) (hts _ (by decide +kernel)) (by decide +kernel) ⟨(Nat.le_of_ble_eq_true rfl), (Nat.le_of_ble_eq_true rfl)⟩, rfl, hts _ (by decide +kernel)⟩ (pSA hK hAO) rfl rfl hl.1 rfl (lv_room (Nat.le_of_ble_eq_true rfl)) dX7_init_31 ⟨(Nat.le_of_ble_eq_true rfl), (Nat.le_of_ble_eq_true rfl)⟩) hS (fun adr_70 w_73 H locs hw_73 hM hS => ?_)
  obtain ⟨hf_71, f_74, f_75, f_76, f_77, f_78, f_79, f_80⟩ := hw_73
  have he_72 : ∀ k, k < 8 → adr_52 k = adr_70 k := fun k hk => (hf_71 k hk).1
  have hM : MW D A 14 adr_70 w_73 H := hM
  have b_81 := he_72 0 (by omega)
  have b_82 := he_72 2 (by omega)
  have b_83 := he_72 1 (by omega)
  have b_84 := he_72 3 (by omega)
  have b_85 := he_72 4 (by omega)
  have b_86 := he_72 5 (by omega)
  have b_87 := he_72 6 (by omega)
  have b_88 := he_72 7 (by omega)
  simp only [b_81, b_82, b_83, b_84, b_85, b_86, b_87, b_88] at hl
  try simp only [b_81, b_82, b_83, b_84, b_85, b_86, b_87, b_88]
  have h_89 : w_73 0 = .inr (7, [.ref (adr_70 1), .ref (adr_70 3), .null, .null, .null, .null, .null, .null, .null, .int 0, .int 0, .int 0, .int 0]) := by rw [(hf_71 0 (by omega)).2 (by omega), h_62] <;> simp only [b_81, b_82, b_83, b_84, b_85, b_86, b_87, b_88]
  have h_90 : w_73 2 = .inl (ac 0, 8, .inl (fun _ => 0)) := by rw [(hf_71 2 (by omega)).2 (by omega), h_63]
  have h_91 : w_73 1 = .inr (4, [.ref (adr_70 2), .int 0]) := by rw [(hf_71 1 (by omega)).2 (by omega), h_64] <;> simp only [b_81, b_82, b_83, b_84, b_85, b_86, b_87, b_88]
  have h_92 : w_73 3 = .inr (5, [.ref (adr_70 4), .ref (adr_70 5), .ref (adr_70 6)]) := by rw [(hf_71 3 (by omega)).2 (by omega), h_65] <;> simp only [b_81, b_82, b_83, b_84, b_85, b_86, b_87, b_88]
  have h_93 : w_73 4 = .inl (ac 0, 600, .inl ((mixF 600 (fun _ => -1) (fun _ => 0)))) := by rw [(hf_71 4 (by omega)).2 (by omega), h_66]
  have h_94 : w_73 5 = .inl (ac 0, 200, .inl ((mixF 200 (fun _ => -1) (fun _ => 0)))) := by rw [(hf_71 5 (by omega)).2 (by omega), h_67]
  have h_95 : w_73 6 = .inl (ac 0, 200, .inl (fun _ => 0)) := by rw [(hf_71 6 (by omega)).2 (by omega), h_68]
  refine m_putF (ci := 7) (C := RX7) (T := TX7) (n := 13) (v := .ref (adr_70 7)) (ty := tyX7 2) hx hb hts inX7_ tyX7 tyX7_ok nmX7 hown hK hM hS rfl 0 (by omega) h_89 2 (by decide) (hts _ (by decide +kernel)) rfl hin rfl (by decide +kernel) rfl rfl (Nat.le_of_ble_eq_true rfl) dX7_init_34 (fun H locs hM hS => ?_)
  have hM : MW D A 14 adr_70 (va_up w_73 0 (.inr (7, [.ref (adr_70 1), .ref (adr_70 3), .ref (adr_70 7), .null, .null, .null, .null, .null, .null, .int 0, .int 0, .int 0, .int 0]))) H := hM
  obtain ⟨w_96, ew_96⟩ : ∃ z9_, z9_ = va_up w_73 0 (.inr (7, [.ref (adr_70 1), .ref (adr_70 3), .ref (adr_70 7), .null, .null, .null, .null, .null, .null, .int 0, .int 0, .int 0, .int 0])) := ⟨_, rfl⟩
  rw [← ew_96] at hM
  have h_97 : w_96 0 = .inr (7, [.ref (adr_70 1), .ref (adr_70 3), .ref (adr_70 7), .null, .null, .null, .null, .null, .null, .int 0, .int 0, .int 0, .int 0]) := by rw [ew_96]; exact va_up_self _ _ _
  have h_98 : w_96 2 = .inl (ac 0, 8, .inl (fun _ => 0)) := by rw [ew_96, va_up_ne _ _ (by omega)]; exact h_90
  have h_99 : w_96 1 = .inr (4, [.ref (adr_70 2), .int 0]) := by rw [ew_96, va_up_ne _ _ (by omega)]; exact h_91
  have h_100 : w_96 3 = .inr (5, [.ref (adr_70 4), .ref (adr_70 5), .ref (adr_70 6)]) := by rw [ew_96, va_up_ne _ _ (by omega)]; exact h_92
  have h_101 : w_96 4 = .inl (ac 0, 600, .inl ((mixF 600 (fun _ => -1) (fun _ => 0)))) := by rw [ew_96, va_up_ne _ _ (by omega)]; exact h_93
  have h_102 : w_96 5 = .inl (ac 0, 200, .inl ((mixF 200 (fun _ => -1) (fun _ => 0)))) := by rw [ew_96, va_up_ne _ _ (by omega)]; exact h_94
  have h_103 : w_96 6 = .inl (ac 0, 200, .inl (fun _ => 0)) := by rw [ew_96, va_up_ne _ _ (by omega)]; exact h_95
  have h_104 : w_96 7 = .inr (2, [.ref (adr_70 8), .ref (adr_70 9), .ref (adr_70 10), .ref (adr_70 12), .int 0]) := by rw [ew_96, va_up_ne _ _ (by omega)]; exact f_74
  have h_105 : w_96 8 = .inl (ac 4, 40, .inr (.inr (.inr (.inr (fun _ => none))))) := by rw [ew_96, va_up_ne _ _ (by omega)]; exact f_75
  have h_106 : w_96 9 = .inl (ac 1, 50, .inr (.inl (fun _ => 0))) := by rw [ew_96, va_up_ne _ _ (by omega)]; exact f_76
  have h_107 : w_96 10 = .inr (1, [.ref (adr_70 11), .int 0]) := by rw [ew_96, va_up_ne _ _ (by omega)]; exact f_77
  have h_108 : w_96 11 = .inl (ac 0, 60, .inl (fun _ => 0)) := by rw [ew_96, va_up_ne _ _ (by omega)]; exact f_78
  have h_109 : w_96 12 = .inr (0, [.ref (adr_70 13)]) := by rw [ew_96, va_up_ne _ _ (by omega)]; exact f_79
  have h_110 : w_96 13 = .inl (ac 0, 81, .inl (fun _ => 0)) := by rw [ew_96, va_up_ne _ _ (by omega)]; exact f_80
  refine lv_aload_n hx hb dX7_init_37 rfl (lv_at hl 0 rfl) ?_
  refine lv_bipush (v := 60) hx hb dX7_init_38 (by decide) ?_
  refine m_newq (C := RX3) (N' := 60) hx hb hown (hts _ (by decide +kernel)) hAO.1 hK hM hS hA 3 rfl (by decide) (by decide) (by decide) (Nat.le_of_ble_eq_true rfl) (Nat.le_of_ble_eq_true rfl) dX7_init_40 (fun adr_111 H he_112 hM hS => ?_)
  obtain ⟨w_113, ew_113⟩ : ∃ z9_, z9_ = va_up w_96 14 (.inl (ac 3, 60, .inr (.inr (.inr (.inr (fun _ => none)))))) := ⟨_, rfl⟩
  have hM : MW D A 15 adr_111 w_113 H := by rw [ew_113]; exact hM
  have b_114 := he_112 0 (by omega)
  have b_115 := he_112 2 (by omega)
  have b_116 := he_112 1 (by omega)
  have b_117 := he_112 3 (by omega)
  have b_118 := he_112 4 (by omega)
  have b_119 := he_112 5 (by omega)
  have b_120 := he_112 6 (by omega)
  have b_121 := he_112 7 (by omega)
  have b_122 := he_112 8 (by omega)
  have b_123 := he_112 9 (by omega)
  have b_124 := he_112 10 (by omega)
  have b_125 := he_112 11 (by omega)
  have b_126 := he_112 12 (by omega)
  have b_127 := he_112 13 (by omega)
  simp only [b_114, b_115, b_116, b_117, b_118, b_119, b_120, b_121, b_122, b_123, b_124, b_125, b_126, b_127] at hl
  try simp only [b_114, b_115, b_116, b_117, b_118, b_119, b_120, b_121, b_122, b_123, b_124, b_125, b_126, b_127]
  have h_128 : w_113 0 = .inr (7, [.ref (adr_111 1), .ref (adr_111 3), .ref (adr_111 7), .null, .null, .null, .null, .null, .null, .int 0, .int 0, .int 0, .int 0]) := by rw [ew_113, va_up_ne _ _ (by omega), h_97] <;> simp only [b_114, b_115, b_116, b_117, b_118, b_119, b_120, b_121, b_122, b_123, b_124, b_125, b_126, b_127]
  have h_129 : w_113 2 = .inl (ac 0, 8, .inl (fun _ => 0)) := by rw [ew_113, va_up_ne _ _ (by omega), h_98]
  have h_130 : w_113 1 = .inr (4, [.ref (adr_111 2), .int 0]) := by rw [ew_113, va_up_ne _ _ (by omega), h_99] <;> simp only [b_114, b_115, b_116, b_117, b_118, b_119, b_120, b_121, b_122, b_123, b_124, b_125, b_126, b_127]
  have h_131 : w_113 3 = .inr (5, [.ref (adr_111 4), .ref (adr_111 5), .ref (adr_111 6)]) := by rw [ew_113, va_up_ne _ _ (by omega), h_100] <;> simp only [b_114, b_115, b_116, b_117, b_118, b_119, b_120, b_121, b_122, b_123, b_124, b_125, b_126, b_127]
  have h_132 : w_113 4 = .inl (ac 0, 600, .inl ((mixF 600 (fun _ => -1) (fun _ => 0)))) := by rw [ew_113, va_up_ne _ _ (by omega), h_101]
  have h_133 : w_113 5 = .inl (ac 0, 200, .inl ((mixF 200 (fun _ => -1) (fun _ => 0)))) := by rw [ew_113, va_up_ne _ _ (by omega), h_102]
  have h_134 : w_113 6 = .inl (ac 0, 200, .inl (fun _ => 0)) := by rw [ew_113, va_up_ne _ _ (by omega), h_103]
  have h_135 : w_113 7 = .inr (2, [.ref (adr_111 8), .ref (adr_111 9), .ref (adr_111 10), .ref (adr_111 12), .int 0]) := by rw [ew_113, va_up_ne _ _ (by omega), h_104] <;> simp only [b_114, b_115, b_116, b_117, b_118, b_119, b_120, b_121, b_122, b_123, b_124, b_125, b_126, b_127]
  have h_136 : w_113 8 = .inl (ac 4, 40, .inr (.inr (.inr (.inr (fun _ => none))))) := by rw [ew_113, va_up_ne _ _ (by omega), h_105]
  have h_137 : w_113 9 = .inl (ac 1, 50, .inr (.inl (fun _ => 0))) := by rw [ew_113, va_up_ne _ _ (by omega), h_106]
  have h_138 : w_113 10 = .inr (1, [.ref (adr_111 11), .int 0]) := by rw [ew_113, va_up_ne _ _ (by omega), h_107] <;> simp only [b_114, b_115, b_116, b_117, b_118, b_119, b_120, b_121, b_122, b_123, b_124, b_125, b_126, b_127]
  have h_139 : w_113 11 = .inl (ac 0, 60, .inl (fun _ => 0)) := by rw [ew_113, va_up_ne _ _ (by omega), h_108]
  have h_140 : w_113 12 = .inr (0, [.ref (adr_111 13)]) := by rw [ew_113, va_up_ne _ _ (by omega), h_109] <;> simp only [b_114, b_115, b_116, b_117, b_118, b_119, b_120, b_121, b_122, b_123, b_124, b_125, b_126, b_127]
  have h_141 : w_113 13 = .inl (ac 0, 81, .inl (fun _ => 0)) := by rw [ew_113, va_up_ne _ _ (by omega), h_110]
  have h_142 : w_113 14 = .inl (ac 3, 60, .inr (.inr (.inr (.inr (fun _ => none))))) := by rw [ew_113]; exact va_up_self _ _ _
  refine m_putF (ci := 7) (C := RX7) (T := TX7) (n := 13) (v := .ref (adr_111 14)) (ty := tyX7 3) hx hb hts inX7_ tyX7 tyX7_ok nmX7 hown hK hM hS rfl 0 (by omega) h_128 3 (by decide) (hts _ (by decide +kernel)) rfl hin rfl (by decide +kernel) rfl rfl (Nat.le_of_ble_eq_true rfl) dX7_init_43 (fun H locs hM hS => ?_)
  have hM : MW D A 15 adr_111 (va_up w_113 0 (.inr (7, [.ref (adr_111 1), .ref (adr_111 3), .ref (adr_111 7), .ref (adr_111 14), .null, .null, .null, .null, .null, .int 0, .int 0, .int 0, .int 0]))) H := hM
  obtain ⟨w_143, ew_143⟩ : ∃ z9_, z9_ = va_up w_113 0 (.inr (7, [.ref (adr_111 1), .ref (adr_111 3), .ref (adr_111 7), .ref (adr_111 14), .null, .null, .null, .null, .null, .int 0, .int 0, .int 0, .int 0])) := ⟨_, rfl⟩
  rw [← ew_143] at hM
  have h_144 : w_143 0 = .inr (7, [.ref (adr_111 1), .ref (adr_111 3), .ref (adr_111 7), .ref (adr_111 14), .null, .null, .null, .null, .null, .int 0, .int 0, .int 0, .int 0]) := by rw [ew_143]; exact va_up_self _ _ _
  have h_145 : w_143 2 = .inl (ac 0, 8, .inl (fun _ => 0)) := by rw [ew_143, va_up_ne _ _ (by omega)]; exact h_129
  have h_146 : w_143 1 = .inr (4, [.ref (adr_111 2), .int 0]) := by rw [ew_143, va_up_ne _ _ (by omega)]; exact h_130
  have h_147 : w_143 3 = .inr (5, [.ref (adr_111 4), .ref (adr_111 5), .ref (adr_111 6)]) := by rw [ew_143, va_up_ne _ _ (by omega)]; exact h_131
  have h_148 : w_143 4 = .inl (ac 0, 600, .inl ((mixF 600 (fun _ => -1) (fun _ => 0)))) := by rw [ew_143, va_up_ne _ _ (by omega)]; exact h_132
  have h_149 : w_143 5 = .inl (ac 0, 200, .inl ((mixF 200 (fun _ => -1) (fun _ => 0)))) := by rw [ew_143, va_up_ne _ _ (by omega)]; exact h_133
  have h_150 : w_143 6 = .inl (ac 0, 200, .inl (fun _ => 0)) := by rw [ew_143, va_up_ne _ _ (by omega)]; exact h_134
  have h_151 : w_143 7 = .inr (2, [.ref (adr_111 8), .ref (adr_111 9), .ref (adr_111 10), .ref (adr_111 12), .int 0]) := by rw [ew_143, va_up_ne _ _ (by omega)]; exact h_135
  have h_152 : w_143 8 = .inl (ac 4, 40, .inr (.inr (.inr (.inr (fun _ => none))))) := by rw [ew_143, va_up_ne _ _ (by omega)]; exact h_136
  have h_153 : w_143 9 = .inl (ac 1, 50, .inr (.inl (fun _ => 0))) := by rw [ew_143, va_up_ne _ _ (by omega)]; exact h_137
  have h_154 : w_143 10 = .inr (1, [.ref (adr_111 11), .int 0]) := by rw [ew_143, va_up_ne _ _ (by omega)]; exact h_138
  have h_155 : w_143 11 = .inl (ac 0, 60, .inl (fun _ => 0)) := by rw [ew_143, va_up_ne _ _ (by omega)]; exact h_139
  have h_156 : w_143 12 = .inr (0, [.ref (adr_111 13)]) := by rw [ew_143, va_up_ne _ _ (by omega)]; exact h_140
  have h_157 : w_143 13 = .inl (ac 0, 81, .inl (fun _ => 0)) := by rw [ew_143, va_up_ne _ _ (by omega)]; exact h_141
  have h_158 : w_143 14 = .inl (ac 3, 60, .inr (.inr (.inr (.inr (fun _ => none))))) := by rw [ew_143, va_up_ne _ _ (by omega)]; exact h_142
  refine lv_aload_n hx hb dX7_init_46 rfl (lv_at hl 0 rfl) ?_
  refine lv_iconst (v := 4) hx hb dX7_init_47 (by decide) ?_
  refine m_newq (C := RX3) (N' := 4) hx hb hown (hts _ (by decide +kernel)) hAO.1 hK hM hS hA 3 rfl (by decide) (by decide) (by decide) (Nat.le_of_ble_eq_true rfl) (Nat.le_of_ble_eq_true rfl) dX7_init_48 (fun adr_159 H he_160 hM hS => ?_)
  obtain ⟨w_161, ew_161⟩ : ∃ z9_, z9_ = va_up w_143 15 (.inl (ac 3, 4, .inr (.inr (.inr (.inr (fun _ => none)))))) := ⟨_, rfl⟩
  have hM : MW D A 16 adr_159 w_161 H := by rw [ew_161]; exact hM
  have b_162 := he_160 0 (by omega)
  have b_163 := he_160 2 (by omega)
  have b_164 := he_160 1 (by omega)
  have b_165 := he_160 3 (by omega)
  have b_166 := he_160 4 (by omega)
  have b_167 := he_160 5 (by omega)
  have b_168 := he_160 6 (by omega)
  have b_169 := he_160 7 (by omega)
  have b_170 := he_160 8 (by omega)
  have b_171 := he_160 9 (by omega)
  have b_172 := he_160 10 (by omega)
  have b_173 := he_160 11 (by omega)
  have b_174 := he_160 12 (by omega)
  have b_175 := he_160 13 (by omega)
  have b_176 := he_160 14 (by omega)
  simp only [b_162, b_163, b_164, b_165, b_166, b_167, b_168, b_169, b_170, b_171, b_172, b_173, b_174, b_175, b_176] at hl
  try simp only [b_162, b_163, b_164, b_165, b_166, b_167, b_168, b_169, b_170, b_171, b_172, b_173, b_174, b_175, b_176]
  have h_177 : w_161 0 = .inr (7, [.ref (adr_159 1), .ref (adr_159 3), .ref (adr_159 7), .ref (adr_159 14), .null, .null, .null, .null, .null, .int 0, .int 0, .int 0, .int 0]) := by rw [ew_161, va_up_ne _ _ (by omega), h_144] <;> simp only [b_162, b_163, b_164, b_165, b_166, b_167, b_168, b_169, b_170, b_171, b_172, b_173, b_174, b_175, b_176]
  have h_178 : w_161 2 = .inl (ac 0, 8, .inl (fun _ => 0)) := by rw [ew_161, va_up_ne _ _ (by omega), h_145]
  have h_179 : w_161 1 = .inr (4, [.ref (adr_159 2), .int 0]) := by rw [ew_161, va_up_ne _ _ (by omega), h_146] <;> simp only [b_162, b_163, b_164, b_165, b_166, b_167, b_168, b_169, b_170, b_171, b_172, b_173, b_174, b_175, b_176]
  have h_180 : w_161 3 = .inr (5, [.ref (adr_159 4), .ref (adr_159 5), .ref (adr_159 6)]) := by rw [ew_161, va_up_ne _ _ (by omega), h_147] <;> simp only [b_162, b_163, b_164, b_165, b_166, b_167, b_168, b_169, b_170, b_171, b_172, b_173, b_174, b_175, b_176]
  have h_181 : w_161 4 = .inl (ac 0, 600, .inl ((mixF 600 (fun _ => -1) (fun _ => 0)))) := by rw [ew_161, va_up_ne _ _ (by omega), h_148]
  have h_182 : w_161 5 = .inl (ac 0, 200, .inl ((mixF 200 (fun _ => -1) (fun _ => 0)))) := by rw [ew_161, va_up_ne _ _ (by omega), h_149]
  have h_183 : w_161 6 = .inl (ac 0, 200, .inl (fun _ => 0)) := by rw [ew_161, va_up_ne _ _ (by omega), h_150]
  have h_184 : w_161 7 = .inr (2, [.ref (adr_159 8), .ref (adr_159 9), .ref (adr_159 10), .ref (adr_159 12), .int 0]) := by rw [ew_161, va_up_ne _ _ (by omega), h_151] <;> simp only [b_162, b_163, b_164, b_165, b_166, b_167, b_168, b_169, b_170, b_171, b_172, b_173, b_174, b_175, b_176]
  have h_185 : w_161 8 = .inl (ac 4, 40, .inr (.inr (.inr (.inr (fun _ => none))))) := by rw [ew_161, va_up_ne _ _ (by omega), h_152]
  have h_186 : w_161 9 = .inl (ac 1, 50, .inr (.inl (fun _ => 0))) := by rw [ew_161, va_up_ne _ _ (by omega), h_153]
  have h_187 : w_161 10 = .inr (1, [.ref (adr_159 11), .int 0]) := by rw [ew_161, va_up_ne _ _ (by omega), h_154] <;> simp only [b_162, b_163, b_164, b_165, b_166, b_167, b_168, b_169, b_170, b_171, b_172, b_173, b_174, b_175, b_176]
  have h_188 : w_161 11 = .inl (ac 0, 60, .inl (fun _ => 0)) := by rw [ew_161, va_up_ne _ _ (by omega), h_155]
  have h_189 : w_161 12 = .inr (0, [.ref (adr_159 13)]) := by rw [ew_161, va_up_ne _ _ (by omega), h_156] <;> simp only [b_162, b_163, b_164, b_165, b_166, b_167, b_168, b_169, b_170, b_171, b_172, b_173, b_174, b_175, b_176]
  have h_190 : w_161 13 = .inl (ac 0, 81, .inl (fun _ => 0)) := by rw [ew_161, va_up_ne _ _ (by omega), h_157]
  have h_191 : w_161 14 = .inl (ac 3, 60, .inr (.inr (.inr (.inr (fun _ => none))))) := by rw [ew_161, va_up_ne _ _ (by omega), h_158]
  have h_192 : w_161 15 = .inl (ac 3, 4, .inr (.inr (.inr (.inr (fun _ => none))))) := by rw [ew_161]; exact va_up_self _ _ _
  refine m_putF (ci := 7) (C := RX7) (T := TX7) (n := 13) (v := .ref (adr_159 15)) (ty := tyX7 4) hx hb hts inX7_ tyX7 tyX7_ok nmX7 hown hK hM hS rfl 0 (by omega) h_177 4 (by decide) (hts _ (by decide +kernel)) rfl hin rfl (by decide +kernel) rfl rfl (Nat.le_of_ble_eq_true rfl) dX7_init_51 (fun H locs hM hS => ?_)
  have hM : MW D A 16 adr_159 (va_up w_161 0 (.inr (7, [.ref (adr_159 1), .ref (adr_159 3), .ref (adr_159 7), .ref (adr_159 14), .ref (adr_159 15), .null, .null, .null, .null, .int 0, .int 0, .int 0, .int 0]))) H := hM
  obtain ⟨w_193, ew_193⟩ : ∃ z9_, z9_ = va_up w_161 0 (.inr (7, [.ref (adr_159 1), .ref (adr_159 3), .ref (adr_159 7), .ref (adr_159 14), .ref (adr_159 15), .null, .null, .null, .null, .int 0, .int 0, .int 0, .int 0])) := ⟨_, rfl⟩
  rw [← ew_193] at hM
  have h_194 : w_193 0 = .inr (7, [.ref (adr_159 1), .ref (adr_159 3), .ref (adr_159 7), .ref (adr_159 14), .ref (adr_159 15), .null, .null, .null, .null, .int 0, .int 0, .int 0, .int 0]) := by rw [ew_193]; exact va_up_self _ _ _
  have h_195 : w_193 2 = .inl (ac 0, 8, .inl (fun _ => 0)) := by rw [ew_193, va_up_ne _ _ (by omega)]; exact h_178
  have h_196 : w_193 1 = .inr (4, [.ref (adr_159 2), .int 0]) := by rw [ew_193, va_up_ne _ _ (by omega)]; exact h_179
  have h_197 : w_193 3 = .inr (5, [.ref (adr_159 4), .ref (adr_159 5), .ref (adr_159 6)]) := by rw [ew_193, va_up_ne _ _ (by omega)]; exact h_180
  have h_198 : w_193 4 = .inl (ac 0, 600, .inl ((mixF 600 (fun _ => -1) (fun _ => 0)))) := by rw [ew_193, va_up_ne _ _ (by omega)]; exact h_181
  have h_199 : w_193 5 = .inl (ac 0, 200, .inl ((mixF 200 (fun _ => -1) (fun _ => 0)))) := by rw [ew_193, va_up_ne _ _ (by omega)]; exact h_182
  have h_200 : w_193 6 = .inl (ac 0, 200, .inl (fun _ => 0)) := by rw [ew_193, va_up_ne _ _ (by omega)]; exact h_183
  have h_201 : w_193 7 = .inr (2, [.ref (adr_159 8), .ref (adr_159 9), .ref (adr_159 10), .ref (adr_159 12), .int 0]) := by rw [ew_193, va_up_ne _ _ (by omega)]; exact h_184
  have h_202 : w_193 8 = .inl (ac 4, 40, .inr (.inr (.inr (.inr (fun _ => none))))) := by rw [ew_193, va_up_ne _ _ (by omega)]; exact h_185
  have h_203 : w_193 9 = .inl (ac 1, 50, .inr (.inl (fun _ => 0))) := by rw [ew_193, va_up_ne _ _ (by omega)]; exact h_186
  have h_204 : w_193 10 = .inr (1, [.ref (adr_159 11), .int 0]) := by rw [ew_193, va_up_ne _ _ (by omega)]; exact h_187
  have h_205 : w_193 11 = .inl (ac 0, 60, .inl (fun _ => 0)) := by rw [ew_193, va_up_ne _ _ (by omega)]; exact h_188
  have h_206 : w_193 12 = .inr (0, [.ref (adr_159 13)]) := by rw [ew_193, va_up_ne _ _ (by omega)]; exact h_189
  have h_207 : w_193 13 = .inl (ac 0, 81, .inl (fun _ => 0)) := by rw [ew_193, va_up_ne _ _ (by omega)]; exact h_190
  have h_208 : w_193 14 = .inl (ac 3, 60, .inr (.inr (.inr (.inr (fun _ => none))))) := by rw [ew_193, va_up_ne _ _ (by omega)]; exact h_191
  have h_209 : w_193 15 = .inl (ac 3, 4, .inr (.inr (.inr (.inr (fun _ => none))))) := by rw [ew_193, va_up_ne _ _ (by omega)]; exact h_192
  refine lv_aload_n hx hb dX7_init_54 rfl (lv_at hl 0 rfl) ?_
  refine m_new (ci := 1) (fs := [.null, .int 0]) (C := RX1) (T := TX1) (n := 2) hx hb hts inX1_ tyX1 tyX1_ok hown (hts _ (by decide +kernel)) (hts _ (by decide +kernel)) (hts _ (by decide +kernel)) hK hM hS hA rfl (by intro j hj; have : j = 0 ∨ j = 1 := (by omega); rcases this with rfl | rfl <;> rfl) (Nat.le_of_ble_eq_true rfl) (Nat.le_of_ble_eq_true rfl) dX7_init_55 (fun adr_210 H he_211 hM hS => ?_)
  obtain ⟨w_212, ew_212⟩ : ∃ z9_, z9_ = va_up w_193 16 (.inr (1, [.null, .int 0])) := ⟨_, rfl⟩
  have hM : MW D A 17 adr_210 w_212 H := by rw [ew_212]; exact hM
  have b_213 := he_211 0 (by omega)
  have b_214 := he_211 2 (by omega)
  have b_215 := he_211 1 (by omega)
  have b_216 := he_211 3 (by omega)
  have b_217 := he_211 4 (by omega)
  have b_218 := he_211 5 (by omega)
  have b_219 := he_211 6 (by omega)
  have b_220 := he_211 7 (by omega)
  have b_221 := he_211 8 (by omega)
  have b_222 := he_211 9 (by omega)
  have b_223 := he_211 10 (by omega)
  have b_224 := he_211 11 (by omega)
  have b_225 := he_211 12 (by omega)
  have b_226 := he_211 13 (by omega)
  have b_227 := he_211 14 (by omega)
  have b_228 := he_211 15 (by omega)
  simp only [b_213, b_214, b_215, b_216, b_217, b_218, b_219, b_220, b_221, b_222, b_223, b_224, b_225, b_226, b_227, b_228] at hl
  try simp only [b_213, b_214, b_215, b_216, b_217, b_218, b_219, b_220, b_221, b_222, b_223, b_224, b_225, b_226, b_227, b_228]
  have h_229 : w_212 0 = .inr (7, [.ref (adr_210 1), .ref (adr_210 3), .ref (adr_210 7), .ref (adr_210 14), .ref (adr_210 15), .null, .null, .null, .null, .int 0, .int 0, .int 0, .int 0]) := by rw [ew_212, va_up_ne _ _ (by omega), h_194] <;> simp only [b_213, b_214, b_215, b_216, b_217, b_218, b_219, b_220, b_221, b_222, b_223, b_224, b_225, b_226, b_227, b_228]
  have h_230 : w_212 2 = .inl (ac 0, 8, .inl (fun _ => 0)) := by rw [ew_212, va_up_ne _ _ (by omega), h_195]
  have h_231 : w_212 1 = .inr (4, [.ref (adr_210 2), .int 0]) := by rw [ew_212, va_up_ne _ _ (by omega), h_196] <;> simp only [b_213, b_214, b_215, b_216, b_217, b_218, b_219, b_220, b_221, b_222, b_223, b_224, b_225, b_226, b_227, b_228]
  have h_232 : w_212 3 = .inr (5, [.ref (adr_210 4), .ref (adr_210 5), .ref (adr_210 6)]) := by rw [ew_212, va_up_ne _ _ (by omega), h_197] <;> simp only [b_213, b_214, b_215, b_216, b_217, b_218, b_219, b_220, b_221, b_222, b_223, b_224, b_225, b_226, b_227, b_228]
  have h_233 : w_212 4 = .inl (ac 0, 600, .inl ((mixF 600 (fun _ => -1) (fun _ => 0)))) := by rw [ew_212, va_up_ne _ _ (by omega), h_198]
  have h_234 : w_212 5 = .inl (ac 0, 200, .inl ((mixF 200 (fun _ => -1) (fun _ => 0)))) := by rw [ew_212, va_up_ne _ _ (by omega), h_199]
  have h_235 : w_212 6 = .inl (ac 0, 200, .inl (fun _ => 0)) := by rw [ew_212, va_up_ne _ _ (by omega), h_200]
  have h_236 : w_212 7 = .inr (2, [.ref (adr_210 8), .ref (adr_210 9), .ref (adr_210 10), .ref (adr_210 12), .int 0]) := by rw [ew_212, va_up_ne _ _ (by omega), h_201] <;> simp only [b_213, b_214, b_215, b_216, b_217, b_218, b_219, b_220, b_221, b_222, b_223, b_224, b_225, b_226, b_227, b_228]
  have h_237 : w_212 8 = .inl (ac 4, 40, .inr (.inr (.inr (.inr (fun _ => none))))) := by rw [ew_212, va_up_ne _ _ (by omega), h_202]
  have h_238 : w_212 9 = .inl (ac 1, 50, .inr (.inl (fun _ => 0))) := by rw [ew_212, va_up_ne _ _ (by omega), h_203]
  have h_239 : w_212 10 = .inr (1, [.ref (adr_210 11), .int 0]) := by rw [ew_212, va_up_ne _ _ (by omega), h_204] <;> simp only [b_213, b_214, b_215, b_216, b_217, b_218, b_219, b_220, b_221, b_222, b_223, b_224, b_225, b_226, b_227, b_228]
  have h_240 : w_212 11 = .inl (ac 0, 60, .inl (fun _ => 0)) := by rw [ew_212, va_up_ne _ _ (by omega), h_205]
  have h_241 : w_212 12 = .inr (0, [.ref (adr_210 13)]) := by rw [ew_212, va_up_ne _ _ (by omega), h_206] <;> simp only [b_213, b_214, b_215, b_216, b_217, b_218, b_219, b_220, b_221, b_222, b_223, b_224, b_225, b_226, b_227, b_228]
  have h_242 : w_212 13 = .inl (ac 0, 81, .inl (fun _ => 0)) := by rw [ew_212, va_up_ne _ _ (by omega), h_207]
  have h_243 : w_212 14 = .inl (ac 3, 60, .inr (.inr (.inr (.inr (fun _ => none))))) := by rw [ew_212, va_up_ne _ _ (by omega), h_208]
  have h_244 : w_212 15 = .inl (ac 3, 4, .inr (.inr (.inr (.inr (fun _ => none))))) := by rw [ew_212, va_up_ne _ _ (by omega), h_209]
  have h_245 : w_212 16 = .inr (1, [.null, .int 0]) := by rw [ew_212]; exact va_up_self _ _ _
  refine lv_dup hx hb dX7_init_58 rfl ?_
  refine c_callv (va_runIN (mc := 1) (ms := 60) (As := []) (rest := [.ref (adr_210 16), .ref (adr_210 0)]) ⟨hx, hb, hml, hown, hts⟩ (k_X1_init l D ac _ A (fun q hq => hA q (Nat.le_trans hS.1 hq)) 17 adr_210 w_212 hM 16 (by omega) h_245) ⟨va_cnB (host := RX7) (rm := { frames := 1, cells := 1, slots := 60, locals := 20 }) 0 hts gX7_init_X1_init_n41 rfl rfl rfl (hK.nest 13 rfl) (hts _ (by decide +kernel)) (by decide +kernel) ⟨(Nat.le_of_ble_eq_true rfl), (Nat.le_of_ble_eq_true rfl)⟩, rfl, hts _ (by decide +kernel)⟩ (pS hK) rfl rfl hl.1 rfl (lv_room (Nat.le_of_ble_eq_true rfl)) dX7_init_59 ⟨(Nat.le_of_ble_eq_true rfl), (Nat.le_of_ble_eq_true rfl)⟩) hS (fun adr_246 w_248 H locs hw_248 hM hS => ?_)
  obtain ⟨he_247, hw_248⟩ := hw_248
  have hM : MW D A 18 adr_246 w_248 H := hM
  have b_249 := he_247 0 (by omega)
  have b_250 := he_247 2 (by omega)
  have b_251 := he_247 1 (by omega)
  have b_252 := he_247 3 (by omega)
  have b_253 := he_247 4 (by omega)
  have b_254 := he_247 5 (by omega)
  have b_255 := he_247 6 (by omega)
  have b_256 := he_247 7 (by omega)
  have b_257 := he_247 8 (by omega)
  have b_258 := he_247 9 (by omega)
  have b_259 := he_247 10 (by omega)
  have b_260 := he_247 11 (by omega)
  have b_261 := he_247 12 (by omega)
  have b_262 := he_247 13 (by omega)
  have b_263 := he_247 14 (by omega)
  have b_264 := he_247 15 (by omega)
  have b_265 := he_247 16 (by omega)
  simp only [b_249, b_250, b_251, b_252, b_253, b_254, b_255, b_256, b_257, b_258, b_259, b_260, b_261, b_262, b_263, b_264, b_265] at hl
  try simp only [b_249, b_250, b_251, b_252, b_253, b_254, b_255, b_256, b_257, b_258, b_259, b_260, b_261, b_262, b_263, b_264, b_265]
  have h_266 : w_248 0 = .inr (7, [.ref (adr_246 1), .ref (adr_246 3), .ref (adr_246 7), .ref (adr_246 14), .ref (adr_246 15), .null, .null, .null, .null, .int 0, .int 0, .int 0, .int 0]) := by rw [hw_248, va_up_ne _ _ (by omega), va_up_ne _ _ (by omega), h_229] <;> simp only [b_249, b_250, b_251, b_252, b_253, b_254, b_255, b_256, b_257, b_258, b_259, b_260, b_261, b_262, b_263, b_264, b_265]
  have h_267 : w_248 2 = .inl (ac 0, 8, .inl (fun _ => 0)) := by rw [hw_248, va_up_ne _ _ (by omega), va_up_ne _ _ (by omega), h_230]
  have h_268 : w_248 1 = .inr (4, [.ref (adr_246 2), .int 0]) := by rw [hw_248, va_up_ne _ _ (by omega), va_up_ne _ _ (by omega), h_231] <;> simp only [b_249, b_250, b_251, b_252, b_253, b_254, b_255, b_256, b_257, b_258, b_259, b_260, b_261, b_262, b_263, b_264, b_265]
  have h_269 : w_248 3 = .inr (5, [.ref (adr_246 4), .ref (adr_246 5), .ref (adr_246 6)]) := by rw [hw_248, va_up_ne _ _ (by omega), va_up_ne _ _ (by omega), h_232] <;> simp only [b_249, b_250, b_251, b_252, b_253, b_254, b_255, b_256, b_257, b_258, b_259, b_260, b_261, b_262, b_263, b_264, b_265]
  have h_270 : w_248 4 = .inl (ac 0, 600, .inl ((mixF 600 (fun _ => -1) (fun _ => 0)))) := by rw [hw_248, va_up_ne _ _ (by omega), va_up_ne _ _ (by omega), h_233]
  have h_271 : w_248 5 = .inl (ac 0, 200, .inl ((mixF 200 (fun _ => -1) (fun _ => 0)))) := by rw [hw_248, va_up_ne _ _ (by omega), va_up_ne _ _ (by omega), h_234]
  have h_272 : w_248 6 = .inl (ac 0, 200, .inl (fun _ => 0)) := by rw [hw_248, va_up_ne _ _ (by omega), va_up_ne _ _ (by omega), h_235]
  have h_273 : w_248 7 = .inr (2, [.ref (adr_246 8), .ref (adr_246 9), .ref (adr_246 10), .ref (adr_246 12), .int 0]) := by rw [hw_248, va_up_ne _ _ (by omega), va_up_ne _ _ (by omega), h_236] <;> simp only [b_249, b_250, b_251, b_252, b_253, b_254, b_255, b_256, b_257, b_258, b_259, b_260, b_261, b_262, b_263, b_264, b_265]
  have h_274 : w_248 8 = .inl (ac 4, 40, .inr (.inr (.inr (.inr (fun _ => none))))) := by rw [hw_248, va_up_ne _ _ (by omega), va_up_ne _ _ (by omega), h_237]
  have h_275 : w_248 9 = .inl (ac 1, 50, .inr (.inl (fun _ => 0))) := by rw [hw_248, va_up_ne _ _ (by omega), va_up_ne _ _ (by omega), h_238]
  have h_276 : w_248 10 = .inr (1, [.ref (adr_246 11), .int 0]) := by rw [hw_248, va_up_ne _ _ (by omega), va_up_ne _ _ (by omega), h_239] <;> simp only [b_249, b_250, b_251, b_252, b_253, b_254, b_255, b_256, b_257, b_258, b_259, b_260, b_261, b_262, b_263, b_264, b_265]
  have h_277 : w_248 11 = .inl (ac 0, 60, .inl (fun _ => 0)) := by rw [hw_248, va_up_ne _ _ (by omega), va_up_ne _ _ (by omega), h_240]
  have h_278 : w_248 12 = .inr (0, [.ref (adr_246 13)]) := by rw [hw_248, va_up_ne _ _ (by omega), va_up_ne _ _ (by omega), h_241] <;> simp only [b_249, b_250, b_251, b_252, b_253, b_254, b_255, b_256, b_257, b_258, b_259, b_260, b_261, b_262, b_263, b_264, b_265]
  have h_279 : w_248 13 = .inl (ac 0, 81, .inl (fun _ => 0)) := by rw [hw_248, va_up_ne _ _ (by omega), va_up_ne _ _ (by omega), h_242]
  have h_280 : w_248 14 = .inl (ac 3, 60, .inr (.inr (.inr (.inr (fun _ => none))))) := by rw [hw_248, va_up_ne _ _ (by omega), va_up_ne _ _ (by omega), h_243]
  have h_281 : w_248 15 = .inl (ac 3, 4, .inr (.inr (.inr (.inr (fun _ => none))))) := by rw [hw_248, va_up_ne _ _ (by omega), va_up_ne _ _ (by omega), h_244]
  have h_282 : w_248 17 = .inl (ac 0, 60, .inl (fun _ => 0)) := by rw [hw_248, va_up_ne _ _ (by omega)]; exact va_up_self _ _ _
  have h_283 : w_248 16 = .inr (1, [.ref (adr_246 17), .int 0]) := by rw [hw_248]; exact va_up_self _ _ _
  refine m_putF (ci := 7) (C := RX7) (T := TX7) (n := 13) (v := .ref (adr_246 16)) (ty := tyX7 5) hx hb hts inX7_ tyX7 tyX7_ok nmX7 hown hK hM hS rfl 0 (by omega) h_266 5 (by decide) (hts _ (by decide +kernel)) rfl hin rfl (by decide +kernel) rfl rfl (Nat.le_of_ble_eq_true rfl) dX7_init_62 (fun H locs hM hS => ?_)
  have hM : MW D A 18 adr_246 (va_up w_248 0 (.inr (7, [.ref (adr_246 1), .ref (adr_246 3), .ref (adr_246 7), .ref (adr_246 14), .ref (adr_246 15), .ref (adr_246 16), .null, .null, .null, .int 0, .int 0, .int 0, .int 0]))) H := hM
  obtain ⟨w_284, ew_284⟩ : ∃ z9_, z9_ = va_up w_248 0 (.inr (7, [.ref (adr_246 1), .ref (adr_246 3), .ref (adr_246 7), .ref (adr_246 14), .ref (adr_246 15), .ref (adr_246 16), .null, .null, .null, .int 0, .int 0, .int 0, .int 0])) := ⟨_, rfl⟩
  rw [← ew_284] at hM
  have h_285 : w_284 0 = .inr (7, [.ref (adr_246 1), .ref (adr_246 3), .ref (adr_246 7), .ref (adr_246 14), .ref (adr_246 15), .ref (adr_246 16), .null, .null, .null, .int 0, .int 0, .int 0, .int 0]) := by rw [ew_284]; exact va_up_self _ _ _
  have h_286 : w_284 2 = .inl (ac 0, 8, .inl (fun _ => 0)) := by rw [ew_284, va_up_ne _ _ (by omega)]; exact h_267
  have h_287 : w_284 1 = .inr (4, [.ref (adr_246 2), .int 0]) := by rw [ew_284, va_up_ne _ _ (by omega)]; exact h_268
  have h_288 : w_284 3 = .inr (5, [.ref (adr_246 4), .ref (adr_246 5), .ref (adr_246 6)]) := by rw [ew_284, va_up_ne _ _ (by omega)]; exact h_269
  have h_289 : w_284 4 = .inl (ac 0, 600, .inl ((mixF 600 (fun _ => -1) (fun _ => 0)))) := by rw [ew_284, va_up_ne _ _ (by omega)]; exact h_270
  have h_290 : w_284 5 = .inl (ac 0, 200, .inl ((mixF 200 (fun _ => -1) (fun _ => 0)))) := by rw [ew_284, va_up_ne _ _ (by omega)]; exact h_271
  have h_291 : w_284 6 = .inl (ac 0, 200, .inl (fun _ => 0)) := by rw [ew_284, va_up_ne _ _ (by omega)]; exact h_272
  have h_292 : w_284 7 = .inr (2, [.ref (adr_246 8), .ref (adr_246 9), .ref (adr_246 10), .ref (adr_246 12), .int 0]) := by rw [ew_284, va_up_ne _ _ (by omega)]; exact h_273
  have h_293 : w_284 8 = .inl (ac 4, 40, .inr (.inr (.inr (.inr (fun _ => none))))) := by rw [ew_284, va_up_ne _ _ (by omega)]; exact h_274
  have h_294 : w_284 9 = .inl (ac 1, 50, .inr (.inl (fun _ => 0))) := by rw [ew_284, va_up_ne _ _ (by omega)]; exact h_275
  have h_295 : w_284 10 = .inr (1, [.ref (adr_246 11), .int 0]) := by rw [ew_284, va_up_ne _ _ (by omega)]; exact h_276
  have h_296 : w_284 11 = .inl (ac 0, 60, .inl (fun _ => 0)) := by rw [ew_284, va_up_ne _ _ (by omega)]; exact h_277
  have h_297 : w_284 12 = .inr (0, [.ref (adr_246 13)]) := by rw [ew_284, va_up_ne _ _ (by omega)]; exact h_278
  have h_298 : w_284 13 = .inl (ac 0, 81, .inl (fun _ => 0)) := by rw [ew_284, va_up_ne _ _ (by omega)]; exact h_279
  have h_299 : w_284 14 = .inl (ac 3, 60, .inr (.inr (.inr (.inr (fun _ => none))))) := by rw [ew_284, va_up_ne _ _ (by omega)]; exact h_280
  have h_300 : w_284 15 = .inl (ac 3, 4, .inr (.inr (.inr (.inr (fun _ => none))))) := by rw [ew_284, va_up_ne _ _ (by omega)]; exact h_281
  have h_301 : w_284 17 = .inl (ac 0, 60, .inl (fun _ => 0)) := by rw [ew_284, va_up_ne _ _ (by omega)]; exact h_282
  have h_302 : w_284 16 = .inr (1, [.ref (adr_246 17), .int 0]) := by rw [ew_284, va_up_ne _ _ (by omega)]; exact h_283
  refine lv_aload_n hx hb dX7_init_65 rfl (lv_at hl 0 rfl) ?_
  refine m_new (ci := 1) (fs := [.null, .int 0]) (C := RX1) (T := TX1) (n := 2) hx hb hts inX1_ tyX1 tyX1_ok hown (hts _ (by decide +kernel)) (hts _ (by decide +kernel)) (hts _ (by decide +kernel)) hK hM hS hA rfl (by intro j hj; have : j = 0 ∨ j = 1 := (by omega); rcases this with rfl | rfl <;> rfl) (Nat.le_of_ble_eq_true rfl) (Nat.le_of_ble_eq_true rfl) dX7_init_66 (fun adr_303 H he_304 hM hS => ?_)
  obtain ⟨w_305, ew_305⟩ : ∃ z9_, z9_ = va_up w_284 18 (.inr (1, [.null, .int 0])) := ⟨_, rfl⟩
  have hM : MW D A 19 adr_303 w_305 H := by rw [ew_305]; exact hM
  have b_306 := he_304 0 (by omega)
  have b_307 := he_304 2 (by omega)
  have b_308 := he_304 1 (by omega)
  have b_309 := he_304 3 (by omega)
  have b_310 := he_304 4 (by omega)
  have b_311 := he_304 5 (by omega)
  have b_312 := he_304 6 (by omega)
  have b_313 := he_304 7 (by omega)
  have b_314 := he_304 8 (by omega)
  have b_315 := he_304 9 (by omega)
  have b_316 := he_304 10 (by omega)
  have b_317 := he_304 11 (by omega)
  have b_318 := he_304 12 (by omega)
  have b_319 := he_304 13 (by omega)
  have b_320 := he_304 14 (by omega)
  have b_321 := he_304 15 (by omega)
  have b_322 := he_304 17 (by omega)
  have b_323 := he_304 16 (by omega)
  simp only [b_306, b_307, b_308, b_309, b_310, b_311, b_312, b_313, b_314, b_315, b_316, b_317, b_318, b_319, b_320, b_321, b_322, b_323] at hl
  try simp only [b_306, b_307, b_308, b_309, b_310, b_311, b_312, b_313, b_314, b_315, b_316, b_317, b_318, b_319, b_320, b_321, b_322, b_323]
  have h_324 : w_305 0 = .inr (7, [.ref (adr_303 1), .ref (adr_303 3), .ref (adr_303 7), .ref (adr_303 14), .ref (adr_303 15), .ref (adr_303 16), .null, .null, .null, .int 0, .int 0, .int 0, .int 0]) := by rw [ew_305, va_up_ne _ _ (by omega), h_285] <;> simp only [b_306, b_307, b_308, b_309, b_310, b_311, b_312, b_313, b_314, b_315, b_316, b_317, b_318, b_319, b_320, b_321, b_322, b_323]
  have h_325 : w_305 2 = .inl (ac 0, 8, .inl (fun _ => 0)) := by rw [ew_305, va_up_ne _ _ (by omega), h_286]
  have h_326 : w_305 1 = .inr (4, [.ref (adr_303 2), .int 0]) := by rw [ew_305, va_up_ne _ _ (by omega), h_287] <;> simp only [b_306, b_307, b_308, b_309, b_310, b_311, b_312, b_313, b_314, b_315, b_316, b_317, b_318, b_319, b_320, b_321, b_322, b_323]
  have h_327 : w_305 3 = .inr (5, [.ref (adr_303 4), .ref (adr_303 5), .ref (adr_303 6)]) := by rw [ew_305, va_up_ne _ _ (by omega), h_288] <;> simp only [b_306, b_307, b_308, b_309, b_310, b_311, b_312, b_313, b_314, b_315, b_316, b_317, b_318, b_319, b_320, b_321, b_322, b_323]
  have h_328 : w_305 4 = .inl (ac 0, 600, .inl ((mixF 600 (fun _ => -1) (fun _ => 0)))) := by rw [ew_305, va_up_ne _ _ (by omega), h_289]
  have h_329 : w_305 5 = .inl (ac 0, 200, .inl ((mixF 200 (fun _ => -1) (fun _ => 0)))) := by rw [ew_305, va_up_ne _ _ (by omega), h_290]
  have h_330 : w_305 6 = .inl (ac 0, 200, .inl (fun _ => 0)) := by rw [ew_305, va_up_ne _ _ (by omega), h_291]
  have h_331 : w_305 7 = .inr (2, [.ref (adr_303 8), .ref (adr_303 9), .ref (adr_303 10), .ref (adr_303 12), .int 0]) := by rw [ew_305, va_up_ne _ _ (by omega), h_292] <;> simp only [b_306, b_307, b_308, b_309, b_310, b_311, b_312, b_313, b_314, b_315, b_316, b_317, b_318, b_319, b_320, b_321, b_322, b_323]
  have h_332 : w_305 8 = .inl (ac 4, 40, .inr (.inr (.inr (.inr (fun _ => none))))) := by rw [ew_305, va_up_ne _ _ (by omega), h_293]
  have h_333 : w_305 9 = .inl (ac 1, 50, .inr (.inl (fun _ => 0))) := by rw [ew_305, va_up_ne _ _ (by omega), h_294]
  have h_334 : w_305 10 = .inr (1, [.ref (adr_303 11), .int 0]) := by rw [ew_305, va_up_ne _ _ (by omega), h_295] <;> simp only [b_306, b_307, b_308, b_309, b_310, b_311, b_312, b_313, b_314, b_315, b_316, b_317, b_318, b_319, b_320, b_321, b_322, b_323]
  have h_335 : w_305 11 = .inl (ac 0, 60, .inl (fun _ => 0)) := by rw [ew_305, va_up_ne _ _ (by omega), h_296]
  have h_336 : w_305 12 = .inr (0, [.ref (adr_303 13)]) := by rw [ew_305, va_up_ne _ _ (by omega), h_297] <;> simp only [b_306, b_307, b_308, b_309, b_310, b_311, b_312, b_313, b_314, b_315, b_316, b_317, b_318, b_319, b_320, b_321, b_322, b_323]
  have h_337 : w_305 13 = .inl (ac 0, 81, .inl (fun _ => 0)) := by rw [ew_305, va_up_ne _ _ (by omega), h_298]
  have h_338 : w_305 14 = .inl (ac 3, 60, .inr (.inr (.inr (.inr (fun _ => none))))) := by rw [ew_305, va_up_ne _ _ (by omega), h_299]
  have h_339 : w_305 15 = .inl (ac 3, 4, .inr (.inr (.inr (.inr (fun _ => none))))) := by rw [ew_305, va_up_ne _ _ (by omega), h_300]
  have h_340 : w_305 17 = .inl (ac 0, 60, .inl (fun _ => 0)) := by rw [ew_305, va_up_ne _ _ (by omega), h_301]
  have h_341 : w_305 16 = .inr (1, [.ref (adr_303 17), .int 0]) := by rw [ew_305, va_up_ne _ _ (by omega), h_302] <;> simp only [b_306, b_307, b_308, b_309, b_310, b_311, b_312, b_313, b_314, b_315, b_316, b_317, b_318, b_319, b_320, b_321, b_322, b_323]
  have h_342 : w_305 18 = .inr (1, [.null, .int 0]) := by rw [ew_305]; exact va_up_self _ _ _
  refine lv_dup hx hb dX7_init_69 rfl ?_
  refine c_callv (va_runIN (mc := 1) (ms := 60) (As := []) (rest := [.ref (adr_303 18), .ref (adr_303 0)]) ⟨hx, hb, hml, hown, hts⟩ (k_X1_init l D ac _ A (fun q hq => hA q (Nat.le_trans hS.1 hq)) 19 adr_303 w_305 hM 18 (by omega) h_342) ⟨va_cnB (host := RX7) (rm := { frames := 1, cells := 1, slots := 60, locals := 20 }) 0 hts gX7_init_X1_init_n41 rfl rfl rfl (hK.nest 13 rfl) (hts _ (by decide +kernel)) (by decide +kernel) ⟨(Nat.le_of_ble_eq_true rfl), (Nat.le_of_ble_eq_true rfl)⟩, rfl, hts _ (by decide +kernel)⟩ (pS hK) rfl rfl hl.1 rfl (lv_room (Nat.le_of_ble_eq_true rfl)) dX7_init_70 ⟨(Nat.le_of_ble_eq_true rfl), (Nat.le_of_ble_eq_true rfl)⟩) hS (fun adr_343 w_345 H locs hw_345 hM hS => ?_)
  obtain ⟨he_344, hw_345⟩ := hw_345
  have hM : MW D A 20 adr_343 w_345 H := hM
  have b_346 := he_344 0 (by omega)
  have b_347 := he_344 2 (by omega)
  have b_348 := he_344 1 (by omega)
  have b_349 := he_344 3 (by omega)
  have b_350 := he_344 4 (by omega)
  have b_351 := he_344 5 (by omega)
  have b_352 := he_344 6 (by omega)
  have b_353 := he_344 7 (by omega)
  have b_354 := he_344 8 (by omega)
  have b_355 := he_344 9 (by omega)
  have b_356 := he_344 10 (by omega)
  have b_357 := he_344 11 (by omega)
  have b_358 := he_344 12 (by omega)
  have b_359 := he_344 13 (by omega)
  have b_360 := he_344 14 (by omega)
  have b_361 := he_344 15 (by omega)
  have b_362 := he_344 17 (by omega)
  have b_363 := he_344 16 (by omega)
  have b_364 := he_344 18 (by omega)
  simp only [b_346, b_347, b_348, b_349, b_350, b_351, b_352, b_353, b_354, b_355, b_356, b_357, b_358, b_359, b_360, b_361, b_362, b_363, b_364] at hl
  try simp only [b_346, b_347, b_348, b_349, b_350, b_351, b_352, b_353, b_354, b_355, b_356, b_357, b_358, b_359, b_360, b_361, b_362, b_363, b_364]
  have h_365 : w_345 0 = .inr (7, [.ref (adr_343 1), .ref (adr_343 3), .ref (adr_343 7), .ref (adr_343 14), .ref (adr_343 15), .ref (adr_343 16), .null, .null, .null, .int 0, .int 0, .int 0, .int 0]) := by rw [hw_345, va_up_ne _ _ (by omega), va_up_ne _ _ (by omega), h_324] <;> simp only [b_346, b_347, b_348, b_349, b_350, b_351, b_352, b_353, b_354, b_355, b_356, b_357, b_358, b_359, b_360, b_361, b_362, b_363, b_364]
  have h_366 : w_345 2 = .inl (ac 0, 8, .inl (fun _ => 0)) := by rw [hw_345, va_up_ne _ _ (by omega), va_up_ne _ _ (by omega), h_325]
  have h_367 : w_345 1 = .inr (4, [.ref (adr_343 2), .int 0]) := by rw [hw_345, va_up_ne _ _ (by omega), va_up_ne _ _ (by omega), h_326] <;> simp only [b_346, b_347, b_348, b_349, b_350, b_351, b_352, b_353, b_354, b_355, b_356, b_357, b_358, b_359, b_360, b_361, b_362, b_363, b_364]
  have h_368 : w_345 3 = .inr (5, [.ref (adr_343 4), .ref (adr_343 5), .ref (adr_343 6)]) := by rw [hw_345, va_up_ne _ _ (by omega), va_up_ne _ _ (by omega), h_327] <;> simp only [b_346, b_347, b_348, b_349, b_350, b_351, b_352, b_353, b_354, b_355, b_356, b_357, b_358, b_359, b_360, b_361, b_362, b_363, b_364]
  have h_369 : w_345 4 = .inl (ac 0, 600, .inl ((mixF 600 (fun _ => -1) (fun _ => 0)))) := by rw [hw_345, va_up_ne _ _ (by omega), va_up_ne _ _ (by omega), h_328]
  have h_370 : w_345 5 = .inl (ac 0, 200, .inl ((mixF 200 (fun _ => -1) (fun _ => 0)))) := by rw [hw_345, va_up_ne _ _ (by omega), va_up_ne _ _ (by omega), h_329]
  have h_371 : w_345 6 = .inl (ac 0, 200, .inl (fun _ => 0)) := by rw [hw_345, va_up_ne _ _ (by omega), va_up_ne _ _ (by omega), h_330]
  have h_372 : w_345 7 = .inr (2, [.ref (adr_343 8), .ref (adr_343 9), .ref (adr_343 10), .ref (adr_343 12), .int 0]) := by rw [hw_345, va_up_ne _ _ (by omega), va_up_ne _ _ (by omega), h_331] <;> simp only [b_346, b_347, b_348, b_349, b_350, b_351, b_352, b_353, b_354, b_355, b_356, b_357, b_358, b_359, b_360, b_361, b_362, b_363, b_364]
  have h_373 : w_345 8 = .inl (ac 4, 40, .inr (.inr (.inr (.inr (fun _ => none))))) := by rw [hw_345, va_up_ne _ _ (by omega), va_up_ne _ _ (by omega), h_332]
  have h_374 : w_345 9 = .inl (ac 1, 50, .inr (.inl (fun _ => 0))) := by rw [hw_345, va_up_ne _ _ (by omega), va_up_ne _ _ (by omega), h_333]
  have h_375 : w_345 10 = .inr (1, [.ref (adr_343 11), .int 0]) := by rw [hw_345, va_up_ne _ _ (by omega), va_up_ne _ _ (by omega), h_334] <;> simp only [b_346, b_347, b_348, b_349, b_350, b_351, b_352, b_353, b_354, b_355, b_356, b_357, b_358, b_359, b_360, b_361, b_362, b_363, b_364]
  have h_376 : w_345 11 = .inl (ac 0, 60, .inl (fun _ => 0)) := by rw [hw_345, va_up_ne _ _ (by omega), va_up_ne _ _ (by omega), h_335]
  have h_377 : w_345 12 = .inr (0, [.ref (adr_343 13)]) := by rw [hw_345, va_up_ne _ _ (by omega), va_up_ne _ _ (by omega), h_336] <;> simp only [b_346, b_347, b_348, b_349, b_350, b_351, b_352, b_353, b_354, b_355, b_356, b_357, b_358, b_359, b_360, b_361, b_362, b_363, b_364]
  have h_378 : w_345 13 = .inl (ac 0, 81, .inl (fun _ => 0)) := by rw [hw_345, va_up_ne _ _ (by omega), va_up_ne _ _ (by omega), h_337]
  have h_379 : w_345 14 = .inl (ac 3, 60, .inr (.inr (.inr (.inr (fun _ => none))))) := by rw [hw_345, va_up_ne _ _ (by omega), va_up_ne _ _ (by omega), h_338]
  have h_380 : w_345 15 = .inl (ac 3, 4, .inr (.inr (.inr (.inr (fun _ => none))))) := by rw [hw_345, va_up_ne _ _ (by omega), va_up_ne _ _ (by omega), h_339]
  have h_381 : w_345 17 = .inl (ac 0, 60, .inl (fun _ => 0)) := by rw [hw_345, va_up_ne _ _ (by omega), va_up_ne _ _ (by omega), h_340]
  have h_382 : w_345 16 = .inr (1, [.ref (adr_343 17), .int 0]) := by rw [hw_345, va_up_ne _ _ (by omega), va_up_ne _ _ (by omega), h_341] <;> simp only [b_346, b_347, b_348, b_349, b_350, b_351, b_352, b_353, b_354, b_355, b_356, b_357, b_358, b_359, b_360, b_361, b_362, b_363, b_364]
  have h_383 : w_345 19 = .inl (ac 0, 60, .inl (fun _ => 0)) := by rw [hw_345, va_up_ne _ _ (by omega)]; exact va_up_self _ _ _
  have h_384 : w_345 18 = .inr (1, [.ref (adr_343 19), .int 0]) := by rw [hw_345]; exact va_up_self _ _ _
  refine m_putF (ci := 7) (C := RX7) (T := TX7) (n := 13) (v := .ref (adr_343 18)) (ty := tyX7 6) hx hb hts inX7_ tyX7 tyX7_ok nmX7 hown hK hM hS rfl 0 (by omega) h_365 6 (by decide) (hts _ (by decide +kernel)) rfl hin rfl (by decide +kernel) rfl rfl (Nat.le_of_ble_eq_true rfl) dX7_init_73 (fun H locs hM hS => ?_)
  have hM : MW D A 20 adr_343 (va_up w_345 0 (.inr (7, [.ref (adr_343 1), .ref (adr_343 3), .ref (adr_343 7), .ref (adr_343 14), .ref (adr_343 15), .ref (adr_343 16), .ref (adr_343 18), .null, .null, .int 0, .int 0, .int 0, .int 0]))) H := hM
  obtain ⟨w_385, ew_385⟩ : ∃ z9_, z9_ = va_up w_345 0 (.inr (7, [.ref (adr_343 1), .ref (adr_343 3), .ref (adr_343 7), .ref (adr_343 14), .ref (adr_343 15), .ref (adr_343 16), .ref (adr_343 18), .null, .null, .int 0, .int 0, .int 0, .int 0])) := ⟨_, rfl⟩
  rw [← ew_385] at hM
  have h_386 : w_385 0 = .inr (7, [.ref (adr_343 1), .ref (adr_343 3), .ref (adr_343 7), .ref (adr_343 14), .ref (adr_343 15), .ref (adr_343 16), .ref (adr_343 18), .null, .null, .int 0, .int 0, .int 0, .int 0]) := by rw [ew_385]; exact va_up_self _ _ _
  have h_387 : w_385 2 = .inl (ac 0, 8, .inl (fun _ => 0)) := by rw [ew_385, va_up_ne _ _ (by omega)]; exact h_366
  have h_388 : w_385 1 = .inr (4, [.ref (adr_343 2), .int 0]) := by rw [ew_385, va_up_ne _ _ (by omega)]; exact h_367
  have h_389 : w_385 3 = .inr (5, [.ref (adr_343 4), .ref (adr_343 5), .ref (adr_343 6)]) := by rw [ew_385, va_up_ne _ _ (by omega)]; exact h_368
  have h_390 : w_385 4 = .inl (ac 0, 600, .inl ((mixF 600 (fun _ => -1) (fun _ => 0)))) := by rw [ew_385, va_up_ne _ _ (by omega)]; exact h_369
  have h_391 : w_385 5 = .inl (ac 0, 200, .inl ((mixF 200 (fun _ => -1) (fun _ => 0)))) := by rw [ew_385, va_up_ne _ _ (by omega)]; exact h_370
  have h_392 : w_385 6 = .inl (ac 0, 200, .inl (fun _ => 0)) := by rw [ew_385, va_up_ne _ _ (by omega)]; exact h_371
  have h_393 : w_385 7 = .inr (2, [.ref (adr_343 8), .ref (adr_343 9), .ref (adr_343 10), .ref (adr_343 12), .int 0]) := by rw [ew_385, va_up_ne _ _ (by omega)]; exact h_372
  have h_394 : w_385 8 = .inl (ac 4, 40, .inr (.inr (.inr (.inr (fun _ => none))))) := by rw [ew_385, va_up_ne _ _ (by omega)]; exact h_373
  have h_395 : w_385 9 = .inl (ac 1, 50, .inr (.inl (fun _ => 0))) := by rw [ew_385, va_up_ne _ _ (by omega)]; exact h_374
  have h_396 : w_385 10 = .inr (1, [.ref (adr_343 11), .int 0]) := by rw [ew_385, va_up_ne _ _ (by omega)]; exact h_375
  have h_397 : w_385 11 = .inl (ac 0, 60, .inl (fun _ => 0)) := by rw [ew_385, va_up_ne _ _ (by omega)]; exact h_376
  have h_398 : w_385 12 = .inr (0, [.ref (adr_343 13)]) := by rw [ew_385, va_up_ne _ _ (by omega)]; exact h_377
  have h_399 : w_385 13 = .inl (ac 0, 81, .inl (fun _ => 0)) := by rw [ew_385, va_up_ne _ _ (by omega)]; exact h_378
  have h_400 : w_385 14 = .inl (ac 3, 60, .inr (.inr (.inr (.inr (fun _ => none))))) := by rw [ew_385, va_up_ne _ _ (by omega)]; exact h_379
  have h_401 : w_385 15 = .inl (ac 3, 4, .inr (.inr (.inr (.inr (fun _ => none))))) := by rw [ew_385, va_up_ne _ _ (by omega)]; exact h_380
  have h_402 : w_385 17 = .inl (ac 0, 60, .inl (fun _ => 0)) := by rw [ew_385, va_up_ne _ _ (by omega)]; exact h_381
  have h_403 : w_385 16 = .inr (1, [.ref (adr_343 17), .int 0]) := by rw [ew_385, va_up_ne _ _ (by omega)]; exact h_382
  have h_404 : w_385 19 = .inl (ac 0, 60, .inl (fun _ => 0)) := by rw [ew_385, va_up_ne _ _ (by omega)]; exact h_383
  have h_405 : w_385 18 = .inr (1, [.ref (adr_343 19), .int 0]) := by rw [ew_385, va_up_ne _ _ (by omega)]; exact h_384
  refine lv_aload_n hx hb dX7_init_76 rfl (lv_at hl 0 rfl) ?_
  refine lv_iconst (v := 4) hx hb dX7_init_77 (by decide) ?_
  refine m_newa (atype := .int) (ty := .int) (a0 := (4, .inl (fun _ => 0))) (N' := 4) hx hb (hts _ (by decide +kernel)) hK hM hS hA 0 rfl rfl (fun _ => rfl) (by decide) (by decide) (by decide) (Nat.le_of_ble_eq_true rfl) (Nat.le_of_ble_eq_true rfl) dX7_init_78 (fun adr_406 H he_407 hM hS => ?_)
  obtain ⟨w_408, ew_408⟩ : ∃ z9_, z9_ = va_up w_385 20 (.inl (ac 0, 4, .inl (fun _ => 0))) := ⟨_, rfl⟩
  have hM : MW D A 21 adr_406 w_408 H := by rw [ew_408]; exact hM
  have b_409 := he_407 0 (by omega)
  have b_410 := he_407 2 (by omega)
  have b_411 := he_407 1 (by omega)
  have b_412 := he_407 3 (by omega)
  have b_413 := he_407 4 (by omega)
  have b_414 := he_407 5 (by omega)
  have b_415 := he_407 6 (by omega)
  have b_416 := he_407 7 (by omega)
  have b_417 := he_407 8 (by omega)
  have b_418 := he_407 9 (by omega)
  have b_419 := he_407 10 (by omega)
  have b_420 := he_407 11 (by omega)
  have b_421 := he_407 12 (by omega)
  have b_422 := he_407 13 (by omega)
  have b_423 := he_407 14 (by omega)
  have b_424 := he_407 15 (by omega)
  have b_425 := he_407 17 (by omega)
  have b_426 := he_407 16 (by omega)
  have b_427 := he_407 19 (by omega)
  have b_428 := he_407 18 (by omega)
  simp only [b_409, b_410, b_411, b_412, b_413, b_414, b_415, b_416, b_417, b_418, b_419, b_420, b_421, b_422, b_423, b_424, b_425, b_426, b_427, b_428] at hl
  try simp only [b_409, b_410, b_411, b_412, b_413, b_414, b_415, b_416, b_417, b_418, b_419, b_420, b_421, b_422, b_423, b_424, b_425, b_426, b_427, b_428]
  have h_429 : w_408 0 = .inr (7, [.ref (adr_406 1), .ref (adr_406 3), .ref (adr_406 7), .ref (adr_406 14), .ref (adr_406 15), .ref (adr_406 16), .ref (adr_406 18), .null, .null, .int 0, .int 0, .int 0, .int 0]) := by rw [ew_408, va_up_ne _ _ (by omega), h_386] <;> simp only [b_409, b_410, b_411, b_412, b_413, b_414, b_415, b_416, b_417, b_418, b_419, b_420, b_421, b_422, b_423, b_424, b_425, b_426, b_427, b_428]
  have h_430 : w_408 2 = .inl (ac 0, 8, .inl (fun _ => 0)) := by rw [ew_408, va_up_ne _ _ (by omega), h_387]
  have h_431 : w_408 1 = .inr (4, [.ref (adr_406 2), .int 0]) := by rw [ew_408, va_up_ne _ _ (by omega), h_388] <;> simp only [b_409, b_410, b_411, b_412, b_413, b_414, b_415, b_416, b_417, b_418, b_419, b_420, b_421, b_422, b_423, b_424, b_425, b_426, b_427, b_428]
  have h_432 : w_408 3 = .inr (5, [.ref (adr_406 4), .ref (adr_406 5), .ref (adr_406 6)]) := by rw [ew_408, va_up_ne _ _ (by omega), h_389] <;> simp only [b_409, b_410, b_411, b_412, b_413, b_414, b_415, b_416, b_417, b_418, b_419, b_420, b_421, b_422, b_423, b_424, b_425, b_426, b_427, b_428]
  have h_433 : w_408 4 = .inl (ac 0, 600, .inl ((mixF 600 (fun _ => -1) (fun _ => 0)))) := by rw [ew_408, va_up_ne _ _ (by omega), h_390]
  have h_434 : w_408 5 = .inl (ac 0, 200, .inl ((mixF 200 (fun _ => -1) (fun _ => 0)))) := by rw [ew_408, va_up_ne _ _ (by omega), h_391]
  have h_435 : w_408 6 = .inl (ac 0, 200, .inl (fun _ => 0)) := by rw [ew_408, va_up_ne _ _ (by omega), h_392]
  have h_436 : w_408 7 = .inr (2, [.ref (adr_406 8), .ref (adr_406 9), .ref (adr_406 10), .ref (adr_406 12), .int 0]) := by rw [ew_408, va_up_ne _ _ (by omega), h_393] <;> simp only [b_409, b_410, b_411, b_412, b_413, b_414, b_415, b_416, b_417, b_418, b_419, b_420, b_421, b_422, b_423, b_424, b_425, b_426, b_427, b_428]
  have h_437 : w_408 8 = .inl (ac 4, 40, .inr (.inr (.inr (.inr (fun _ => none))))) := by rw [ew_408, va_up_ne _ _ (by omega), h_394]
  have h_438 : w_408 9 = .inl (ac 1, 50, .inr (.inl (fun _ => 0))) := by rw [ew_408, va_up_ne _ _ (by omega), h_395]
  have h_439 : w_408 10 = .inr (1, [.ref (adr_406 11), .int 0]) := by rw [ew_408, va_up_ne _ _ (by omega), h_396] <;> simp only [b_409, b_410, b_411, b_412, b_413, b_414, b_415, b_416, b_417, b_418, b_419, b_420, b_421, b_422, b_423, b_424, b_425, b_426, b_427, b_428]
  have h_440 : w_408 11 = .inl (ac 0, 60, .inl (fun _ => 0)) := by rw [ew_408, va_up_ne _ _ (by omega), h_397]
  have h_441 : w_408 12 = .inr (0, [.ref (adr_406 13)]) := by rw [ew_408, va_up_ne _ _ (by omega), h_398] <;> simp only [b_409, b_410, b_411, b_412, b_413, b_414, b_415, b_416, b_417, b_418, b_419, b_420, b_421, b_422, b_423, b_424, b_425, b_426, b_427, b_428]
  have h_442 : w_408 13 = .inl (ac 0, 81, .inl (fun _ => 0)) := by rw [ew_408, va_up_ne _ _ (by omega), h_399]
  have h_443 : w_408 14 = .inl (ac 3, 60, .inr (.inr (.inr (.inr (fun _ => none))))) := by rw [ew_408, va_up_ne _ _ (by omega), h_400]
  have h_444 : w_408 15 = .inl (ac 3, 4, .inr (.inr (.inr (.inr (fun _ => none))))) := by rw [ew_408, va_up_ne _ _ (by omega), h_401]
  have h_445 : w_408 17 = .inl (ac 0, 60, .inl (fun _ => 0)) := by rw [ew_408, va_up_ne _ _ (by omega), h_402]
  have h_446 : w_408 16 = .inr (1, [.ref (adr_406 17), .int 0]) := by rw [ew_408, va_up_ne _ _ (by omega), h_403] <;> simp only [b_409, b_410, b_411, b_412, b_413, b_414, b_415, b_416, b_417, b_418, b_419, b_420, b_421, b_422, b_423, b_424, b_425, b_426, b_427, b_428]
  have h_447 : w_408 19 = .inl (ac 0, 60, .inl (fun _ => 0)) := by rw [ew_408, va_up_ne _ _ (by omega), h_404]
  have h_448 : w_408 18 = .inr (1, [.ref (adr_406 19), .int 0]) := by rw [ew_408, va_up_ne _ _ (by omega), h_405] <;> simp only [b_409, b_410, b_411, b_412, b_413, b_414, b_415, b_416, b_417, b_418, b_419, b_420, b_421, b_422, b_423, b_424, b_425, b_426, b_427, b_428]
  have h_449 : w_408 20 = .inl (ac 0, 4, .inl (fun _ => 0)) := by rw [ew_408]; exact va_up_self _ _ _
  refine m_putF (ci := 7) (C := RX7) (T := TX7) (n := 13) (v := .ref (adr_406 20)) (ty := tyX7 7) hx hb hts inX7_ tyX7 tyX7_ok nmX7 hown hK hM hS rfl 0 (by omega) h_429 7 (by decide) (hts _ (by decide +kernel)) rfl hin rfl (by decide +kernel) rfl rfl (Nat.le_of_ble_eq_true rfl) dX7_init_80 (fun H locs hM hS => ?_)
  have hM : MW D A 21 adr_406 (va_up w_408 0 (.inr (7, [.ref (adr_406 1), .ref (adr_406 3), .ref (adr_406 7), .ref (adr_406 14), .ref (adr_406 15), .ref (adr_406 16), .ref (adr_406 18), .ref (adr_406 20), .null, .int 0, .int 0, .int 0, .int 0]))) H := hM
  obtain ⟨w_450, ew_450⟩ : ∃ z9_, z9_ = va_up w_408 0 (.inr (7, [.ref (adr_406 1), .ref (adr_406 3), .ref (adr_406 7), .ref (adr_406 14), .ref (adr_406 15), .ref (adr_406 16), .ref (adr_406 18), .ref (adr_406 20), .null, .int 0, .int 0, .int 0, .int 0])) := ⟨_, rfl⟩
  rw [← ew_450] at hM
  have h_451 : w_450 0 = .inr (7, [.ref (adr_406 1), .ref (adr_406 3), .ref (adr_406 7), .ref (adr_406 14), .ref (adr_406 15), .ref (adr_406 16), .ref (adr_406 18), .ref (adr_406 20), .null, .int 0, .int 0, .int 0, .int 0]) := by rw [ew_450]; exact va_up_self _ _ _
  have h_452 : w_450 2 = .inl (ac 0, 8, .inl (fun _ => 0)) := by rw [ew_450, va_up_ne _ _ (by omega)]; exact h_430
  have h_453 : w_450 1 = .inr (4, [.ref (adr_406 2), .int 0]) := by rw [ew_450, va_up_ne _ _ (by omega)]; exact h_431
  have h_454 : w_450 3 = .inr (5, [.ref (adr_406 4), .ref (adr_406 5), .ref (adr_406 6)]) := by rw [ew_450, va_up_ne _ _ (by omega)]; exact h_432
  have h_455 : w_450 4 = .inl (ac 0, 600, .inl ((mixF 600 (fun _ => -1) (fun _ => 0)))) := by rw [ew_450, va_up_ne _ _ (by omega)]; exact h_433
  have h_456 : w_450 5 = .inl (ac 0, 200, .inl ((mixF 200 (fun _ => -1) (fun _ => 0)))) := by rw [ew_450, va_up_ne _ _ (by omega)]; exact h_434
  have h_457 : w_450 6 = .inl (ac 0, 200, .inl (fun _ => 0)) := by rw [ew_450, va_up_ne _ _ (by omega)]; exact h_435
  have h_458 : w_450 7 = .inr (2, [.ref (adr_406 8), .ref (adr_406 9), .ref (adr_406 10), .ref (adr_406 12), .int 0]) := by rw [ew_450, va_up_ne _ _ (by omega)]; exact h_436
  have h_459 : w_450 8 = .inl (ac 4, 40, .inr (.inr (.inr (.inr (fun _ => none))))) := by rw [ew_450, va_up_ne _ _ (by omega)]; exact h_437
  have h_460 : w_450 9 = .inl (ac 1, 50, .inr (.inl (fun _ => 0))) := by rw [ew_450, va_up_ne _ _ (by omega)]; exact h_438
  have h_461 : w_450 10 = .inr (1, [.ref (adr_406 11), .int 0]) := by rw [ew_450, va_up_ne _ _ (by omega)]; exact h_439
  have h_462 : w_450 11 = .inl (ac 0, 60, .inl (fun _ => 0)) := by rw [ew_450, va_up_ne _ _ (by omega)]; exact h_440
  have h_463 : w_450 12 = .inr (0, [.ref (adr_406 13)]) := by rw [ew_450, va_up_ne _ _ (by omega)]; exact h_441
  have h_464 : w_450 13 = .inl (ac 0, 81, .inl (fun _ => 0)) := by rw [ew_450, va_up_ne _ _ (by omega)]; exact h_442
  have h_465 : w_450 14 = .inl (ac 3, 60, .inr (.inr (.inr (.inr (fun _ => none))))) := by rw [ew_450, va_up_ne _ _ (by omega)]; exact h_443
  have h_466 : w_450 15 = .inl (ac 3, 4, .inr (.inr (.inr (.inr (fun _ => none))))) := by rw [ew_450, va_up_ne _ _ (by omega)]; exact h_444
  have h_467 : w_450 17 = .inl (ac 0, 60, .inl (fun _ => 0)) := by rw [ew_450, va_up_ne _ _ (by omega)]; exact h_445
  have h_468 : w_450 16 = .inr (1, [.ref (adr_406 17), .int 0]) := by rw [ew_450, va_up_ne _ _ (by omega)]; exact h_446
  have h_469 : w_450 19 = .inl (ac 0, 60, .inl (fun _ => 0)) := by rw [ew_450, va_up_ne _ _ (by omega)]; exact h_447
  have h_470 : w_450 18 = .inr (1, [.ref (adr_406 19), .int 0]) := by rw [ew_450, va_up_ne _ _ (by omega)]; exact h_448
  have h_471 : w_450 20 = .inl (ac 0, 4, .inl (fun _ => 0)) := by rw [ew_450, va_up_ne _ _ (by omega)]; exact h_449
  refine lv_aload_n hx hb dX7_init_83 rfl (lv_at hl 0 rfl) ?_
  refine lv_iconst (v := 4) hx hb dX7_init_84 (by decide) ?_
  refine m_newa (atype := .int) (ty := .int) (a0 := (4, .inl (fun _ => 0))) (N' := 4) hx hb (hts _ (by decide +kernel)) hK hM hS hA 0 rfl rfl (fun _ => rfl) (by decide) (by decide) (by decide) (Nat.le_of_ble_eq_true rfl) (Nat.le_of_ble_eq_true rfl) dX7_init_85 (fun adr_472 H he_473 hM hS => ?_)
  obtain ⟨w_474, ew_474⟩ : ∃ z9_, z9_ = va_up w_450 21 (.inl (ac 0, 4, .inl (fun _ => 0))) := ⟨_, rfl⟩
  have hM : MW D A 22 adr_472 w_474 H := by rw [ew_474]; exact hM
  have b_475 := he_473 0 (by omega)
  have b_476 := he_473 2 (by omega)
  have b_477 := he_473 1 (by omega)
  have b_478 := he_473 3 (by omega)
  have b_479 := he_473 4 (by omega)
  have b_480 := he_473 5 (by omega)
  have b_481 := he_473 6 (by omega)
  have b_482 := he_473 7 (by omega)
  have b_483 := he_473 8 (by omega)
  have b_484 := he_473 9 (by omega)
  have b_485 := he_473 10 (by omega)
  have b_486 := he_473 11 (by omega)
  have b_487 := he_473 12 (by omega)
  have b_488 := he_473 13 (by omega)
  have b_489 := he_473 14 (by omega)
  have b_490 := he_473 15 (by omega)
  have b_491 := he_473 17 (by omega)
  have b_492 := he_473 16 (by omega)
  have b_493 := he_473 19 (by omega)
  have b_494 := he_473 18 (by omega)
  have b_495 := he_473 20 (by omega)
  simp only [b_475, b_476, b_477, b_478, b_479, b_480, b_481, b_482, b_483, b_484, b_485, b_486, b_487, b_488, b_489, b_490, b_491, b_492, b_493, b_494, b_495] at hl
  try simp only [b_475, b_476, b_477, b_478, b_479, b_480, b_481, b_482, b_483, b_484, b_485, b_486, b_487, b_488, b_489, b_490, b_491, b_492, b_493, b_494, b_495]
  have h_496 : w_474 0 = .inr (7, [.ref (adr_472 1), .ref (adr_472 3), .ref (adr_472 7), .ref (adr_472 14), .ref (adr_472 15), .ref (adr_472 16), .ref (adr_472 18), .ref (adr_472 20), .null, .int 0, .int 0, .int 0, .int 0]) := by rw [ew_474, va_up_ne _ _ (by omega), h_451] <;> simp only [b_475, b_476, b_477, b_478, b_479, b_480, b_481, b_482, b_483, b_484, b_485, b_486, b_487, b_488, b_489, b_490, b_491, b_492, b_493, b_494, b_495]
  have h_497 : w_474 2 = .inl (ac 0, 8, .inl (fun _ => 0)) := by rw [ew_474, va_up_ne _ _ (by omega), h_452]
  have h_498 : w_474 1 = .inr (4, [.ref (adr_472 2), .int 0]) := by rw [ew_474, va_up_ne _ _ (by omega), h_453] <;> simp only [b_475, b_476, b_477, b_478, b_479, b_480, b_481, b_482, b_483, b_484, b_485, b_486, b_487, b_488, b_489, b_490, b_491, b_492, b_493, b_494, b_495]
  have h_499 : w_474 3 = .inr (5, [.ref (adr_472 4), .ref (adr_472 5), .ref (adr_472 6)]) := by rw [ew_474, va_up_ne _ _ (by omega), h_454] <;> simp only [b_475, b_476, b_477, b_478, b_479, b_480, b_481, b_482, b_483, b_484, b_485, b_486, b_487, b_488, b_489, b_490, b_491, b_492, b_493, b_494, b_495]
  have h_500 : w_474 4 = .inl (ac 0, 600, .inl ((mixF 600 (fun _ => -1) (fun _ => 0)))) := by rw [ew_474, va_up_ne _ _ (by omega), h_455]
  have h_501 : w_474 5 = .inl (ac 0, 200, .inl ((mixF 200 (fun _ => -1) (fun _ => 0)))) := by rw [ew_474, va_up_ne _ _ (by omega), h_456]
  have h_502 : w_474 6 = .inl (ac 0, 200, .inl (fun _ => 0)) := by rw [ew_474, va_up_ne _ _ (by omega), h_457]
  have h_503 : w_474 7 = .inr (2, [.ref (adr_472 8), .ref (adr_472 9), .ref (adr_472 10), .ref (adr_472 12), .int 0]) := by rw [ew_474, va_up_ne _ _ (by omega), h_458] <;> simp only [b_475, b_476, b_477, b_478, b_479, b_480, b_481, b_482, b_483, b_484, b_485, b_486, b_487, b_488, b_489, b_490, b_491, b_492, b_493, b_494, b_495]
  have h_504 : w_474 8 = .inl (ac 4, 40, .inr (.inr (.inr (.inr (fun _ => none))))) := by rw [ew_474, va_up_ne _ _ (by omega), h_459]
  have h_505 : w_474 9 = .inl (ac 1, 50, .inr (.inl (fun _ => 0))) := by rw [ew_474, va_up_ne _ _ (by omega), h_460]
  have h_506 : w_474 10 = .inr (1, [.ref (adr_472 11), .int 0]) := by rw [ew_474, va_up_ne _ _ (by omega), h_461] <;> simp only [b_475, b_476, b_477, b_478, b_479, b_480, b_481, b_482, b_483, b_484, b_485, b_486, b_487, b_488, b_489, b_490, b_491, b_492, b_493, b_494, b_495]
  have h_507 : w_474 11 = .inl (ac 0, 60, .inl (fun _ => 0)) := by rw [ew_474, va_up_ne _ _ (by omega), h_462]
  have h_508 : w_474 12 = .inr (0, [.ref (adr_472 13)]) := by rw [ew_474, va_up_ne _ _ (by omega), h_463] <;> simp only [b_475, b_476, b_477, b_478, b_479, b_480, b_481, b_482, b_483, b_484, b_485, b_486, b_487, b_488, b_489, b_490, b_491, b_492, b_493, b_494, b_495]
  have h_509 : w_474 13 = .inl (ac 0, 81, .inl (fun _ => 0)) := by rw [ew_474, va_up_ne _ _ (by omega), h_464]
  have h_510 : w_474 14 = .inl (ac 3, 60, .inr (.inr (.inr (.inr (fun _ => none))))) := by rw [ew_474, va_up_ne _ _ (by omega), h_465]
  have h_511 : w_474 15 = .inl (ac 3, 4, .inr (.inr (.inr (.inr (fun _ => none))))) := by rw [ew_474, va_up_ne _ _ (by omega), h_466]
  have h_512 : w_474 17 = .inl (ac 0, 60, .inl (fun _ => 0)) := by rw [ew_474, va_up_ne _ _ (by omega), h_467]
  have h_513 : w_474 16 = .inr (1, [.ref (adr_472 17), .int 0]) := by rw [ew_474, va_up_ne _ _ (by omega), h_468] <;> simp only [b_475, b_476, b_477, b_478, b_479, b_480, b_481, b_482, b_483, b_484, b_485, b_486, b_487, b_488, b_489, b_490, b_491, b_492, b_493, b_494, b_495]
  have h_514 : w_474 19 = .inl (ac 0, 60, .inl (fun _ => 0)) := by rw [ew_474, va_up_ne _ _ (by omega), h_469]
  have h_515 : w_474 18 = .inr (1, [.ref (adr_472 19), .int 0]) := by rw [ew_474, va_up_ne _ _ (by omega), h_470] <;> simp only [b_475, b_476, b_477, b_478, b_479, b_480, b_481, b_482, b_483, b_484, b_485, b_486, b_487, b_488, b_489, b_490, b_491, b_492, b_493, b_494, b_495]
  have h_516 : w_474 20 = .inl (ac 0, 4, .inl (fun _ => 0)) := by rw [ew_474, va_up_ne _ _ (by omega), h_471]
  have h_517 : w_474 21 = .inl (ac 0, 4, .inl (fun _ => 0)) := by rw [ew_474]; exact va_up_self _ _ _
  refine m_putF (ci := 7) (C := RX7) (T := TX7) (n := 13) (v := .ref (adr_472 21)) (ty := tyX7 8) hx hb hts inX7_ tyX7 tyX7_ok nmX7 hown hK hM hS rfl 0 (by omega) h_496 8 (by decide) (hts _ (by decide +kernel)) rfl hin rfl (by decide +kernel) rfl rfl (Nat.le_of_ble_eq_true rfl) dX7_init_87 (fun H locs hM hS => ?_)
  have hM : MW D A 22 adr_472 (va_up w_474 0 (.inr (7, [.ref (adr_472 1), .ref (adr_472 3), .ref (adr_472 7), .ref (adr_472 14), .ref (adr_472 15), .ref (adr_472 16), .ref (adr_472 18), .ref (adr_472 20), .ref (adr_472 21), .int 0, .int 0, .int 0, .int 0]))) H := hM
  obtain ⟨w_518, ew_518⟩ : ∃ z9_, z9_ = va_up w_474 0 (.inr (7, [.ref (adr_472 1), .ref (adr_472 3), .ref (adr_472 7), .ref (adr_472 14), .ref (adr_472 15), .ref (adr_472 16), .ref (adr_472 18), .ref (adr_472 20), .ref (adr_472 21), .int 0, .int 0, .int 0, .int 0])) := ⟨_, rfl⟩
  rw [← ew_518] at hM
  have h_519 : w_518 0 = .inr (7, [.ref (adr_472 1), .ref (adr_472 3), .ref (adr_472 7), .ref (adr_472 14), .ref (adr_472 15), .ref (adr_472 16), .ref (adr_472 18), .ref (adr_472 20), .ref (adr_472 21), .int 0, .int 0, .int 0, .int 0]) := by rw [ew_518]; exact va_up_self _ _ _
  have h_520 : w_518 2 = .inl (ac 0, 8, .inl (fun _ => 0)) := by rw [ew_518, va_up_ne _ _ (by omega)]; exact h_497
  have h_521 : w_518 1 = .inr (4, [.ref (adr_472 2), .int 0]) := by rw [ew_518, va_up_ne _ _ (by omega)]; exact h_498
  have h_522 : w_518 3 = .inr (5, [.ref (adr_472 4), .ref (adr_472 5), .ref (adr_472 6)]) := by rw [ew_518, va_up_ne _ _ (by omega)]; exact h_499
  have h_523 : w_518 4 = .inl (ac 0, 600, .inl ((mixF 600 (fun _ => -1) (fun _ => 0)))) := by rw [ew_518, va_up_ne _ _ (by omega)]; exact h_500
  have h_524 : w_518 5 = .inl (ac 0, 200, .inl ((mixF 200 (fun _ => -1) (fun _ => 0)))) := by rw [ew_518, va_up_ne _ _ (by omega)]; exact h_501
  have h_525 : w_518 6 = .inl (ac 0, 200, .inl (fun _ => 0)) := by rw [ew_518, va_up_ne _ _ (by omega)]; exact h_502
  have h_526 : w_518 7 = .inr (2, [.ref (adr_472 8), .ref (adr_472 9), .ref (adr_472 10), .ref (adr_472 12), .int 0]) := by rw [ew_518, va_up_ne _ _ (by omega)]; exact h_503
  have h_527 : w_518 8 = .inl (ac 4, 40, .inr (.inr (.inr (.inr (fun _ => none))))) := by rw [ew_518, va_up_ne _ _ (by omega)]; exact h_504
  have h_528 : w_518 9 = .inl (ac 1, 50, .inr (.inl (fun _ => 0))) := by rw [ew_518, va_up_ne _ _ (by omega)]; exact h_505
  have h_529 : w_518 10 = .inr (1, [.ref (adr_472 11), .int 0]) := by rw [ew_518, va_up_ne _ _ (by omega)]; exact h_506
  have h_530 : w_518 11 = .inl (ac 0, 60, .inl (fun _ => 0)) := by rw [ew_518, va_up_ne _ _ (by omega)]; exact h_507
  have h_531 : w_518 12 = .inr (0, [.ref (adr_472 13)]) := by rw [ew_518, va_up_ne _ _ (by omega)]; exact h_508
  have h_532 : w_518 13 = .inl (ac 0, 81, .inl (fun _ => 0)) := by rw [ew_518, va_up_ne _ _ (by omega)]; exact h_509
  have h_533 : w_518 14 = .inl (ac 3, 60, .inr (.inr (.inr (.inr (fun _ => none))))) := by rw [ew_518, va_up_ne _ _ (by omega)]; exact h_510
  have h_534 : w_518 15 = .inl (ac 3, 4, .inr (.inr (.inr (.inr (fun _ => none))))) := by rw [ew_518, va_up_ne _ _ (by omega)]; exact h_511
  have h_535 : w_518 17 = .inl (ac 0, 60, .inl (fun _ => 0)) := by rw [ew_518, va_up_ne _ _ (by omega)]; exact h_512
  have h_536 : w_518 16 = .inr (1, [.ref (adr_472 17), .int 0]) := by rw [ew_518, va_up_ne _ _ (by omega)]; exact h_513
  have h_537 : w_518 19 = .inl (ac 0, 60, .inl (fun _ => 0)) := by rw [ew_518, va_up_ne _ _ (by omega)]; exact h_514
  have h_538 : w_518 18 = .inr (1, [.ref (adr_472 19), .int 0]) := by rw [ew_518, va_up_ne _ _ (by omega)]; exact h_515
  have h_539 : w_518 20 = .inl (ac 0, 4, .inl (fun _ => 0)) := by rw [ew_518, va_up_ne _ _ (by omega)]; exact h_516
  have h_540 : w_518 21 = .inl (ac 0, 4, .inl (fun _ => 0)) := by rw [ew_518, va_up_ne _ _ (by omega)]; exact h_517
  refine lv_aload_n hx hb dX7_init_90 rfl (lv_at hl 0 rfl) ?_
  refine lv_iconst (v := 0) hx hb dX7_init_91 (by decide) ?_
  refine m_put (ci := 7) (C := RX7) (T := TX7) (n := 13) (v := .int 0) (ty := tyX7 9) hx hb hts inX7_ tyX7 tyX7_ok nmX7 hown hK hM hS rfl 0 (by omega) h_519 9 (by decide) (hts _ (by decide +kernel)) rfl (by decide +kernel) rfl rfl (Nat.le_of_ble_eq_true rfl) dX7_init_92 (fun H locs hM hS => ?_)
  have hM : MW D A 22 adr_472 (va_up w_518 0 (.inr (7, [.ref (adr_472 1), .ref (adr_472 3), .ref (adr_472 7), .ref (adr_472 14), .ref (adr_472 15), .ref (adr_472 16), .ref (adr_472 18), .ref (adr_472 20), .ref (adr_472 21), .int 0, .int 0, .int 0, .int 0]))) H := hM
  obtain ⟨w_541, ew_541⟩ : ∃ z9_, z9_ = va_up w_518 0 (.inr (7, [.ref (adr_472 1), .ref (adr_472 3), .ref (adr_472 7), .ref (adr_472 14), .ref (adr_472 15), .ref (adr_472 16), .ref (adr_472 18), .ref (adr_472 20), .ref (adr_472 21), .int 0, .int 0, .int 0, .int 0])) := ⟨_, rfl⟩
  rw [← ew_541] at hM
  have h_542 : w_541 0 = .inr (7, [.ref (adr_472 1), .ref (adr_472 3), .ref (adr_472 7), .ref (adr_472 14), .ref (adr_472 15), .ref (adr_472 16), .ref (adr_472 18), .ref (adr_472 20), .ref (adr_472 21), .int 0, .int 0, .int 0, .int 0]) := by rw [ew_541]; exact va_up_self _ _ _
  have h_543 : w_541 2 = .inl (ac 0, 8, .inl (fun _ => 0)) := by rw [ew_541, va_up_ne _ _ (by omega)]; exact h_520
  have h_544 : w_541 1 = .inr (4, [.ref (adr_472 2), .int 0]) := by rw [ew_541, va_up_ne _ _ (by omega)]; exact h_521
  have h_545 : w_541 3 = .inr (5, [.ref (adr_472 4), .ref (adr_472 5), .ref (adr_472 6)]) := by rw [ew_541, va_up_ne _ _ (by omega)]; exact h_522
  have h_546 : w_541 4 = .inl (ac 0, 600, .inl ((mixF 600 (fun _ => -1) (fun _ => 0)))) := by rw [ew_541, va_up_ne _ _ (by omega)]; exact h_523
  have h_547 : w_541 5 = .inl (ac 0, 200, .inl ((mixF 200 (fun _ => -1) (fun _ => 0)))) := by rw [ew_541, va_up_ne _ _ (by omega)]; exact h_524
  have h_548 : w_541 6 = .inl (ac 0, 200, .inl (fun _ => 0)) := by rw [ew_541, va_up_ne _ _ (by omega)]; exact h_525
  have h_549 : w_541 7 = .inr (2, [.ref (adr_472 8), .ref (adr_472 9), .ref (adr_472 10), .ref (adr_472 12), .int 0]) := by rw [ew_541, va_up_ne _ _ (by omega)]; exact h_526
  have h_550 : w_541 8 = .inl (ac 4, 40, .inr (.inr (.inr (.inr (fun _ => none))))) := by rw [ew_541, va_up_ne _ _ (by omega)]; exact h_527
  have h_551 : w_541 9 = .inl (ac 1, 50, .inr (.inl (fun _ => 0))) := by rw [ew_541, va_up_ne _ _ (by omega)]; exact h_528
  have h_552 : w_541 10 = .inr (1, [.ref (adr_472 11), .int 0]) := by rw [ew_541, va_up_ne _ _ (by omega)]; exact h_529
  have h_553 : w_541 11 = .inl (ac 0, 60, .inl (fun _ => 0)) := by rw [ew_541, va_up_ne _ _ (by omega)]; exact h_530
  have h_554 : w_541 12 = .inr (0, [.ref (adr_472 13)]) := by rw [ew_541, va_up_ne _ _ (by omega)]; exact h_531
  have h_555 : w_541 13 = .inl (ac 0, 81, .inl (fun _ => 0)) := by rw [ew_541, va_up_ne _ _ (by omega)]; exact h_532
  have h_556 : w_541 14 = .inl (ac 3, 60, .inr (.inr (.inr (.inr (fun _ => none))))) := by rw [ew_541, va_up_ne _ _ (by omega)]; exact h_533
  have h_557 : w_541 15 = .inl (ac 3, 4, .inr (.inr (.inr (.inr (fun _ => none))))) := by rw [ew_541, va_up_ne _ _ (by omega)]; exact h_534
  have h_558 : w_541 17 = .inl (ac 0, 60, .inl (fun _ => 0)) := by rw [ew_541, va_up_ne _ _ (by omega)]; exact h_535
  have h_559 : w_541 16 = .inr (1, [.ref (adr_472 17), .int 0]) := by rw [ew_541, va_up_ne _ _ (by omega)]; exact h_536
  have h_560 : w_541 19 = .inl (ac 0, 60, .inl (fun _ => 0)) := by rw [ew_541, va_up_ne _ _ (by omega)]; exact h_537
  have h_561 : w_541 18 = .inr (1, [.ref (adr_472 19), .int 0]) := by rw [ew_541, va_up_ne _ _ (by omega)]; exact h_538
  have h_562 : w_541 20 = .inl (ac 0, 4, .inl (fun _ => 0)) := by rw [ew_541, va_up_ne _ _ (by omega)]; exact h_539
  have h_563 : w_541 21 = .inl (ac 0, 4, .inl (fun _ => 0)) := by rw [ew_541, va_up_ne _ _ (by omega)]; exact h_540
  refine lv_aload_n hx hb dX7_init_95 rfl (lv_at hl 0 rfl) ?_
  refine lv_bipush (v := 50) hx hb dX7_init_96 (by decide) ?_
  refine m_put (ci := 7) (C := RX7) (T := TX7) (n := 13) (v := .int 50) (ty := tyX7 10) hx hb hts inX7_ tyX7 tyX7_ok nmX7 hown hK hM hS rfl 0 (by omega) h_542 10 (by decide) (hts _ (by decide +kernel)) rfl (by decide +kernel) rfl rfl (Nat.le_of_ble_eq_true rfl) dX7_init_98 (fun H locs hM hS => ?_)
  have hM : MW D A 22 adr_472 (va_up w_541 0 (.inr (7, [.ref (adr_472 1), .ref (adr_472 3), .ref (adr_472 7), .ref (adr_472 14), .ref (adr_472 15), .ref (adr_472 16), .ref (adr_472 18), .ref (adr_472 20), .ref (adr_472 21), .int 0, .int 50, .int 0, .int 0]))) H := hM
  obtain ⟨w_564, ew_564⟩ : ∃ z9_, z9_ = va_up w_541 0 (.inr (7, [.ref (adr_472 1), .ref (adr_472 3), .ref (adr_472 7), .ref (adr_472 14), .ref (adr_472 15), .ref (adr_472 16), .ref (adr_472 18), .ref (adr_472 20), .ref (adr_472 21), .int 0, .int 50, .int 0, .int 0])) := ⟨_, rfl⟩
  rw [← ew_564] at hM
  have h_565 : w_564 0 = .inr (7, [.ref (adr_472 1), .ref (adr_472 3), .ref (adr_472 7), .ref (adr_472 14), .ref (adr_472 15), .ref (adr_472 16), .ref (adr_472 18), .ref (adr_472 20), .ref (adr_472 21), .int 0, .int 50, .int 0, .int 0]) := by rw [ew_564]; exact va_up_self _ _ _
  have h_566 : w_564 2 = .inl (ac 0, 8, .inl (fun _ => 0)) := by rw [ew_564, va_up_ne _ _ (by omega)]; exact h_543
  have h_567 : w_564 1 = .inr (4, [.ref (adr_472 2), .int 0]) := by rw [ew_564, va_up_ne _ _ (by omega)]; exact h_544
  have h_568 : w_564 3 = .inr (5, [.ref (adr_472 4), .ref (adr_472 5), .ref (adr_472 6)]) := by rw [ew_564, va_up_ne _ _ (by omega)]; exact h_545
  have h_569 : w_564 4 = .inl (ac 0, 600, .inl ((mixF 600 (fun _ => -1) (fun _ => 0)))) := by rw [ew_564, va_up_ne _ _ (by omega)]; exact h_546
  have h_570 : w_564 5 = .inl (ac 0, 200, .inl ((mixF 200 (fun _ => -1) (fun _ => 0)))) := by rw [ew_564, va_up_ne _ _ (by omega)]; exact h_547
  have h_571 : w_564 6 = .inl (ac 0, 200, .inl (fun _ => 0)) := by rw [ew_564, va_up_ne _ _ (by omega)]; exact h_548
  have h_572 : w_564 7 = .inr (2, [.ref (adr_472 8), .ref (adr_472 9), .ref (adr_472 10), .ref (adr_472 12), .int 0]) := by rw [ew_564, va_up_ne _ _ (by omega)]; exact h_549
  have h_573 : w_564 8 = .inl (ac 4, 40, .inr (.inr (.inr (.inr (fun _ => none))))) := by rw [ew_564, va_up_ne _ _ (by omega)]; exact h_550
  have h_574 : w_564 9 = .inl (ac 1, 50, .inr (.inl (fun _ => 0))) := by rw [ew_564, va_up_ne _ _ (by omega)]; exact h_551
  have h_575 : w_564 10 = .inr (1, [.ref (adr_472 11), .int 0]) := by rw [ew_564, va_up_ne _ _ (by omega)]; exact h_552
  have h_576 : w_564 11 = .inl (ac 0, 60, .inl (fun _ => 0)) := by rw [ew_564, va_up_ne _ _ (by omega)]; exact h_553
  have h_577 : w_564 12 = .inr (0, [.ref (adr_472 13)]) := by rw [ew_564, va_up_ne _ _ (by omega)]; exact h_554
  have h_578 : w_564 13 = .inl (ac 0, 81, .inl (fun _ => 0)) := by rw [ew_564, va_up_ne _ _ (by omega)]; exact h_555
  have h_579 : w_564 14 = .inl (ac 3, 60, .inr (.inr (.inr (.inr (fun _ => none))))) := by rw [ew_564, va_up_ne _ _ (by omega)]; exact h_556
  have h_580 : w_564 15 = .inl (ac 3, 4, .inr (.inr (.inr (.inr (fun _ => none))))) := by rw [ew_564, va_up_ne _ _ (by omega)]; exact h_557
  have h_581 : w_564 17 = .inl (ac 0, 60, .inl (fun _ => 0)) := by rw [ew_564, va_up_ne _ _ (by omega)]; exact h_558
  have h_582 : w_564 16 = .inr (1, [.ref (adr_472 17), .int 0]) := by rw [ew_564, va_up_ne _ _ (by omega)]; exact h_559
  have h_583 : w_564 19 = .inl (ac 0, 60, .inl (fun _ => 0)) := by rw [ew_564, va_up_ne _ _ (by omega)]; exact h_560
  have h_584 : w_564 18 = .inr (1, [.ref (adr_472 19), .int 0]) := by rw [ew_564, va_up_ne _ _ (by omega)]; exact h_561
  have h_585 : w_564 20 = .inl (ac 0, 4, .inl (fun _ => 0)) := by rw [ew_564, va_up_ne _ _ (by omega)]; exact h_562
  have h_586 : w_564 21 = .inl (ac 0, 4, .inl (fun _ => 0)) := by rw [ew_564, va_up_ne _ _ (by omega)]; exact h_563
  refine lv_aload_n hx hb dX7_init_101 rfl (lv_at hl 0 rfl) ?_
  refine lv_bipush (v := 10) hx hb dX7_init_102 (by decide) ?_
  refine m_put (ci := 7) (C := RX7) (T := TX7) (n := 13) (v := .int 10) (ty := tyX7 11) hx hb hts inX7_ tyX7 tyX7_ok nmX7 hown hK hM hS rfl 0 (by omega) h_565 11 (by decide) (hts _ (by decide +kernel)) rfl (by decide +kernel) rfl rfl (Nat.le_of_ble_eq_true rfl) dX7_init_104 (fun H locs hM hS => ?_)
  have hM : MW D A 22 adr_472 (va_up w_564 0 (.inr (7, [.ref (adr_472 1), .ref (adr_472 3), .ref (adr_472 7), .ref (adr_472 14), .ref (adr_472 15), .ref (adr_472 16), .ref (adr_472 18), .ref (adr_472 20), .ref (adr_472 21), .int 0, .int 50, .int 10, .int 0]))) H := hM
  obtain ⟨w_587, ew_587⟩ : ∃ z9_, z9_ = va_up w_564 0 (.inr (7, [.ref (adr_472 1), .ref (adr_472 3), .ref (adr_472 7), .ref (adr_472 14), .ref (adr_472 15), .ref (adr_472 16), .ref (adr_472 18), .ref (adr_472 20), .ref (adr_472 21), .int 0, .int 50, .int 10, .int 0])) := ⟨_, rfl⟩
  rw [← ew_587] at hM
  have h_588 : w_587 0 = .inr (7, [.ref (adr_472 1), .ref (adr_472 3), .ref (adr_472 7), .ref (adr_472 14), .ref (adr_472 15), .ref (adr_472 16), .ref (adr_472 18), .ref (adr_472 20), .ref (adr_472 21), .int 0, .int 50, .int 10, .int 0]) := by rw [ew_587]; exact va_up_self _ _ _
  have h_589 : w_587 2 = .inl (ac 0, 8, .inl (fun _ => 0)) := by rw [ew_587, va_up_ne _ _ (by omega)]; exact h_566
  have h_590 : w_587 1 = .inr (4, [.ref (adr_472 2), .int 0]) := by rw [ew_587, va_up_ne _ _ (by omega)]; exact h_567
  have h_591 : w_587 3 = .inr (5, [.ref (adr_472 4), .ref (adr_472 5), .ref (adr_472 6)]) := by rw [ew_587, va_up_ne _ _ (by omega)]; exact h_568
  have h_592 : w_587 4 = .inl (ac 0, 600, .inl ((mixF 600 (fun _ => -1) (fun _ => 0)))) := by rw [ew_587, va_up_ne _ _ (by omega)]; exact h_569
  have h_593 : w_587 5 = .inl (ac 0, 200, .inl ((mixF 200 (fun _ => -1) (fun _ => 0)))) := by rw [ew_587, va_up_ne _ _ (by omega)]; exact h_570
  have h_594 : w_587 6 = .inl (ac 0, 200, .inl (fun _ => 0)) := by rw [ew_587, va_up_ne _ _ (by omega)]; exact h_571
  have h_595 : w_587 7 = .inr (2, [.ref (adr_472 8), .ref (adr_472 9), .ref (adr_472 10), .ref (adr_472 12), .int 0]) := by rw [ew_587, va_up_ne _ _ (by omega)]; exact h_572
  have h_596 : w_587 8 = .inl (ac 4, 40, .inr (.inr (.inr (.inr (fun _ => none))))) := by rw [ew_587, va_up_ne _ _ (by omega)]; exact h_573
  have h_597 : w_587 9 = .inl (ac 1, 50, .inr (.inl (fun _ => 0))) := by rw [ew_587, va_up_ne _ _ (by omega)]; exact h_574
  have h_598 : w_587 10 = .inr (1, [.ref (adr_472 11), .int 0]) := by rw [ew_587, va_up_ne _ _ (by omega)]; exact h_575
  have h_599 : w_587 11 = .inl (ac 0, 60, .inl (fun _ => 0)) := by rw [ew_587, va_up_ne _ _ (by omega)]; exact h_576
  have h_600 : w_587 12 = .inr (0, [.ref (adr_472 13)]) := by rw [ew_587, va_up_ne _ _ (by omega)]; exact h_577
  have h_601 : w_587 13 = .inl (ac 0, 81, .inl (fun _ => 0)) := by rw [ew_587, va_up_ne _ _ (by omega)]; exact h_578
  have h_602 : w_587 14 = .inl (ac 3, 60, .inr (.inr (.inr (.inr (fun _ => none))))) := by rw [ew_587, va_up_ne _ _ (by omega)]; exact h_579
  have h_603 : w_587 15 = .inl (ac 3, 4, .inr (.inr (.inr (.inr (fun _ => none))))) := by rw [ew_587, va_up_ne _ _ (by omega)]; exact h_580
  have h_604 : w_587 17 = .inl (ac 0, 60, .inl (fun _ => 0)) := by rw [ew_587, va_up_ne _ _ (by omega)]; exact h_581
  have h_605 : w_587 16 = .inr (1, [.ref (adr_472 17), .int 0]) := by rw [ew_587, va_up_ne _ _ (by omega)]; exact h_582
  have h_606 : w_587 19 = .inl (ac 0, 60, .inl (fun _ => 0)) := by rw [ew_587, va_up_ne _ _ (by omega)]; exact h_583
  have h_607 : w_587 18 = .inr (1, [.ref (adr_472 19), .int 0]) := by rw [ew_587, va_up_ne _ _ (by omega)]; exact h_584
  have h_608 : w_587 20 = .inl (ac 0, 4, .inl (fun _ => 0)) := by rw [ew_587, va_up_ne _ _ (by omega)]; exact h_585
  have h_609 : w_587 21 = .inl (ac 0, 4, .inl (fun _ => 0)) := by rw [ew_587, va_up_ne _ _ (by omega)]; exact h_586
  refine lv_aload_n hx hb dX7_init_107 rfl (lv_at hl 0 rfl) ?_
  refine lv_bipush (v := 6) hx hb dX7_init_108 (by decide) ?_
  refine m_put (ci := 7) (C := RX7) (T := TX7) (n := 13) (v := .int 6) (ty := tyX7 12) hx hb hts inX7_ tyX7 tyX7_ok nmX7 hown hK hM hS rfl 0 (by omega) h_588 12 (by decide) (hts _ (by decide +kernel)) rfl (by decide +kernel) rfl rfl (Nat.le_of_ble_eq_true rfl) dX7_init_110 (fun H locs hM hS => ?_)
  have hM : MW D A 22 adr_472 (va_up w_587 0 (.inr (7, [.ref (adr_472 1), .ref (adr_472 3), .ref (adr_472 7), .ref (adr_472 14), .ref (adr_472 15), .ref (adr_472 16), .ref (adr_472 18), .ref (adr_472 20), .ref (adr_472 21), .int 0, .int 50, .int 10, .int 6]))) H := hM
  obtain ⟨w_610, ew_610⟩ : ∃ z9_, z9_ = va_up w_587 0 (.inr (7, [.ref (adr_472 1), .ref (adr_472 3), .ref (adr_472 7), .ref (adr_472 14), .ref (adr_472 15), .ref (adr_472 16), .ref (adr_472 18), .ref (adr_472 20), .ref (adr_472 21), .int 0, .int 50, .int 10, .int 6])) := ⟨_, rfl⟩
  rw [← ew_610] at hM
  have h_611 : w_610 0 = .inr (7, [.ref (adr_472 1), .ref (adr_472 3), .ref (adr_472 7), .ref (adr_472 14), .ref (adr_472 15), .ref (adr_472 16), .ref (adr_472 18), .ref (adr_472 20), .ref (adr_472 21), .int 0, .int 50, .int 10, .int 6]) := by rw [ew_610]; exact va_up_self _ _ _
  have h_612 : w_610 2 = .inl (ac 0, 8, .inl (fun _ => 0)) := by rw [ew_610, va_up_ne _ _ (by omega)]; exact h_589
  have h_613 : w_610 1 = .inr (4, [.ref (adr_472 2), .int 0]) := by rw [ew_610, va_up_ne _ _ (by omega)]; exact h_590
  have h_614 : w_610 3 = .inr (5, [.ref (adr_472 4), .ref (adr_472 5), .ref (adr_472 6)]) := by rw [ew_610, va_up_ne _ _ (by omega)]; exact h_591
  have h_615 : w_610 4 = .inl (ac 0, 600, .inl ((mixF 600 (fun _ => -1) (fun _ => 0)))) := by rw [ew_610, va_up_ne _ _ (by omega)]; exact h_592
  have h_616 : w_610 5 = .inl (ac 0, 200, .inl ((mixF 200 (fun _ => -1) (fun _ => 0)))) := by rw [ew_610, va_up_ne _ _ (by omega)]; exact h_593
  have h_617 : w_610 6 = .inl (ac 0, 200, .inl (fun _ => 0)) := by rw [ew_610, va_up_ne _ _ (by omega)]; exact h_594
  have h_618 : w_610 7 = .inr (2, [.ref (adr_472 8), .ref (adr_472 9), .ref (adr_472 10), .ref (adr_472 12), .int 0]) := by rw [ew_610, va_up_ne _ _ (by omega)]; exact h_595
  have h_619 : w_610 8 = .inl (ac 4, 40, .inr (.inr (.inr (.inr (fun _ => none))))) := by rw [ew_610, va_up_ne _ _ (by omega)]; exact h_596
  have h_620 : w_610 9 = .inl (ac 1, 50, .inr (.inl (fun _ => 0))) := by rw [ew_610, va_up_ne _ _ (by omega)]; exact h_597
  have h_621 : w_610 10 = .inr (1, [.ref (adr_472 11), .int 0]) := by rw [ew_610, va_up_ne _ _ (by omega)]; exact h_598
  have h_622 : w_610 11 = .inl (ac 0, 60, .inl (fun _ => 0)) := by rw [ew_610, va_up_ne _ _ (by omega)]; exact h_599
  have h_623 : w_610 12 = .inr (0, [.ref (adr_472 13)]) := by rw [ew_610, va_up_ne _ _ (by omega)]; exact h_600
  have h_624 : w_610 13 = .inl (ac 0, 81, .inl (fun _ => 0)) := by rw [ew_610, va_up_ne _ _ (by omega)]; exact h_601
  have h_625 : w_610 14 = .inl (ac 3, 60, .inr (.inr (.inr (.inr (fun _ => none))))) := by rw [ew_610, va_up_ne _ _ (by omega)]; exact h_602
  have h_626 : w_610 15 = .inl (ac 3, 4, .inr (.inr (.inr (.inr (fun _ => none))))) := by rw [ew_610, va_up_ne _ _ (by omega)]; exact h_603
  have h_627 : w_610 17 = .inl (ac 0, 60, .inl (fun _ => 0)) := by rw [ew_610, va_up_ne _ _ (by omega)]; exact h_604
  have h_628 : w_610 16 = .inr (1, [.ref (adr_472 17), .int 0]) := by rw [ew_610, va_up_ne _ _ (by omega)]; exact h_605
  have h_629 : w_610 19 = .inl (ac 0, 60, .inl (fun _ => 0)) := by rw [ew_610, va_up_ne _ _ (by omega)]; exact h_606
  have h_630 : w_610 18 = .inr (1, [.ref (adr_472 19), .int 0]) := by rw [ew_610, va_up_ne _ _ (by omega)]; exact h_607
  have h_631 : w_610 20 = .inl (ac 0, 4, .inl (fun _ => 0)) := by rw [ew_610, va_up_ne _ _ (by omega)]; exact h_608
  have h_632 : w_610 21 = .inl (ac 0, 4, .inl (fun _ => 0)) := by rw [ew_610, va_up_ne _ _ (by omega)]; exact h_609
  rw [hQ0]
  exact e_cv (post := fun adr2 w1 => adr 0 = adr2 0 ∧ HR ac adr2 w1 0 ((fun _ => 0)) ((mixF 600 (fun _ => -1) (fun _ => 0))) ((mixF 200 (fun _ => -1) (fun _ => 0))) ((fun _ => 0)) 0 ((fun _ => 0)) ((fun _ => 0)) 0 ((fun _ => 0)) ((fun _ => 0)) 0 ((fun _ => 0)) 0 ((fun _ => 0)) ((fun _ => 0)) ((fun _ => 0)) 0 ((fun _ => 0)) ((fun _ => 0)) ((fun _ _ => 0)) ((fun _ _ => 0)) ((fun _ => 0)) ((fun _ => 0)) ((fun _ => 0)) ((fun _ => 0)) ((fun _ => 0)) ((fun _ => none)) 50 10 6) hx hb hlocks hr dX7_init_113 (Nat.le_of_ble_eq_true rfl) (Nat.le_of_ble_eq_true rfl) hM hS (⟨((he_2 0 (by omega)).trans ((he_8 0 (by omega)).trans ((he_20 0 (by omega)).trans ((he_31 0 (by omega)).trans ((he_53 0 (by omega)).trans ((he_72 0 (by omega)).trans ((he_112 0 (by omega)).trans ((he_160 0 (by omega)).trans ((he_211 0 (by omega)).trans ((he_247 0 (by omega)).trans ((he_304 0 (by omega)).trans ((he_344 0 (by omega)).trans ((he_407 0 (by omega)).trans (he_473 0 (by omega))))))))))))))), h_611, ⟨h_613, h_612, by decide, fun j hj => absurd hj (Nat.not_lt_zero _)⟩, ⟨h_614, h_615, h_616, h_617⟩, ⟨h_618, by rw [sref_0]; exact h_619, h_620, h_621, h_622, h_623, h_624, by decide, by decide⟩, fun o ho => absurd ho (Nat.not_lt_zero _), fun o ho => absurd ho (Nat.not_lt_zero _), ⟨h_628, h_627, h_630, h_629, by decide, by decide⟩, ⟨by rw [oref_0]; exact h_625, h_626, by decide⟩, ⟨h_631, h_632⟩, HIn.zero⟩)
