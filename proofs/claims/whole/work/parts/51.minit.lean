def msf0 : Nat → Int32 := fun k => if k = 2 then 50 else if k = 3 then 10 else if k = 4 then 6 else 0
def maf0 : Nat → Nat → Int32 := fun _ _ => 0
/-- the reference while it is made -/
def pw (ac : Nat → ClassId) (FS : List Value) : Nat → va_E := fun k => if k = 0 then .inr (8, FS) else .inl (ac (mty k), mlen k, .inl (fun _ => 0))
section PW
variable {D : va_G} {ac : Nat → ClassId} {A : Nat → Prop} {adr : Nat → Nat} {H : Heap} {FS F2 : List Value} {N i : Nat} {w : Nat → va_E} {e : va_E} {sf : Nat → Int32}
theorem MW.pw0 (h : MW D A 1 adr w H) (h1 : w 0 = .inr (8, FS)) : MW D A 1 adr (pw ac FS) H :=
  MW.congr h (fun _ _ => rfl) (fun k hk => by
    have e : k = 0 := by omega
    subst e
    exact h1.symm)
theorem MW.pwN (h : MW D A N adr (va_up (pw ac FS) i e) H) (hi : ¬ i = 0) (he : e = .inl (ac (mty i), mlen i, .inl (fun _ => 0))) : MW D A N adr (pw ac FS) H :=
  MW.congr h (fun _ _ => rfl) (fun k hk => by
    by_cases q : k = i
    · subst q
      rw [va_up_self, he]
      unfold pw
      rw [if_neg hi]
    · rw [va_up_ne _ _ q])
theorem MW.pwP (h : MW D A N adr (va_up (pw ac FS) 0 (.inr (8, F2))) H) : MW D A N adr (pw ac F2) H :=
  MW.congr h (fun _ _ => rfl) (fun k hk => by
    by_cases q : k = 0
    · subst q
      rw [va_up_self]
      rfl
    · rw [va_up_ne _ _ q]
      unfold pw
      rw [if_neg q, if_neg q])
theorem MW.pwM (h : MW D A 24 adr (pw ac FS) H) (e : FS = mfs adr sf) : MW D A 24 adr (mw ac adr sf maf0) H :=
  MW.congr h (fun _ _ => rfl) (fun k hk => by
    unfold pw mw
    rw [e]
    rfl)
end PW
set_option maxHeartbeats 4000000 in
set_option maxRecDepth 100000 in
/-- the reference is made -/
theorem k_X8_init (l : Launch) (D : va_G) (ac : Nat → ClassId) (H : Heap) (A : Nat → Prop) (hA : ∀ q, H.size ≤ q → A q) (adr : Nat → Nat) (w : Nat → va_E) (hM : MW D A 1 adr w H) (h1 : w 0 = .inr (8, [.int 0, .int 0, .null, .int 0, .int 0, .int 0, .int 0, .null, .null, .null, .null, .null, .int 0, .null, .null, .null, .null, .null, .null, .int 0, .int 0, .null, .null, .null, .null, .null, .null, .int 0, .null, .int 0, .null, .null, .int 0, .null, .null])) : WCv l yX8_init wsX8_init ({ frames := 1, cells := 23, slots := 3145, locals := 20 }) [.ref (adr 0)] D ac H A (24) (fun adr2 w1 => adr 0 = adr2 0 ∧ w1 = mw ac adr2 msf0 (va_up maf0 17 (mixF 600 (fun _ => -1) (maf0 17)))) 23 3145 := by
  refine Met.ofW (cc := cX8_init) (maxL := 2) (ret := none) (by decide) rfl ?_
  intro p e s m args below meth c s₁ B hml hv
  obtain ⟨hargs, hsz, hK⟩ := hv
  have hx := B.exec
  have hb := B.bytes
  have hr := B.returns
  have hts := atoms_spec (ws := wsX8_init) B.pre
  have hown : s.vm.findClass RX8 = some m.cls := findClass_of_methodNamed B.named
  have hlocks := B.notSynchronized
  have hin : meth.name = "<init>" := (name_of_methodNamed B.named B.method).1
  subst hsz
  have inX8_ : ∀ w ∈ wsX80, w ∈ wsX8_init := by decide +kernel
  have hS : va_S A s.heap s.heap [] := va_S.rf
  have hl := lv_entry ([.ref (adr 0)]) (n := 2) (Nat.le_of_ble_eq_true rfl)
  have hen := lg_entry_eq m [.ref (adr 0)] 2
  rw [← hargs] at hen
  rw [hen]
  generalize (lg_sl ([.ref (adr 0)]) ++ List.replicate (2 - (lg_sl ([.ref (adr 0)])).length) Slot.unset).toArray = ls at hl ⊢
  have hl : lv_has ls 2 [(0, .ref (adr 0))] := hl
  obtain ⟨a9, ea9⟩ : ∃ z9_, z9_ = adr 0 := ⟨_, rfl⟩
  obtain ⟨Q0, hQ0⟩ : ∃ z, z = MQ below (va_Qv (cvP (fun adr2 w1 => a9 = adr2 0 ∧ w1 = mw ac adr2 msf0 (va_up maf0 17 (mixF 600 (fun _ => -1) (maf0 17))))) (fun u t => MW D A (24) u.1 u.2 t.heap) A) args s 23 3145 A := ⟨_, rfl⟩
  rw [← ea9, ← hQ0]
  refine lv_aload_n hx hb dX8_init_0 rfl (lv_at hl 0 rfl) ?_
  refine m_objinit hx hb hown (hts _ (by decide +kernel)) (hts _ (by decide +kernel)) (hts _ (by decide +kernel)) (hl.1.trans hml.symm) dX8_init_1 (Nat.le_of_ble_eq_true rfl) (Nat.le_of_ble_eq_true rfl) ?_
  have hM := MW.pw0 (ac := ac) hM h1
  have hc : a9 = adr 0 := ea9
  refine lv_aload_n hx hb dX8_init_4 rfl (lv_at hl 0 rfl) ?_
  refine lv_bipush (v := 8) hx hb dX8_init_5 (by decide) ?_
  refine m_newa (atype := .int) (ty := .int) (a0 := (8, .inl (fun _ => 0))) (N' := 8) hx hb (hts _ (by decide +kernel)) hK hM hS hA 0 rfl rfl (fun cA => vp_cell_i cA _ _) (by decide) (by decide) (by decide) (Nat.le_of_ble_eq_true rfl) (Nat.le_of_ble_eq_true rfl) dX8_init_7 (fun adr_1 H he_1 hM hS => ?_)
  have hM := MW.pwN hM (by decide) rfl
  have b_0 := he_1 0 (by omega)
  simp only [b_0] at hM hl hc
  try simp only [b_0]
  have hM : MW D A 2 adr_1 (pw ac [.int 0, .int 0, .null, .int 0, .int 0, .int 0, .int 0, .null, .null, .null, .null, .null, .int 0, .null, .null, .null, .null, .null, .null, .int 0, .int 0, .null, .null, .null, .null, .null, .null, .int 0, .null, .int 0, .null, .null, .int 0, .null, .null]) H := hM
  refine m_putF (ci := 8) (C := RX8) (T := TX8) (n := 35) (v := .ref (adr_1 1)) (ty := tyX8 2) hx hb hts inX8_ tyX8 tyX8_ok nmX8 hown hK hM hS rfl 0 (by omega) (show pw ac [.int 0, .int 0, .null, .int 0, .int 0, .int 0, .int 0, .null, .null, .null, .null, .null, .int 0, .null, .null, .null, .null, .null, .null, .int 0, .int 0, .null, .null, .null, .null, .null, .null, .int 0, .null, .int 0, .null, .null, .int 0, .null, .null] 0 = .inr (8, [.int 0, .int 0, .null, .int 0, .int 0, .int 0, .int 0, .null, .null, .null, .null, .null, .int 0, .null, .null, .null, .null, .null, .null, .int 0, .int 0, .null, .null, .null, .null, .null, .null, .int 0, .null, .int 0, .null, .null, .int 0, .null, .null]) from rfl) 2 (by decide) (hts _ (by decide +kernel)) rfl hin rfl (by decide +kernel) rfl rfl (Nat.le_of_ble_eq_true rfl) dX8_init_9 (fun H locs hM hS => ?_)
  have hM := MW.pwP (F2 := [.int 0, .int 0, .ref (adr_1 1), .int 0, .int 0, .int 0, .int 0, .null, .null, .null, .null, .null, .int 0, .null, .null, .null, .null, .null, .null, .int 0, .int 0, .null, .null, .null, .null, .null, .null, .int 0, .null, .int 0, .null, .null, .int 0, .null, .null]) hM
  refine lv_aload_n hx hb dX8_init_12 rfl (lv_at hl 0 rfl) ?_
  refine lv_bipush (v := 50) hx hb dX8_init_13 (by decide) ?_
  refine m_put (ci := 8) (C := RX8) (T := TX8) (n := 35) (v := .int 50) (ty := tyX8 3) hx hb hts inX8_ tyX8 tyX8_ok nmX8 hown hK hM hS rfl 0 (by omega) (show pw ac [.int 0, .int 0, .ref (adr_1 1), .int 0, .int 0, .int 0, .int 0, .null, .null, .null, .null, .null, .int 0, .null, .null, .null, .null, .null, .null, .int 0, .int 0, .null, .null, .null, .null, .null, .null, .int 0, .null, .int 0, .null, .null, .int 0, .null, .null] 0 = .inr (8, [.int 0, .int 0, .ref (adr_1 1), .int 0, .int 0, .int 0, .int 0, .null, .null, .null, .null, .null, .int 0, .null, .null, .null, .null, .null, .null, .int 0, .int 0, .null, .null, .null, .null, .null, .null, .int 0, .null, .int 0, .null, .null, .int 0, .null, .null]) from rfl) 3 (by decide) (hts _ (by decide +kernel)) rfl (by decide +kernel) rfl rfl (Nat.le_of_ble_eq_true rfl) dX8_init_15 (fun H locs hM hS => ?_)
  have hM := MW.pwP (F2 := [.int 0, .int 0, .ref (adr_1 1), .int 50, .int 0, .int 0, .int 0, .null, .null, .null, .null, .null, .int 0, .null, .null, .null, .null, .null, .null, .int 0, .int 0, .null, .null, .null, .null, .null, .null, .int 0, .null, .int 0, .null, .null, .int 0, .null, .null]) hM
  refine lv_aload_n hx hb dX8_init_18 rfl (lv_at hl 0 rfl) ?_
  refine lv_bipush (v := 10) hx hb dX8_init_19 (by decide) ?_
  refine m_put (ci := 8) (C := RX8) (T := TX8) (n := 35) (v := .int 10) (ty := tyX8 4) hx hb hts inX8_ tyX8 tyX8_ok nmX8 hown hK hM hS rfl 0 (by omega) (show pw ac [.int 0, .int 0, .ref (adr_1 1), .int 50, .int 0, .int 0, .int 0, .null, .null, .null, .null, .null, .int 0, .null, .null, .null, .null, .null, .null, .int 0, .int 0, .null, .null, .null, .null, .null, .null, .int 0, .null, .int 0, .null, .null, .int 0, .null, .null] 0 = .inr (8, [.int 0, .int 0, .ref (adr_1 1), .int 50, .int 0, .int 0, .int 0, .null, .null, .null, .null, .null, .int 0, .null, .null, .null, .null, .null, .null, .int 0, .int 0, .null, .null, .null, .null, .null, .null, .int 0, .null, .int 0, .null, .null, .int 0, .null, .null]) from rfl) 4 (by decide) (hts _ (by decide +kernel)) rfl (by decide +kernel) rfl rfl (Nat.le_of_ble_eq_true rfl) dX8_init_21 (fun H locs hM hS => ?_)
  have hM := MW.pwP (F2 := [.int 0, .int 0, .ref (adr_1 1), .int 50, .int 10, .int 0, .int 0, .null, .null, .null, .null, .null, .int 0, .null, .null, .null, .null, .null, .null, .int 0, .int 0, .null, .null, .null, .null, .null, .null, .int 0, .null, .int 0, .null, .null, .int 0, .null, .null]) hM
  refine lv_aload_n hx hb dX8_init_24 rfl (lv_at hl 0 rfl) ?_
  refine lv_bipush (v := 6) hx hb dX8_init_25 (by decide) ?_
  refine m_put (ci := 8) (C := RX8) (T := TX8) (n := 35) (v := .int 6) (ty := tyX8 5) hx hb hts inX8_ tyX8 tyX8_ok nmX8 hown hK hM hS rfl 0 (by omega) (show pw ac [.int 0, .int 0, .ref (adr_1 1), .int 50, .int 10, .int 0, .int 0, .null, .null, .null, .null, .null, .int 0, .null, .null, .null, .null, .null, .null, .int 0, .int 0, .null, .null, .null, .null, .null, .null, .int 0, .null, .int 0, .null, .null, .int 0, .null, .null] 0 = .inr (8, [.int 0, .int 0, .ref (adr_1 1), .int 50, .int 10, .int 0, .int 0, .null, .null, .null, .null, .null, .int 0, .null, .null, .null, .null, .null, .null, .int 0, .int 0, .null, .null, .null, .null, .null, .null, .int 0, .null, .int 0, .null, .null, .int 0, .null, .null]) from rfl) 5 (by decide) (hts _ (by decide +kernel)) rfl (by decide +kernel) rfl rfl (Nat.le_of_ble_eq_true rfl) dX8_init_27 (fun H locs hM hS => ?_)
  have hM := MW.pwP (F2 := [.int 0, .int 0, .ref (adr_1 1), .int 50, .int 10, .int 6, .int 0, .null, .null, .null, .null, .null, .int 0, .null, .null, .null, .null, .null, .null, .int 0, .int 0, .null, .null, .null, .null, .null, .null, .int 0, .null, .int 0, .null, .null, .int 0, .null, .null]) hM
  refine lv_aload_n hx hb dX8_init_30 rfl (lv_at hl 0 rfl) ?_
  refine lv_bipush (v := 40) hx hb dX8_init_31 (by decide) ?_
  refine m_newa (atype := .int) (ty := .int) (a0 := (40, .inl (fun _ => 0))) (N' := 40) hx hb (hts _ (by decide +kernel)) hK hM hS hA 0 rfl rfl (fun cA => vp_cell_i cA _ _) (by decide) (by decide) (by decide) (Nat.le_of_ble_eq_true rfl) (Nat.le_of_ble_eq_true rfl) dX8_init_33 (fun adr_2 H he_2 hM hS => ?_)
  have hM := MW.pwN hM (by decide) rfl
  have b_0 := he_2 0 (by omega)
  have b_1 := he_2 1 (by omega)
  simp only [b_0, b_1] at hM hl hc
  try simp only [b_0, b_1]
  have hM : MW D A 3 adr_2 (pw ac [.int 0, .int 0, .ref (adr_2 1), .int 50, .int 10, .int 6, .int 0, .null, .null, .null, .null, .null, .int 0, .null, .null, .null, .null, .null, .null, .int 0, .int 0, .null, .null, .null, .null, .null, .null, .int 0, .null, .int 0, .null, .null, .int 0, .null, .null]) H := hM
  refine m_putF (ci := 8) (C := RX8) (T := TX8) (n := 35) (v := .ref (adr_2 2)) (ty := tyX8 7) hx hb hts inX8_ tyX8 tyX8_ok nmX8 hown hK hM hS rfl 0 (by omega) (show pw ac [.int 0, .int 0, .ref (adr_2 1), .int 50, .int 10, .int 6, .int 0, .null, .null, .null, .null, .null, .int 0, .null, .null, .null, .null, .null, .null, .int 0, .int 0, .null, .null, .null, .null, .null, .null, .int 0, .null, .int 0, .null, .null, .int 0, .null, .null] 0 = .inr (8, [.int 0, .int 0, .ref (adr_2 1), .int 50, .int 10, .int 6, .int 0, .null, .null, .null, .null, .null, .int 0, .null, .null, .null, .null, .null, .null, .int 0, .int 0, .null, .null, .null, .null, .null, .null, .int 0, .null, .int 0, .null, .null, .int 0, .null, .null]) from rfl) 7 (by decide) (hts _ (by decide +kernel)) rfl hin rfl (by decide +kernel) rfl rfl (Nat.le_of_ble_eq_true rfl) dX8_init_35 (fun H locs hM hS => ?_)
  have hM := MW.pwP (F2 := [.int 0, .int 0, .ref (adr_2 1), .int 50, .int 10, .int 6, .int 0, .ref (adr_2 2), .null, .null, .null, .null, .int 0, .null, .null, .null, .null, .null, .null, .int 0, .int 0, .null, .null, .null, .null, .null, .null, .int 0, .null, .int 0, .null, .null, .int 0, .null, .null]) hM
  refine lv_aload_n hx hb dX8_init_38 rfl (lv_at hl 0 rfl) ?_
  refine lv_bipush (v := 40) hx hb dX8_init_39 (by decide) ?_
  refine m_newa (atype := .int) (ty := .int) (a0 := (40, .inl (fun _ => 0))) (N' := 40) hx hb (hts _ (by decide +kernel)) hK hM hS hA 0 rfl rfl (fun cA => vp_cell_i cA _ _) (by decide) (by decide) (by decide) (Nat.le_of_ble_eq_true rfl) (Nat.le_of_ble_eq_true rfl) dX8_init_41 (fun adr_3 H he_3 hM hS => ?_)
  have hM := MW.pwN hM (by decide) rfl
  have b_0 := he_3 0 (by omega)
  have b_1 := he_3 1 (by omega)
  have b_2 := he_3 2 (by omega)
  simp only [b_0, b_1, b_2] at hM hl hc
  try simp only [b_0, b_1, b_2]
  have hM : MW D A 4 adr_3 (pw ac [.int 0, .int 0, .ref (adr_3 1), .int 50, .int 10, .int 6, .int 0, .ref (adr_3 2), .null, .null, .null, .null, .int 0, .null, .null, .null, .null, .null, .null, .int 0, .int 0, .null, .null, .null, .null, .null, .null, .int 0, .null, .int 0, .null, .null, .int 0, .null, .null]) H := hM
  refine m_putF (ci := 8) (C := RX8) (T := TX8) (n := 35) (v := .ref (adr_3 3)) (ty := tyX8 8) hx hb hts inX8_ tyX8 tyX8_ok nmX8 hown hK hM hS rfl 0 (by omega) (show pw ac [.int 0, .int 0, .ref (adr_3 1), .int 50, .int 10, .int 6, .int 0, .ref (adr_3 2), .null, .null, .null, .null, .int 0, .null, .null, .null, .null, .null, .null, .int 0, .int 0, .null, .null, .null, .null, .null, .null, .int 0, .null, .int 0, .null, .null, .int 0, .null, .null] 0 = .inr (8, [.int 0, .int 0, .ref (adr_3 1), .int 50, .int 10, .int 6, .int 0, .ref (adr_3 2), .null, .null, .null, .null, .int 0, .null, .null, .null, .null, .null, .null, .int 0, .int 0, .null, .null, .null, .null, .null, .null, .int 0, .null, .int 0, .null, .null, .int 0, .null, .null]) from rfl) 8 (by decide) (hts _ (by decide +kernel)) rfl hin rfl (by decide +kernel) rfl rfl (Nat.le_of_ble_eq_true rfl) dX8_init_43 (fun H locs hM hS => ?_)
  have hM := MW.pwP (F2 := [.int 0, .int 0, .ref (adr_3 1), .int 50, .int 10, .int 6, .int 0, .ref (adr_3 2), .ref (adr_3 3), .null, .null, .null, .int 0, .null, .null, .null, .null, .null, .null, .int 0, .int 0, .null, .null, .null, .null, .null, .null, .int 0, .null, .int 0, .null, .null, .int 0, .null, .null]) hM
  refine lv_aload_n hx hb dX8_init_46 rfl (lv_at hl 0 rfl) ?_
  refine lv_sipush (v := 320) hx hb dX8_init_47 (by decide) ?_
  refine m_newa (atype := .int) (ty := .int) (a0 := (320, .inl (fun _ => 0))) (N' := 320) hx hb (hts _ (by decide +kernel)) hK hM hS hA 0 rfl rfl (fun cA => vp_cell_i cA _ _) (by decide) (by decide) (by decide) (Nat.le_of_ble_eq_true rfl) (Nat.le_of_ble_eq_true rfl) dX8_init_50 (fun adr_4 H he_4 hM hS => ?_)
  have hM := MW.pwN hM (by decide) rfl
  have b_0 := he_4 0 (by omega)
  have b_1 := he_4 1 (by omega)
  have b_2 := he_4 2 (by omega)
  have b_3 := he_4 3 (by omega)
  simp only [b_0, b_1, b_2, b_3] at hM hl hc
  try simp only [b_0, b_1, b_2, b_3]
  have hM : MW D A 5 adr_4 (pw ac [.int 0, .int 0, .ref (adr_4 1), .int 50, .int 10, .int 6, .int 0, .ref (adr_4 2), .ref (adr_4 3), .null, .null, .null, .int 0, .null, .null, .null, .null, .null, .null, .int 0, .int 0, .null, .null, .null, .null, .null, .null, .int 0, .null, .int 0, .null, .null, .int 0, .null, .null]) H := hM
  refine m_putF (ci := 8) (C := RX8) (T := TX8) (n := 35) (v := .ref (adr_4 4)) (ty := tyX8 9) hx hb hts inX8_ tyX8 tyX8_ok nmX8 hown hK hM hS rfl 0 (by omega) (show pw ac [.int 0, .int 0, .ref (adr_4 1), .int 50, .int 10, .int 6, .int 0, .ref (adr_4 2), .ref (adr_4 3), .null, .null, .null, .int 0, .null, .null, .null, .null, .null, .null, .int 0, .int 0, .null, .null, .null, .null, .null, .null, .int 0, .null, .int 0, .null, .null, .int 0, .null, .null] 0 = .inr (8, [.int 0, .int 0, .ref (adr_4 1), .int 50, .int 10, .int 6, .int 0, .ref (adr_4 2), .ref (adr_4 3), .null, .null, .null, .int 0, .null, .null, .null, .null, .null, .null, .int 0, .int 0, .null, .null, .null, .null, .null, .null, .int 0, .null, .int 0, .null, .null, .int 0, .null, .null]) from rfl) 9 (by decide) (hts _ (by decide +kernel)) rfl hin rfl (by decide +kernel) rfl rfl (Nat.le_of_ble_eq_true rfl) dX8_init_52 (fun H locs hM hS => ?_)
  have hM := MW.pwP (F2 := [.int 0, .int 0, .ref (adr_4 1), .int 50, .int 10, .int 6, .int 0, .ref (adr_4 2), .ref (adr_4 3), .ref (adr_4 4), .null, .null, .int 0, .null, .null, .null, .null, .null, .null, .int 0, .int 0, .null, .null, .null, .null, .null, .null, .int 0, .null, .int 0, .null, .null, .int 0, .null, .null]) hM
  refine lv_aload_n hx hb dX8_init_55 rfl (lv_at hl 0 rfl) ?_
  refine lv_sipush (v := 320) hx hb dX8_init_56 (by decide) ?_
  refine m_newa (atype := .int) (ty := .int) (a0 := (320, .inl (fun _ => 0))) (N' := 320) hx hb (hts _ (by decide +kernel)) hK hM hS hA 0 rfl rfl (fun cA => vp_cell_i cA _ _) (by decide) (by decide) (by decide) (Nat.le_of_ble_eq_true rfl) (Nat.le_of_ble_eq_true rfl) dX8_init_59 (fun adr_5 H he_5 hM hS => ?_)
  have hM := MW.pwN hM (by decide) rfl
  have b_0 := he_5 0 (by omega)
  have b_1 := he_5 1 (by omega)
  have b_2 := he_5 2 (by omega)
  have b_3 := he_5 3 (by omega)
  have b_4 := he_5 4 (by omega)
  simp only [b_0, b_1, b_2, b_3, b_4] at hM hl hc
  try simp only [b_0, b_1, b_2, b_3, b_4]
  have hM : MW D A 6 adr_5 (pw ac [.int 0, .int 0, .ref (adr_5 1), .int 50, .int 10, .int 6, .int 0, .ref (adr_5 2), .ref (adr_5 3), .ref (adr_5 4), .null, .null, .int 0, .null, .null, .null, .null, .null, .null, .int 0, .int 0, .null, .null, .null, .null, .null, .null, .int 0, .null, .int 0, .null, .null, .int 0, .null, .null]) H := hM
  refine m_putF (ci := 8) (C := RX8) (T := TX8) (n := 35) (v := .ref (adr_5 5)) (ty := tyX8 10) hx hb hts inX8_ tyX8 tyX8_ok nmX8 hown hK hM hS rfl 0 (by omega) (show pw ac [.int 0, .int 0, .ref (adr_5 1), .int 50, .int 10, .int 6, .int 0, .ref (adr_5 2), .ref (adr_5 3), .ref (adr_5 4), .null, .null, .int 0, .null, .null, .null, .null, .null, .null, .int 0, .int 0, .null, .null, .null, .null, .null, .null, .int 0, .null, .int 0, .null, .null, .int 0, .null, .null] 0 = .inr (8, [.int 0, .int 0, .ref (adr_5 1), .int 50, .int 10, .int 6, .int 0, .ref (adr_5 2), .ref (adr_5 3), .ref (adr_5 4), .null, .null, .int 0, .null, .null, .null, .null, .null, .null, .int 0, .int 0, .null, .null, .null, .null, .null, .null, .int 0, .null, .int 0, .null, .null, .int 0, .null, .null]) from rfl) 10 (by decide) (hts _ (by decide +kernel)) rfl hin rfl (by decide +kernel) rfl rfl (Nat.le_of_ble_eq_true rfl) dX8_init_61 (fun H locs hM hS => ?_)
  have hM := MW.pwP (F2 := [.int 0, .int 0, .ref (adr_5 1), .int 50, .int 10, .int 6, .int 0, .ref (adr_5 2), .ref (adr_5 3), .ref (adr_5 4), .ref (adr_5 5), .null, .int 0, .null, .null, .null, .null, .null, .null, .int 0, .int 0, .null, .null, .null, .null, .null, .null, .int 0, .null, .int 0, .null, .null, .int 0, .null, .null]) hM
  refine lv_aload_n hx hb dX8_init_64 rfl (lv_at hl 0 rfl) ?_
  refine lv_bipush (v := 40) hx hb dX8_init_65 (by decide) ?_
  refine m_newa (atype := .int) (ty := .int) (a0 := (40, .inl (fun _ => 0))) (N' := 40) hx hb (hts _ (by decide +kernel)) hK hM hS hA 0 rfl rfl (fun cA => vp_cell_i cA _ _) (by decide) (by decide) (by decide) (Nat.le_of_ble_eq_true rfl) (Nat.le_of_ble_eq_true rfl) dX8_init_67 (fun adr_6 H he_6 hM hS => ?_)
  have hM := MW.pwN hM (by decide) rfl
  have b_0 := he_6 0 (by omega)
  have b_1 := he_6 1 (by omega)
  have b_2 := he_6 2 (by omega)
  have b_3 := he_6 3 (by omega)
  have b_4 := he_6 4 (by omega)
  have b_5 := he_6 5 (by omega)
  simp only [b_0, b_1, b_2, b_3, b_4, b_5] at hM hl hc
  try simp only [b_0, b_1, b_2, b_3, b_4, b_5]
  have hM : MW D A 7 adr_6 (pw ac [.int 0, .int 0, .ref (adr_6 1), .int 50, .int 10, .int 6, .int 0, .ref (adr_6 2), .ref (adr_6 3), .ref (adr_6 4), .ref (adr_6 5), .null, .int 0, .null, .null, .null, .null, .null, .null, .int 0, .int 0, .null, .null, .null, .null, .null, .null, .int 0, .null, .int 0, .null, .null, .int 0, .null, .null]) H := hM
  refine m_putF (ci := 8) (C := RX8) (T := TX8) (n := 35) (v := .ref (adr_6 6)) (ty := tyX8 11) hx hb hts inX8_ tyX8 tyX8_ok nmX8 hown hK hM hS rfl 0 (by omega) (show pw ac [.int 0, .int 0, .ref (adr_6 1), .int 50, .int 10, .int 6, .int 0, .ref (adr_6 2), .ref (adr_6 3), .ref (adr_6 4), .ref (adr_6 5), .null, .int 0, .null, .null, .null, .null, .null, .null, .int 0, .int 0, .null, .null, .null, .null, .null, .null, .int 0, .null, .int 0, .null, .null, .int 0, .null, .null] 0 = .inr (8, [.int 0, .int 0, .ref (adr_6 1), .int 50, .int 10, .int 6, .int 0, .ref (adr_6 2), .ref (adr_6 3), .ref (adr_6 4), .ref (adr_6 5), .null, .int 0, .null, .null, .null, .null, .null, .null, .int 0, .int 0, .null, .null, .null, .null, .null, .null, .int 0, .null, .int 0, .null, .null, .int 0, .null, .null]) from rfl) 11 (by decide) (hts _ (by decide +kernel)) rfl hin rfl (by decide +kernel) rfl rfl (Nat.le_of_ble_eq_true rfl) dX8_init_69 (fun H locs hM hS => ?_)
  have hM := MW.pwP (F2 := [.int 0, .int 0, .ref (adr_6 1), .int 50, .int 10, .int 6, .int 0, .ref (adr_6 2), .ref (adr_6 3), .ref (adr_6 4), .ref (adr_6 5), .ref (adr_6 6), .int 0, .null, .null, .null, .null, .null, .null, .int 0, .int 0, .null, .null, .null, .null, .null, .null, .int 0, .null, .int 0, .null, .null, .int 0, .null, .null]) hM
  refine lv_aload_n hx hb dX8_init_72 rfl (lv_at hl 0 rfl) ?_
  refine lv_bipush (v := 60) hx hb dX8_init_73 (by decide) ?_
  refine m_newa (atype := .int) (ty := .int) (a0 := (60, .inl (fun _ => 0))) (N' := 60) hx hb (hts _ (by decide +kernel)) hK hM hS hA 0 rfl rfl (fun cA => vp_cell_i cA _ _) (by decide) (by decide) (by decide) (Nat.le_of_ble_eq_true rfl) (Nat.le_of_ble_eq_true rfl) dX8_init_75 (fun adr_7 H he_7 hM hS => ?_)
  have hM := MW.pwN hM (by decide) rfl
  have b_0 := he_7 0 (by omega)
  have b_1 := he_7 1 (by omega)
  have b_2 := he_7 2 (by omega)
  have b_3 := he_7 3 (by omega)
  have b_4 := he_7 4 (by omega)
  have b_5 := he_7 5 (by omega)
  have b_6 := he_7 6 (by omega)
  simp only [b_0, b_1, b_2, b_3, b_4, b_5, b_6] at hM hl hc
  try simp only [b_0, b_1, b_2, b_3, b_4, b_5, b_6]
  have hM : MW D A 8 adr_7 (pw ac [.int 0, .int 0, .ref (adr_7 1), .int 50, .int 10, .int 6, .int 0, .ref (adr_7 2), .ref (adr_7 3), .ref (adr_7 4), .ref (adr_7 5), .ref (adr_7 6), .int 0, .null, .null, .null, .null, .null, .null, .int 0, .int 0, .null, .null, .null, .null, .null, .null, .int 0, .null, .int 0, .null, .null, .int 0, .null, .null]) H := hM
  refine m_putF (ci := 8) (C := RX8) (T := TX8) (n := 35) (v := .ref (adr_7 7)) (ty := tyX8 13) hx hb hts inX8_ tyX8 tyX8_ok nmX8 hown hK hM hS rfl 0 (by omega) (show pw ac [.int 0, .int 0, .ref (adr_7 1), .int 50, .int 10, .int 6, .int 0, .ref (adr_7 2), .ref (adr_7 3), .ref (adr_7 4), .ref (adr_7 5), .ref (adr_7 6), .int 0, .null, .null, .null, .null, .null, .null, .int 0, .int 0, .null, .null, .null, .null, .null, .null, .int 0, .null, .int 0, .null, .null, .int 0, .null, .null] 0 = .inr (8, [.int 0, .int 0, .ref (adr_7 1), .int 50, .int 10, .int 6, .int 0, .ref (adr_7 2), .ref (adr_7 3), .ref (adr_7 4), .ref (adr_7 5), .ref (adr_7 6), .int 0, .null, .null, .null, .null, .null, .null, .int 0, .int 0, .null, .null, .null, .null, .null, .null, .int 0, .null, .int 0, .null, .null, .int 0, .null, .null]) from rfl) 13 (by decide) (hts _ (by decide +kernel)) rfl hin rfl (by decide +kernel) rfl rfl (Nat.le_of_ble_eq_true rfl) dX8_init_77 (fun H locs hM hS => ?_)
  have hM := MW.pwP (F2 := [.int 0, .int 0, .ref (adr_7 1), .int 50, .int 10, .int 6, .int 0, .ref (adr_7 2), .ref (adr_7 3), .ref (adr_7 4), .ref (adr_7 5), .ref (adr_7 6), .int 0, .ref (adr_7 7), .null, .null, .null, .null, .null, .int 0, .int 0, .null, .null, .null, .null, .null, .null, .int 0, .null, .int 0, .null, .null, .int 0, .null, .null]) hM
  refine lv_aload_n hx hb dX8_init_80 rfl (lv_at hl 0 rfl) ?_
  refine lv_bipush (v := 60) hx hb dX8_init_81 (by decide) ?_
  refine m_newa (atype := .int) (ty := .int) (a0 := (60, .inl (fun _ => 0))) (N' := 60) hx hb (hts _ (by decide +kernel)) hK hM hS hA 0 rfl rfl (fun cA => vp_cell_i cA _ _) (by decide) (by decide) (by decide) (Nat.le_of_ble_eq_true rfl) (Nat.le_of_ble_eq_true rfl) dX8_init_83 (fun adr_8 H he_8 hM hS => ?_)
  have hM := MW.pwN hM (by decide) rfl
  have b_0 := he_8 0 (by omega)
  have b_1 := he_8 1 (by omega)
  have b_2 := he_8 2 (by omega)
  have b_3 := he_8 3 (by omega)
  have b_4 := he_8 4 (by omega)
  have b_5 := he_8 5 (by omega)
  have b_6 := he_8 6 (by omega)
  have b_7 := he_8 7 (by omega)
  simp only [b_0, b_1, b_2, b_3, b_4, b_5, b_6, b_7] at hM hl hc
  try simp only [b_0, b_1, b_2, b_3, b_4, b_5, b_6, b_7]
  have hM : MW D A 9 adr_8 (pw ac [.int 0, .int 0, .ref (adr_8 1), .int 50, .int 10, .int 6, .int 0, .ref (adr_8 2), .ref (adr_8 3), .ref (adr_8 4), .ref (adr_8 5), .ref (adr_8 6), .int 0, .ref (adr_8 7), .null, .null, .null, .null, .null, .int 0, .int 0, .null, .null, .null, .null, .null, .null, .int 0, .null, .int 0, .null, .null, .int 0, .null, .null]) H := hM
  refine m_putF (ci := 8) (C := RX8) (T := TX8) (n := 35) (v := .ref (adr_8 8)) (ty := tyX8 14) hx hb hts inX8_ tyX8 tyX8_ok nmX8 hown hK hM hS rfl 0 (by omega) (show pw ac [.int 0, .int 0, .ref (adr_8 1), .int 50, .int 10, .int 6, .int 0, .ref (adr_8 2), .ref (adr_8 3), .ref (adr_8 4), .ref (adr_8 5), .ref (adr_8 6), .int 0, .ref (adr_8 7), .null, .null, .null, .null, .null, .int 0, .int 0, .null, .null, .null, .null, .null, .null, .int 0, .null, .int 0, .null, .null, .int 0, .null, .null] 0 = .inr (8, [.int 0, .int 0, .ref (adr_8 1), .int 50, .int 10, .int 6, .int 0, .ref (adr_8 2), .ref (adr_8 3), .ref (adr_8 4), .ref (adr_8 5), .ref (adr_8 6), .int 0, .ref (adr_8 7), .null, .null, .null, .null, .null, .int 0, .int 0, .null, .null, .null, .null, .null, .null, .int 0, .null, .int 0, .null, .null, .int 0, .null, .null]) from rfl) 14 (by decide) (hts _ (by decide +kernel)) rfl hin rfl (by decide +kernel) rfl rfl (Nat.le_of_ble_eq_true rfl) dX8_init_85 (fun H locs hM hS => ?_)
  have hM := MW.pwP (F2 := [.int 0, .int 0, .ref (adr_8 1), .int 50, .int 10, .int 6, .int 0, .ref (adr_8 2), .ref (adr_8 3), .ref (adr_8 4), .ref (adr_8 5), .ref (adr_8 6), .int 0, .ref (adr_8 7), .ref (adr_8 8), .null, .null, .null, .null, .int 0, .int 0, .null, .null, .null, .null, .null, .null, .int 0, .null, .int 0, .null, .null, .int 0, .null, .null]) hM
  refine lv_aload_n hx hb dX8_init_88 rfl (lv_at hl 0 rfl) ?_
  refine lv_sipush (v := 480) hx hb dX8_init_89 (by decide) ?_
  refine m_newa (atype := .int) (ty := .int) (a0 := (480, .inl (fun _ => 0))) (N' := 480) hx hb (hts _ (by decide +kernel)) hK hM hS hA 0 rfl rfl (fun cA => vp_cell_i cA _ _) (by decide) (by decide) (by decide) (Nat.le_of_ble_eq_true rfl) (Nat.le_of_ble_eq_true rfl) dX8_init_92 (fun adr_9 H he_9 hM hS => ?_)
  have hM := MW.pwN hM (by decide) rfl
  have b_0 := he_9 0 (by omega)
  have b_1 := he_9 1 (by omega)
  have b_2 := he_9 2 (by omega)
  have b_3 := he_9 3 (by omega)
  have b_4 := he_9 4 (by omega)
  have b_5 := he_9 5 (by omega)
  have b_6 := he_9 6 (by omega)
  have b_7 := he_9 7 (by omega)
  have b_8 := he_9 8 (by omega)
  simp only [b_0, b_1, b_2, b_3, b_4, b_5, b_6, b_7, b_8] at hM hl hc
  try simp only [b_0, b_1, b_2, b_3, b_4, b_5, b_6, b_7, b_8]
  have hM : MW D A 10 adr_9 (pw ac [.int 0, .int 0, .ref (adr_9 1), .int 50, .int 10, .int 6, .int 0, .ref (adr_9 2), .ref (adr_9 3), .ref (adr_9 4), .ref (adr_9 5), .ref (adr_9 6), .int 0, .ref (adr_9 7), .ref (adr_9 8), .null, .null, .null, .null, .int 0, .int 0, .null, .null, .null, .null, .null, .null, .int 0, .null, .int 0, .null, .null, .int 0, .null, .null]) H := hM
  refine m_putF (ci := 8) (C := RX8) (T := TX8) (n := 35) (v := .ref (adr_9 9)) (ty := tyX8 15) hx hb hts inX8_ tyX8 tyX8_ok nmX8 hown hK hM hS rfl 0 (by omega) (show pw ac [.int 0, .int 0, .ref (adr_9 1), .int 50, .int 10, .int 6, .int 0, .ref (adr_9 2), .ref (adr_9 3), .ref (adr_9 4), .ref (adr_9 5), .ref (adr_9 6), .int 0, .ref (adr_9 7), .ref (adr_9 8), .null, .null, .null, .null, .int 0, .int 0, .null, .null, .null, .null, .null, .null, .int 0, .null, .int 0, .null, .null, .int 0, .null, .null] 0 = .inr (8, [.int 0, .int 0, .ref (adr_9 1), .int 50, .int 10, .int 6, .int 0, .ref (adr_9 2), .ref (adr_9 3), .ref (adr_9 4), .ref (adr_9 5), .ref (adr_9 6), .int 0, .ref (adr_9 7), .ref (adr_9 8), .null, .null, .null, .null, .int 0, .int 0, .null, .null, .null, .null, .null, .null, .int 0, .null, .int 0, .null, .null, .int 0, .null, .null]) from rfl) 15 (by decide) (hts _ (by decide +kernel)) rfl hin rfl (by decide +kernel) rfl rfl (Nat.le_of_ble_eq_true rfl) dX8_init_94 (fun H locs hM hS => ?_)
  have hM := MW.pwP (F2 := [.int 0, .int 0, .ref (adr_9 1), .int 50, .int 10, .int 6, .int 0, .ref (adr_9 2), .ref (adr_9 3), .ref (adr_9 4), .ref (adr_9 5), .ref (adr_9 6), .int 0, .ref (adr_9 7), .ref (adr_9 8), .ref (adr_9 9), .null, .null, .null, .int 0, .int 0, .null, .null, .null, .null, .null, .null, .int 0, .null, .int 0, .null, .null, .int 0, .null, .null]) hM
  refine lv_aload_n hx hb dX8_init_97 rfl (lv_at hl 0 rfl) ?_
  refine lv_bipush (v := 60) hx hb dX8_init_98 (by decide) ?_
  refine m_newa (atype := .boolean) (ty := .boolean) (a0 := (60, .inl (fun _ => 0))) (N' := 60) hx hb (hts _ (by decide +kernel)) hK hM hS hA 2 rfl rfl (fun cA => vp_cell_i cA _ _) (by decide) (by decide) (by decide) (Nat.le_of_ble_eq_true rfl) (Nat.le_of_ble_eq_true rfl) dX8_init_100 (fun adr_10 H he_10 hM hS => ?_)
  have hM := MW.pwN hM (by decide) rfl
  have b_0 := he_10 0 (by omega)
  have b_1 := he_10 1 (by omega)
  have b_2 := he_10 2 (by omega)
  have b_3 := he_10 3 (by omega)
  have b_4 := he_10 4 (by omega)
  have b_5 := he_10 5 (by omega)
  have b_6 := he_10 6 (by omega)
  have b_7 := he_10 7 (by omega)
  have b_8 := he_10 8 (by omega)
  have b_9 := he_10 9 (by omega)
  simp only [b_0, b_1, b_2, b_3, b_4, b_5, b_6, b_7, b_8, b_9] at hM hl hc
  try simp only [b_0, b_1, b_2, b_3, b_4, b_5, b_6, b_7, b_8, b_9]
  have hM : MW D A 11 adr_10 (pw ac [.int 0, .int 0, .ref (adr_10 1), .int 50, .int 10, .int 6, .int 0, .ref (adr_10 2), .ref (adr_10 3), .ref (adr_10 4), .ref (adr_10 5), .ref (adr_10 6), .int 0, .ref (adr_10 7), .ref (adr_10 8), .ref (adr_10 9), .null, .null, .null, .int 0, .int 0, .null, .null, .null, .null, .null, .null, .int 0, .null, .int 0, .null, .null, .int 0, .null, .null]) H := hM
  refine m_putF (ci := 8) (C := RX8) (T := TX8) (n := 35) (v := .ref (adr_10 10)) (ty := tyX8 16) hx hb hts inX8_ tyX8 tyX8_ok nmX8 hown hK hM hS rfl 0 (by omega) (show pw ac [.int 0, .int 0, .ref (adr_10 1), .int 50, .int 10, .int 6, .int 0, .ref (adr_10 2), .ref (adr_10 3), .ref (adr_10 4), .ref (adr_10 5), .ref (adr_10 6), .int 0, .ref (adr_10 7), .ref (adr_10 8), .ref (adr_10 9), .null, .null, .null, .int 0, .int 0, .null, .null, .null, .null, .null, .null, .int 0, .null, .int 0, .null, .null, .int 0, .null, .null] 0 = .inr (8, [.int 0, .int 0, .ref (adr_10 1), .int 50, .int 10, .int 6, .int 0, .ref (adr_10 2), .ref (adr_10 3), .ref (adr_10 4), .ref (adr_10 5), .ref (adr_10 6), .int 0, .ref (adr_10 7), .ref (adr_10 8), .ref (adr_10 9), .null, .null, .null, .int 0, .int 0, .null, .null, .null, .null, .null, .null, .int 0, .null, .int 0, .null, .null, .int 0, .null, .null]) from rfl) 16 (by decide) (hts _ (by decide +kernel)) rfl hin rfl (by decide +kernel) rfl rfl (Nat.le_of_ble_eq_true rfl) dX8_init_102 (fun H locs hM hS => ?_)
  have hM := MW.pwP (F2 := [.int 0, .int 0, .ref (adr_10 1), .int 50, .int 10, .int 6, .int 0, .ref (adr_10 2), .ref (adr_10 3), .ref (adr_10 4), .ref (adr_10 5), .ref (adr_10 6), .int 0, .ref (adr_10 7), .ref (adr_10 8), .ref (adr_10 9), .ref (adr_10 10), .null, .null, .int 0, .int 0, .null, .null, .null, .null, .null, .null, .int 0, .null, .int 0, .null, .null, .int 0, .null, .null]) hM
  refine lv_aload_n hx hb dX8_init_105 rfl (lv_at hl 0 rfl) ?_
  refine lv_bipush (v := 60) hx hb dX8_init_106 (by decide) ?_
  refine m_newa (atype := .int) (ty := .int) (a0 := (60, .inl (fun _ => 0))) (N' := 60) hx hb (hts _ (by decide +kernel)) hK hM hS hA 0 rfl rfl (fun cA => vp_cell_i cA _ _) (by decide) (by decide) (by decide) (Nat.le_of_ble_eq_true rfl) (Nat.le_of_ble_eq_true rfl) dX8_init_108 (fun adr_11 H he_11 hM hS => ?_)
  have hM := MW.pwN hM (by decide) rfl
  have b_0 := he_11 0 (by omega)
  have b_1 := he_11 1 (by omega)
  have b_2 := he_11 2 (by omega)
  have b_3 := he_11 3 (by omega)
  have b_4 := he_11 4 (by omega)
  have b_5 := he_11 5 (by omega)
  have b_6 := he_11 6 (by omega)
  have b_7 := he_11 7 (by omega)
  have b_8 := he_11 8 (by omega)
  have b_9 := he_11 9 (by omega)
  have b_10 := he_11 10 (by omega)
  simp only [b_0, b_1, b_2, b_3, b_4, b_5, b_6, b_7, b_8, b_9, b_10] at hM hl hc
  try simp only [b_0, b_1, b_2, b_3, b_4, b_5, b_6, b_7, b_8, b_9, b_10]
  have hM : MW D A 12 adr_11 (pw ac [.int 0, .int 0, .ref (adr_11 1), .int 50, .int 10, .int 6, .int 0, .ref (adr_11 2), .ref (adr_11 3), .ref (adr_11 4), .ref (adr_11 5), .ref (adr_11 6), .int 0, .ref (adr_11 7), .ref (adr_11 8), .ref (adr_11 9), .ref (adr_11 10), .null, .null, .int 0, .int 0, .null, .null, .null, .null, .null, .null, .int 0, .null, .int 0, .null, .null, .int 0, .null, .null]) H := hM
  refine m_putF (ci := 8) (C := RX8) (T := TX8) (n := 35) (v := .ref (adr_11 11)) (ty := tyX8 17) hx hb hts inX8_ tyX8 tyX8_ok nmX8 hown hK hM hS rfl 0 (by omega) (show pw ac [.int 0, .int 0, .ref (adr_11 1), .int 50, .int 10, .int 6, .int 0, .ref (adr_11 2), .ref (adr_11 3), .ref (adr_11 4), .ref (adr_11 5), .ref (adr_11 6), .int 0, .ref (adr_11 7), .ref (adr_11 8), .ref (adr_11 9), .ref (adr_11 10), .null, .null, .int 0, .int 0, .null, .null, .null, .null, .null, .null, .int 0, .null, .int 0, .null, .null, .int 0, .null, .null] 0 = .inr (8, [.int 0, .int 0, .ref (adr_11 1), .int 50, .int 10, .int 6, .int 0, .ref (adr_11 2), .ref (adr_11 3), .ref (adr_11 4), .ref (adr_11 5), .ref (adr_11 6), .int 0, .ref (adr_11 7), .ref (adr_11 8), .ref (adr_11 9), .ref (adr_11 10), .null, .null, .int 0, .int 0, .null, .null, .null, .null, .null, .null, .int 0, .null, .int 0, .null, .null, .int 0, .null, .null]) from rfl) 17 (by decide) (hts _ (by decide +kernel)) rfl hin rfl (by decide +kernel) rfl rfl (Nat.le_of_ble_eq_true rfl) dX8_init_110 (fun H locs hM hS => ?_)
  have hM := MW.pwP (F2 := [.int 0, .int 0, .ref (adr_11 1), .int 50, .int 10, .int 6, .int 0, .ref (adr_11 2), .ref (adr_11 3), .ref (adr_11 4), .ref (adr_11 5), .ref (adr_11 6), .int 0, .ref (adr_11 7), .ref (adr_11 8), .ref (adr_11 9), .ref (adr_11 10), .ref (adr_11 11), .null, .int 0, .int 0, .null, .null, .null, .null, .null, .null, .int 0, .null, .int 0, .null, .null, .int 0, .null, .null]) hM
  refine lv_aload_n hx hb dX8_init_113 rfl (lv_at hl 0 rfl) ?_
  refine lv_bipush (v := 60) hx hb dX8_init_114 (by decide) ?_
  refine m_newa (atype := .int) (ty := .int) (a0 := (60, .inl (fun _ => 0))) (N' := 60) hx hb (hts _ (by decide +kernel)) hK hM hS hA 0 rfl rfl (fun cA => vp_cell_i cA _ _) (by decide) (by decide) (by decide) (Nat.le_of_ble_eq_true rfl) (Nat.le_of_ble_eq_true rfl) dX8_init_116 (fun adr_12 H he_12 hM hS => ?_)
  have hM := MW.pwN hM (by decide) rfl
  have b_0 := he_12 0 (by omega)
  have b_1 := he_12 1 (by omega)
  have b_2 := he_12 2 (by omega)
  have b_3 := he_12 3 (by omega)
  have b_4 := he_12 4 (by omega)
  have b_5 := he_12 5 (by omega)
  have b_6 := he_12 6 (by omega)
  have b_7 := he_12 7 (by omega)
  have b_8 := he_12 8 (by omega)
  have b_9 := he_12 9 (by omega)
  have b_10 := he_12 10 (by omega)
  have b_11 := he_12 11 (by omega)
  simp only [b_0, b_1, b_2, b_3, b_4, b_5, b_6, b_7, b_8, b_9, b_10, b_11] at hM hl hc
  try simp only [b_0, b_1, b_2, b_3, b_4, b_5, b_6, b_7, b_8, b_9, b_10, b_11]
  have hM : MW D A 13 adr_12 (pw ac [.int 0, .int 0, .ref (adr_12 1), .int 50, .int 10, .int 6, .int 0, .ref (adr_12 2), .ref (adr_12 3), .ref (adr_12 4), .ref (adr_12 5), .ref (adr_12 6), .int 0, .ref (adr_12 7), .ref (adr_12 8), .ref (adr_12 9), .ref (adr_12 10), .ref (adr_12 11), .null, .int 0, .int 0, .null, .null, .null, .null, .null, .null, .int 0, .null, .int 0, .null, .null, .int 0, .null, .null]) H := hM
  refine m_putF (ci := 8) (C := RX8) (T := TX8) (n := 35) (v := .ref (adr_12 12)) (ty := tyX8 18) hx hb hts inX8_ tyX8 tyX8_ok nmX8 hown hK hM hS rfl 0 (by omega) (show pw ac [.int 0, .int 0, .ref (adr_12 1), .int 50, .int 10, .int 6, .int 0, .ref (adr_12 2), .ref (adr_12 3), .ref (adr_12 4), .ref (adr_12 5), .ref (adr_12 6), .int 0, .ref (adr_12 7), .ref (adr_12 8), .ref (adr_12 9), .ref (adr_12 10), .ref (adr_12 11), .null, .int 0, .int 0, .null, .null, .null, .null, .null, .null, .int 0, .null, .int 0, .null, .null, .int 0, .null, .null] 0 = .inr (8, [.int 0, .int 0, .ref (adr_12 1), .int 50, .int 10, .int 6, .int 0, .ref (adr_12 2), .ref (adr_12 3), .ref (adr_12 4), .ref (adr_12 5), .ref (adr_12 6), .int 0, .ref (adr_12 7), .ref (adr_12 8), .ref (adr_12 9), .ref (adr_12 10), .ref (adr_12 11), .null, .int 0, .int 0, .null, .null, .null, .null, .null, .null, .int 0, .null, .int 0, .null, .null, .int 0, .null, .null]) from rfl) 18 (by decide) (hts _ (by decide +kernel)) rfl hin rfl (by decide +kernel) rfl rfl (Nat.le_of_ble_eq_true rfl) dX8_init_118 (fun H locs hM hS => ?_)
  have hM := MW.pwP (F2 := [.int 0, .int 0, .ref (adr_12 1), .int 50, .int 10, .int 6, .int 0, .ref (adr_12 2), .ref (adr_12 3), .ref (adr_12 4), .ref (adr_12 5), .ref (adr_12 6), .int 0, .ref (adr_12 7), .ref (adr_12 8), .ref (adr_12 9), .ref (adr_12 10), .ref (adr_12 11), .ref (adr_12 12), .int 0, .int 0, .null, .null, .null, .null, .null, .null, .int 0, .null, .int 0, .null, .null, .int 0, .null, .null]) hM
  refine lv_aload_n hx hb dX8_init_121 rfl (lv_at hl 0 rfl) ?_
  refine lv_bipush (v := 60) hx hb dX8_init_122 (by decide) ?_
  refine m_newa (atype := .int) (ty := .int) (a0 := (60, .inl (fun _ => 0))) (N' := 60) hx hb (hts _ (by decide +kernel)) hK hM hS hA 0 rfl rfl (fun cA => vp_cell_i cA _ _) (by decide) (by decide) (by decide) (Nat.le_of_ble_eq_true rfl) (Nat.le_of_ble_eq_true rfl) dX8_init_124 (fun adr_13 H he_13 hM hS => ?_)
  have hM := MW.pwN hM (by decide) rfl
  have b_0 := he_13 0 (by omega)
  have b_1 := he_13 1 (by omega)
  have b_2 := he_13 2 (by omega)
  have b_3 := he_13 3 (by omega)
  have b_4 := he_13 4 (by omega)
  have b_5 := he_13 5 (by omega)
  have b_6 := he_13 6 (by omega)
  have b_7 := he_13 7 (by omega)
  have b_8 := he_13 8 (by omega)
  have b_9 := he_13 9 (by omega)
  have b_10 := he_13 10 (by omega)
  have b_11 := he_13 11 (by omega)
  have b_12 := he_13 12 (by omega)
  simp only [b_0, b_1, b_2, b_3, b_4, b_5, b_6, b_7, b_8, b_9, b_10, b_11, b_12] at hM hl hc
  try simp only [b_0, b_1, b_2, b_3, b_4, b_5, b_6, b_7, b_8, b_9, b_10, b_11, b_12]
  have hM : MW D A 14 adr_13 (pw ac [.int 0, .int 0, .ref (adr_13 1), .int 50, .int 10, .int 6, .int 0, .ref (adr_13 2), .ref (adr_13 3), .ref (adr_13 4), .ref (adr_13 5), .ref (adr_13 6), .int 0, .ref (adr_13 7), .ref (adr_13 8), .ref (adr_13 9), .ref (adr_13 10), .ref (adr_13 11), .ref (adr_13 12), .int 0, .int 0, .null, .null, .null, .null, .null, .null, .int 0, .null, .int 0, .null, .null, .int 0, .null, .null]) H := hM
  refine m_putF (ci := 8) (C := RX8) (T := TX8) (n := 35) (v := .ref (adr_13 13)) (ty := tyX8 21) hx hb hts inX8_ tyX8 tyX8_ok nmX8 hown hK hM hS rfl 0 (by omega) (show pw ac [.int 0, .int 0, .ref (adr_13 1), .int 50, .int 10, .int 6, .int 0, .ref (adr_13 2), .ref (adr_13 3), .ref (adr_13 4), .ref (adr_13 5), .ref (adr_13 6), .int 0, .ref (adr_13 7), .ref (adr_13 8), .ref (adr_13 9), .ref (adr_13 10), .ref (adr_13 11), .ref (adr_13 12), .int 0, .int 0, .null, .null, .null, .null, .null, .null, .int 0, .null, .int 0, .null, .null, .int 0, .null, .null] 0 = .inr (8, [.int 0, .int 0, .ref (adr_13 1), .int 50, .int 10, .int 6, .int 0, .ref (adr_13 2), .ref (adr_13 3), .ref (adr_13 4), .ref (adr_13 5), .ref (adr_13 6), .int 0, .ref (adr_13 7), .ref (adr_13 8), .ref (adr_13 9), .ref (adr_13 10), .ref (adr_13 11), .ref (adr_13 12), .int 0, .int 0, .null, .null, .null, .null, .null, .null, .int 0, .null, .int 0, .null, .null, .int 0, .null, .null]) from rfl) 21 (by decide) (hts _ (by decide +kernel)) rfl hin rfl (by decide +kernel) rfl rfl (Nat.le_of_ble_eq_true rfl) dX8_init_126 (fun H locs hM hS => ?_)
  have hM := MW.pwP (F2 := [.int 0, .int 0, .ref (adr_13 1), .int 50, .int 10, .int 6, .int 0, .ref (adr_13 2), .ref (adr_13 3), .ref (adr_13 4), .ref (adr_13 5), .ref (adr_13 6), .int 0, .ref (adr_13 7), .ref (adr_13 8), .ref (adr_13 9), .ref (adr_13 10), .ref (adr_13 11), .ref (adr_13 12), .int 0, .int 0, .ref (adr_13 13), .null, .null, .null, .null, .null, .int 0, .null, .int 0, .null, .null, .int 0, .null, .null]) hM
  refine lv_aload_n hx hb dX8_init_129 rfl (lv_at hl 0 rfl) ?_
  refine lv_sipush (v := 480) hx hb dX8_init_130 (by decide) ?_
  refine m_newa (atype := .int) (ty := .int) (a0 := (480, .inl (fun _ => 0))) (N' := 480) hx hb (hts _ (by decide +kernel)) hK hM hS hA 0 rfl rfl (fun cA => vp_cell_i cA _ _) (by decide) (by decide) (by decide) (Nat.le_of_ble_eq_true rfl) (Nat.le_of_ble_eq_true rfl) dX8_init_133 (fun adr_14 H he_14 hM hS => ?_)
  have hM := MW.pwN hM (by decide) rfl
  have b_0 := he_14 0 (by omega)
  have b_1 := he_14 1 (by omega)
  have b_2 := he_14 2 (by omega)
  have b_3 := he_14 3 (by omega)
  have b_4 := he_14 4 (by omega)
  have b_5 := he_14 5 (by omega)
  have b_6 := he_14 6 (by omega)
  have b_7 := he_14 7 (by omega)
  have b_8 := he_14 8 (by omega)
  have b_9 := he_14 9 (by omega)
  have b_10 := he_14 10 (by omega)
  have b_11 := he_14 11 (by omega)
  have b_12 := he_14 12 (by omega)
  have b_13 := he_14 13 (by omega)
  simp only [b_0, b_1, b_2, b_3, b_4, b_5, b_6, b_7, b_8, b_9, b_10, b_11, b_12, b_13] at hM hl hc
  try simp only [b_0, b_1, b_2, b_3, b_4, b_5, b_6, b_7, b_8, b_9, b_10, b_11, b_12, b_13]
  have hM : MW D A 15 adr_14 (pw ac [.int 0, .int 0, .ref (adr_14 1), .int 50, .int 10, .int 6, .int 0, .ref (adr_14 2), .ref (adr_14 3), .ref (adr_14 4), .ref (adr_14 5), .ref (adr_14 6), .int 0, .ref (adr_14 7), .ref (adr_14 8), .ref (adr_14 9), .ref (adr_14 10), .ref (adr_14 11), .ref (adr_14 12), .int 0, .int 0, .ref (adr_14 13), .null, .null, .null, .null, .null, .int 0, .null, .int 0, .null, .null, .int 0, .null, .null]) H := hM
  refine m_putF (ci := 8) (C := RX8) (T := TX8) (n := 35) (v := .ref (adr_14 14)) (ty := tyX8 22) hx hb hts inX8_ tyX8 tyX8_ok nmX8 hown hK hM hS rfl 0 (by omega) (show pw ac [.int 0, .int 0, .ref (adr_14 1), .int 50, .int 10, .int 6, .int 0, .ref (adr_14 2), .ref (adr_14 3), .ref (adr_14 4), .ref (adr_14 5), .ref (adr_14 6), .int 0, .ref (adr_14 7), .ref (adr_14 8), .ref (adr_14 9), .ref (adr_14 10), .ref (adr_14 11), .ref (adr_14 12), .int 0, .int 0, .ref (adr_14 13), .null, .null, .null, .null, .null, .int 0, .null, .int 0, .null, .null, .int 0, .null, .null] 0 = .inr (8, [.int 0, .int 0, .ref (adr_14 1), .int 50, .int 10, .int 6, .int 0, .ref (adr_14 2), .ref (adr_14 3), .ref (adr_14 4), .ref (adr_14 5), .ref (adr_14 6), .int 0, .ref (adr_14 7), .ref (adr_14 8), .ref (adr_14 9), .ref (adr_14 10), .ref (adr_14 11), .ref (adr_14 12), .int 0, .int 0, .ref (adr_14 13), .null, .null, .null, .null, .null, .int 0, .null, .int 0, .null, .null, .int 0, .null, .null]) from rfl) 22 (by decide) (hts _ (by decide +kernel)) rfl hin rfl (by decide +kernel) rfl rfl (Nat.le_of_ble_eq_true rfl) dX8_init_135 (fun H locs hM hS => ?_)
  have hM := MW.pwP (F2 := [.int 0, .int 0, .ref (adr_14 1), .int 50, .int 10, .int 6, .int 0, .ref (adr_14 2), .ref (adr_14 3), .ref (adr_14 4), .ref (adr_14 5), .ref (adr_14 6), .int 0, .ref (adr_14 7), .ref (adr_14 8), .ref (adr_14 9), .ref (adr_14 10), .ref (adr_14 11), .ref (adr_14 12), .int 0, .int 0, .ref (adr_14 13), .ref (adr_14 14), .null, .null, .null, .null, .int 0, .null, .int 0, .null, .null, .int 0, .null, .null]) hM
  refine lv_aload_n hx hb dX8_init_138 rfl (lv_at hl 0 rfl) ?_
  refine lv_bipush (v := 60) hx hb dX8_init_139 (by decide) ?_
  refine m_newa (atype := .int) (ty := .int) (a0 := (60, .inl (fun _ => 0))) (N' := 60) hx hb (hts _ (by decide +kernel)) hK hM hS hA 0 rfl rfl (fun cA => vp_cell_i cA _ _) (by decide) (by decide) (by decide) (Nat.le_of_ble_eq_true rfl) (Nat.le_of_ble_eq_true rfl) dX8_init_141 (fun adr_15 H he_15 hM hS => ?_)
  have hM := MW.pwN hM (by decide) rfl
  have b_0 := he_15 0 (by omega)
  have b_1 := he_15 1 (by omega)
  have b_2 := he_15 2 (by omega)
  have b_3 := he_15 3 (by omega)
  have b_4 := he_15 4 (by omega)
  have b_5 := he_15 5 (by omega)
  have b_6 := he_15 6 (by omega)
  have b_7 := he_15 7 (by omega)
  have b_8 := he_15 8 (by omega)
  have b_9 := he_15 9 (by omega)
  have b_10 := he_15 10 (by omega)
  have b_11 := he_15 11 (by omega)
  have b_12 := he_15 12 (by omega)
  have b_13 := he_15 13 (by omega)
  have b_14 := he_15 14 (by omega)
  simp only [b_0, b_1, b_2, b_3, b_4, b_5, b_6, b_7, b_8, b_9, b_10, b_11, b_12, b_13, b_14] at hM hl hc
  try simp only [b_0, b_1, b_2, b_3, b_4, b_5, b_6, b_7, b_8, b_9, b_10, b_11, b_12, b_13, b_14]
  have hM : MW D A 16 adr_15 (pw ac [.int 0, .int 0, .ref (adr_15 1), .int 50, .int 10, .int 6, .int 0, .ref (adr_15 2), .ref (adr_15 3), .ref (adr_15 4), .ref (adr_15 5), .ref (adr_15 6), .int 0, .ref (adr_15 7), .ref (adr_15 8), .ref (adr_15 9), .ref (adr_15 10), .ref (adr_15 11), .ref (adr_15 12), .int 0, .int 0, .ref (adr_15 13), .ref (adr_15 14), .null, .null, .null, .null, .int 0, .null, .int 0, .null, .null, .int 0, .null, .null]) H := hM
  refine m_putF (ci := 8) (C := RX8) (T := TX8) (n := 35) (v := .ref (adr_15 15)) (ty := tyX8 23) hx hb hts inX8_ tyX8 tyX8_ok nmX8 hown hK hM hS rfl 0 (by omega) (show pw ac [.int 0, .int 0, .ref (adr_15 1), .int 50, .int 10, .int 6, .int 0, .ref (adr_15 2), .ref (adr_15 3), .ref (adr_15 4), .ref (adr_15 5), .ref (adr_15 6), .int 0, .ref (adr_15 7), .ref (adr_15 8), .ref (adr_15 9), .ref (adr_15 10), .ref (adr_15 11), .ref (adr_15 12), .int 0, .int 0, .ref (adr_15 13), .ref (adr_15 14), .null, .null, .null, .null, .int 0, .null, .int 0, .null, .null, .int 0, .null, .null] 0 = .inr (8, [.int 0, .int 0, .ref (adr_15 1), .int 50, .int 10, .int 6, .int 0, .ref (adr_15 2), .ref (adr_15 3), .ref (adr_15 4), .ref (adr_15 5), .ref (adr_15 6), .int 0, .ref (adr_15 7), .ref (adr_15 8), .ref (adr_15 9), .ref (adr_15 10), .ref (adr_15 11), .ref (adr_15 12), .int 0, .int 0, .ref (adr_15 13), .ref (adr_15 14), .null, .null, .null, .null, .int 0, .null, .int 0, .null, .null, .int 0, .null, .null]) from rfl) 23 (by decide) (hts _ (by decide +kernel)) rfl hin rfl (by decide +kernel) rfl rfl (Nat.le_of_ble_eq_true rfl) dX8_init_143 (fun H locs hM hS => ?_)
  have hM := MW.pwP (F2 := [.int 0, .int 0, .ref (adr_15 1), .int 50, .int 10, .int 6, .int 0, .ref (adr_15 2), .ref (adr_15 3), .ref (adr_15 4), .ref (adr_15 5), .ref (adr_15 6), .int 0, .ref (adr_15 7), .ref (adr_15 8), .ref (adr_15 9), .ref (adr_15 10), .ref (adr_15 11), .ref (adr_15 12), .int 0, .int 0, .ref (adr_15 13), .ref (adr_15 14), .ref (adr_15 15), .null, .null, .null, .int 0, .null, .int 0, .null, .null, .int 0, .null, .null]) hM
  refine lv_aload_n hx hb dX8_init_146 rfl (lv_at hl 0 rfl) ?_
  refine lv_bipush (v := 60) hx hb dX8_init_147 (by decide) ?_
  refine m_newa (atype := .int) (ty := .int) (a0 := (60, .inl (fun _ => 0))) (N' := 60) hx hb (hts _ (by decide +kernel)) hK hM hS hA 0 rfl rfl (fun cA => vp_cell_i cA _ _) (by decide) (by decide) (by decide) (Nat.le_of_ble_eq_true rfl) (Nat.le_of_ble_eq_true rfl) dX8_init_149 (fun adr_16 H he_16 hM hS => ?_)
  have hM := MW.pwN hM (by decide) rfl
  have b_0 := he_16 0 (by omega)
  have b_1 := he_16 1 (by omega)
  have b_2 := he_16 2 (by omega)
  have b_3 := he_16 3 (by omega)
  have b_4 := he_16 4 (by omega)
  have b_5 := he_16 5 (by omega)
  have b_6 := he_16 6 (by omega)
  have b_7 := he_16 7 (by omega)
  have b_8 := he_16 8 (by omega)
  have b_9 := he_16 9 (by omega)
  have b_10 := he_16 10 (by omega)
  have b_11 := he_16 11 (by omega)
  have b_12 := he_16 12 (by omega)
  have b_13 := he_16 13 (by omega)
  have b_14 := he_16 14 (by omega)
  have b_15 := he_16 15 (by omega)
  simp only [b_0, b_1, b_2, b_3, b_4, b_5, b_6, b_7, b_8, b_9, b_10, b_11, b_12, b_13, b_14, b_15] at hM hl hc
  try simp only [b_0, b_1, b_2, b_3, b_4, b_5, b_6, b_7, b_8, b_9, b_10, b_11, b_12, b_13, b_14, b_15]
  have hM : MW D A 17 adr_16 (pw ac [.int 0, .int 0, .ref (adr_16 1), .int 50, .int 10, .int 6, .int 0, .ref (adr_16 2), .ref (adr_16 3), .ref (adr_16 4), .ref (adr_16 5), .ref (adr_16 6), .int 0, .ref (adr_16 7), .ref (adr_16 8), .ref (adr_16 9), .ref (adr_16 10), .ref (adr_16 11), .ref (adr_16 12), .int 0, .int 0, .ref (adr_16 13), .ref (adr_16 14), .ref (adr_16 15), .null, .null, .null, .int 0, .null, .int 0, .null, .null, .int 0, .null, .null]) H := hM
  refine m_putF (ci := 8) (C := RX8) (T := TX8) (n := 35) (v := .ref (adr_16 16)) (ty := tyX8 24) hx hb hts inX8_ tyX8 tyX8_ok nmX8 hown hK hM hS rfl 0 (by omega) (show pw ac [.int 0, .int 0, .ref (adr_16 1), .int 50, .int 10, .int 6, .int 0, .ref (adr_16 2), .ref (adr_16 3), .ref (adr_16 4), .ref (adr_16 5), .ref (adr_16 6), .int 0, .ref (adr_16 7), .ref (adr_16 8), .ref (adr_16 9), .ref (adr_16 10), .ref (adr_16 11), .ref (adr_16 12), .int 0, .int 0, .ref (adr_16 13), .ref (adr_16 14), .ref (adr_16 15), .null, .null, .null, .int 0, .null, .int 0, .null, .null, .int 0, .null, .null] 0 = .inr (8, [.int 0, .int 0, .ref (adr_16 1), .int 50, .int 10, .int 6, .int 0, .ref (adr_16 2), .ref (adr_16 3), .ref (adr_16 4), .ref (adr_16 5), .ref (adr_16 6), .int 0, .ref (adr_16 7), .ref (adr_16 8), .ref (adr_16 9), .ref (adr_16 10), .ref (adr_16 11), .ref (adr_16 12), .int 0, .int 0, .ref (adr_16 13), .ref (adr_16 14), .ref (adr_16 15), .null, .null, .null, .int 0, .null, .int 0, .null, .null, .int 0, .null, .null]) from rfl) 24 (by decide) (hts _ (by decide +kernel)) rfl hin rfl (by decide +kernel) rfl rfl (Nat.le_of_ble_eq_true rfl) dX8_init_151 (fun H locs hM hS => ?_)
  have hM := MW.pwP (F2 := [.int 0, .int 0, .ref (adr_16 1), .int 50, .int 10, .int 6, .int 0, .ref (adr_16 2), .ref (adr_16 3), .ref (adr_16 4), .ref (adr_16 5), .ref (adr_16 6), .int 0, .ref (adr_16 7), .ref (adr_16 8), .ref (adr_16 9), .ref (adr_16 10), .ref (adr_16 11), .ref (adr_16 12), .int 0, .int 0, .ref (adr_16 13), .ref (adr_16 14), .ref (adr_16 15), .ref (adr_16 16), .null, .null, .int 0, .null, .int 0, .null, .null, .int 0, .null, .null]) hM
  refine lv_aload_n hx hb dX8_init_154 rfl (lv_at hl 0 rfl) ?_
  refine lv_sipush (v := 600) hx hb dX8_init_155 (by decide) ?_
  refine m_newa (atype := .int) (ty := .int) (a0 := (600, .inl (fun _ => 0))) (N' := 600) hx hb (hts _ (by decide +kernel)) hK hM hS hA 0 rfl rfl (fun cA => vp_cell_i cA _ _) (by decide) (by decide) (by decide) (Nat.le_of_ble_eq_true rfl) (Nat.le_of_ble_eq_true rfl) dX8_init_158 (fun adr_17 H he_17 hM hS => ?_)
  have hM := MW.pwN hM (by decide) rfl
  have b_0 := he_17 0 (by omega)
  have b_1 := he_17 1 (by omega)
  have b_2 := he_17 2 (by omega)
  have b_3 := he_17 3 (by omega)
  have b_4 := he_17 4 (by omega)
  have b_5 := he_17 5 (by omega)
  have b_6 := he_17 6 (by omega)
  have b_7 := he_17 7 (by omega)
  have b_8 := he_17 8 (by omega)
  have b_9 := he_17 9 (by omega)
  have b_10 := he_17 10 (by omega)
  have b_11 := he_17 11 (by omega)
  have b_12 := he_17 12 (by omega)
  have b_13 := he_17 13 (by omega)
  have b_14 := he_17 14 (by omega)
  have b_15 := he_17 15 (by omega)
  have b_16 := he_17 16 (by omega)
  simp only [b_0, b_1, b_2, b_3, b_4, b_5, b_6, b_7, b_8, b_9, b_10, b_11, b_12, b_13, b_14, b_15, b_16] at hM hl hc
  try simp only [b_0, b_1, b_2, b_3, b_4, b_5, b_6, b_7, b_8, b_9, b_10, b_11, b_12, b_13, b_14, b_15, b_16]
  have hM : MW D A 18 adr_17 (pw ac [.int 0, .int 0, .ref (adr_17 1), .int 50, .int 10, .int 6, .int 0, .ref (adr_17 2), .ref (adr_17 3), .ref (adr_17 4), .ref (adr_17 5), .ref (adr_17 6), .int 0, .ref (adr_17 7), .ref (adr_17 8), .ref (adr_17 9), .ref (adr_17 10), .ref (adr_17 11), .ref (adr_17 12), .int 0, .int 0, .ref (adr_17 13), .ref (adr_17 14), .ref (adr_17 15), .ref (adr_17 16), .null, .null, .int 0, .null, .int 0, .null, .null, .int 0, .null, .null]) H := hM
  refine m_putF (ci := 8) (C := RX8) (T := TX8) (n := 35) (v := .ref (adr_17 17)) (ty := tyX8 25) hx hb hts inX8_ tyX8 tyX8_ok nmX8 hown hK hM hS rfl 0 (by omega) (show pw ac [.int 0, .int 0, .ref (adr_17 1), .int 50, .int 10, .int 6, .int 0, .ref (adr_17 2), .ref (adr_17 3), .ref (adr_17 4), .ref (adr_17 5), .ref (adr_17 6), .int 0, .ref (adr_17 7), .ref (adr_17 8), .ref (adr_17 9), .ref (adr_17 10), .ref (adr_17 11), .ref (adr_17 12), .int 0, .int 0, .ref (adr_17 13), .ref (adr_17 14), .ref (adr_17 15), .ref (adr_17 16), .null, .null, .int 0, .null, .int 0, .null, .null, .int 0, .null, .null] 0 = .inr (8, [.int 0, .int 0, .ref (adr_17 1), .int 50, .int 10, .int 6, .int 0, .ref (adr_17 2), .ref (adr_17 3), .ref (adr_17 4), .ref (adr_17 5), .ref (adr_17 6), .int 0, .ref (adr_17 7), .ref (adr_17 8), .ref (adr_17 9), .ref (adr_17 10), .ref (adr_17 11), .ref (adr_17 12), .int 0, .int 0, .ref (adr_17 13), .ref (adr_17 14), .ref (adr_17 15), .ref (adr_17 16), .null, .null, .int 0, .null, .int 0, .null, .null, .int 0, .null, .null]) from rfl) 25 (by decide) (hts _ (by decide +kernel)) rfl hin rfl (by decide +kernel) rfl rfl (Nat.le_of_ble_eq_true rfl) dX8_init_160 (fun H locs hM hS => ?_)
  have hM := MW.pwP (F2 := [.int 0, .int 0, .ref (adr_17 1), .int 50, .int 10, .int 6, .int 0, .ref (adr_17 2), .ref (adr_17 3), .ref (adr_17 4), .ref (adr_17 5), .ref (adr_17 6), .int 0, .ref (adr_17 7), .ref (adr_17 8), .ref (adr_17 9), .ref (adr_17 10), .ref (adr_17 11), .ref (adr_17 12), .int 0, .int 0, .ref (adr_17 13), .ref (adr_17 14), .ref (adr_17 15), .ref (adr_17 16), .ref (adr_17 17), .null, .int 0, .null, .int 0, .null, .null, .int 0, .null, .null]) hM
  refine lv_aload_n hx hb dX8_init_163 rfl (lv_at hl 0 rfl) ?_
  refine lv_sipush (v := 200) hx hb dX8_init_164 (by decide) ?_
  refine m_newa (atype := .int) (ty := .int) (a0 := (200, .inl (fun _ => 0))) (N' := 200) hx hb (hts _ (by decide +kernel)) hK hM hS hA 0 rfl rfl (fun cA => vp_cell_i cA _ _) (by decide) (by decide) (by decide) (Nat.le_of_ble_eq_true rfl) (Nat.le_of_ble_eq_true rfl) dX8_init_167 (fun adr_18 H he_18 hM hS => ?_)
  have hM := MW.pwN hM (by decide) rfl
  have b_0 := he_18 0 (by omega)
  have b_1 := he_18 1 (by omega)
  have b_2 := he_18 2 (by omega)
  have b_3 := he_18 3 (by omega)
  have b_4 := he_18 4 (by omega)
  have b_5 := he_18 5 (by omega)
  have b_6 := he_18 6 (by omega)
  have b_7 := he_18 7 (by omega)
  have b_8 := he_18 8 (by omega)
  have b_9 := he_18 9 (by omega)
  have b_10 := he_18 10 (by omega)
  have b_11 := he_18 11 (by omega)
  have b_12 := he_18 12 (by omega)
  have b_13 := he_18 13 (by omega)
  have b_14 := he_18 14 (by omega)
  have b_15 := he_18 15 (by omega)
  have b_16 := he_18 16 (by omega)
  have b_17 := he_18 17 (by omega)
  simp only [b_0, b_1, b_2, b_3, b_4, b_5, b_6, b_7, b_8, b_9, b_10, b_11, b_12, b_13, b_14, b_15, b_16, b_17] at hM hl hc
  try simp only [b_0, b_1, b_2, b_3, b_4, b_5, b_6, b_7, b_8, b_9, b_10, b_11, b_12, b_13, b_14, b_15, b_16, b_17]
  have hM : MW D A 19 adr_18 (pw ac [.int 0, .int 0, .ref (adr_18 1), .int 50, .int 10, .int 6, .int 0, .ref (adr_18 2), .ref (adr_18 3), .ref (adr_18 4), .ref (adr_18 5), .ref (adr_18 6), .int 0, .ref (adr_18 7), .ref (adr_18 8), .ref (adr_18 9), .ref (adr_18 10), .ref (adr_18 11), .ref (adr_18 12), .int 0, .int 0, .ref (adr_18 13), .ref (adr_18 14), .ref (adr_18 15), .ref (adr_18 16), .ref (adr_18 17), .null, .int 0, .null, .int 0, .null, .null, .int 0, .null, .null]) H := hM
  refine m_putF (ci := 8) (C := RX8) (T := TX8) (n := 35) (v := .ref (adr_18 18)) (ty := tyX8 26) hx hb hts inX8_ tyX8 tyX8_ok nmX8 hown hK hM hS rfl 0 (by omega) (show pw ac [.int 0, .int 0, .ref (adr_18 1), .int 50, .int 10, .int 6, .int 0, .ref (adr_18 2), .ref (adr_18 3), .ref (adr_18 4), .ref (adr_18 5), .ref (adr_18 6), .int 0, .ref (adr_18 7), .ref (adr_18 8), .ref (adr_18 9), .ref (adr_18 10), .ref (adr_18 11), .ref (adr_18 12), .int 0, .int 0, .ref (adr_18 13), .ref (adr_18 14), .ref (adr_18 15), .ref (adr_18 16), .ref (adr_18 17), .null, .int 0, .null, .int 0, .null, .null, .int 0, .null, .null] 0 = .inr (8, [.int 0, .int 0, .ref (adr_18 1), .int 50, .int 10, .int 6, .int 0, .ref (adr_18 2), .ref (adr_18 3), .ref (adr_18 4), .ref (adr_18 5), .ref (adr_18 6), .int 0, .ref (adr_18 7), .ref (adr_18 8), .ref (adr_18 9), .ref (adr_18 10), .ref (adr_18 11), .ref (adr_18 12), .int 0, .int 0, .ref (adr_18 13), .ref (adr_18 14), .ref (adr_18 15), .ref (adr_18 16), .ref (adr_18 17), .null, .int 0, .null, .int 0, .null, .null, .int 0, .null, .null]) from rfl) 26 (by decide) (hts _ (by decide +kernel)) rfl hin rfl (by decide +kernel) rfl rfl (Nat.le_of_ble_eq_true rfl) dX8_init_169 (fun H locs hM hS => ?_)
  have hM := MW.pwP (F2 := [.int 0, .int 0, .ref (adr_18 1), .int 50, .int 10, .int 6, .int 0, .ref (adr_18 2), .ref (adr_18 3), .ref (adr_18 4), .ref (adr_18 5), .ref (adr_18 6), .int 0, .ref (adr_18 7), .ref (adr_18 8), .ref (adr_18 9), .ref (adr_18 10), .ref (adr_18 11), .ref (adr_18 12), .int 0, .int 0, .ref (adr_18 13), .ref (adr_18 14), .ref (adr_18 15), .ref (adr_18 16), .ref (adr_18 17), .ref (adr_18 18), .int 0, .null, .int 0, .null, .null, .int 0, .null, .null]) hM
  refine lv_aload_n hx hb dX8_init_172 rfl (lv_at hl 0 rfl) ?_
  refine lv_bipush (v := 40) hx hb dX8_init_173 (by decide) ?_
  refine m_newa (atype := .int) (ty := .int) (a0 := (40, .inl (fun _ => 0))) (N' := 40) hx hb (hts _ (by decide +kernel)) hK hM hS hA 0 rfl rfl (fun cA => vp_cell_i cA _ _) (by decide) (by decide) (by decide) (Nat.le_of_ble_eq_true rfl) (Nat.le_of_ble_eq_true rfl) dX8_init_175 (fun adr_19 H he_19 hM hS => ?_)
  have hM := MW.pwN hM (by decide) rfl
  have b_0 := he_19 0 (by omega)
  have b_1 := he_19 1 (by omega)
  have b_2 := he_19 2 (by omega)
  have b_3 := he_19 3 (by omega)
  have b_4 := he_19 4 (by omega)
  have b_5 := he_19 5 (by omega)
  have b_6 := he_19 6 (by omega)
  have b_7 := he_19 7 (by omega)
  have b_8 := he_19 8 (by omega)
  have b_9 := he_19 9 (by omega)
  have b_10 := he_19 10 (by omega)
  have b_11 := he_19 11 (by omega)
  have b_12 := he_19 12 (by omega)
  have b_13 := he_19 13 (by omega)
  have b_14 := he_19 14 (by omega)
  have b_15 := he_19 15 (by omega)
  have b_16 := he_19 16 (by omega)
  have b_17 := he_19 17 (by omega)
  have b_18 := he_19 18 (by omega)
  simp only [b_0, b_1, b_2, b_3, b_4, b_5, b_6, b_7, b_8, b_9, b_10, b_11, b_12, b_13, b_14, b_15, b_16, b_17, b_18] at hM hl hc
  try simp only [b_0, b_1, b_2, b_3, b_4, b_5, b_6, b_7, b_8, b_9, b_10, b_11, b_12, b_13, b_14, b_15, b_16, b_17, b_18]
  have hM : MW D A 20 adr_19 (pw ac [.int 0, .int 0, .ref (adr_19 1), .int 50, .int 10, .int 6, .int 0, .ref (adr_19 2), .ref (adr_19 3), .ref (adr_19 4), .ref (adr_19 5), .ref (adr_19 6), .int 0, .ref (adr_19 7), .ref (adr_19 8), .ref (adr_19 9), .ref (adr_19 10), .ref (adr_19 11), .ref (adr_19 12), .int 0, .int 0, .ref (adr_19 13), .ref (adr_19 14), .ref (adr_19 15), .ref (adr_19 16), .ref (adr_19 17), .ref (adr_19 18), .int 0, .null, .int 0, .null, .null, .int 0, .null, .null]) H := hM
  refine m_putF (ci := 8) (C := RX8) (T := TX8) (n := 35) (v := .ref (adr_19 19)) (ty := tyX8 28) hx hb hts inX8_ tyX8 tyX8_ok nmX8 hown hK hM hS rfl 0 (by omega) (show pw ac [.int 0, .int 0, .ref (adr_19 1), .int 50, .int 10, .int 6, .int 0, .ref (adr_19 2), .ref (adr_19 3), .ref (adr_19 4), .ref (adr_19 5), .ref (adr_19 6), .int 0, .ref (adr_19 7), .ref (adr_19 8), .ref (adr_19 9), .ref (adr_19 10), .ref (adr_19 11), .ref (adr_19 12), .int 0, .int 0, .ref (adr_19 13), .ref (adr_19 14), .ref (adr_19 15), .ref (adr_19 16), .ref (adr_19 17), .ref (adr_19 18), .int 0, .null, .int 0, .null, .null, .int 0, .null, .null] 0 = .inr (8, [.int 0, .int 0, .ref (adr_19 1), .int 50, .int 10, .int 6, .int 0, .ref (adr_19 2), .ref (adr_19 3), .ref (adr_19 4), .ref (adr_19 5), .ref (adr_19 6), .int 0, .ref (adr_19 7), .ref (adr_19 8), .ref (adr_19 9), .ref (adr_19 10), .ref (adr_19 11), .ref (adr_19 12), .int 0, .int 0, .ref (adr_19 13), .ref (adr_19 14), .ref (adr_19 15), .ref (adr_19 16), .ref (adr_19 17), .ref (adr_19 18), .int 0, .null, .int 0, .null, .null, .int 0, .null, .null]) from rfl) 28 (by decide) (hts _ (by decide +kernel)) rfl hin rfl (by decide +kernel) rfl rfl (Nat.le_of_ble_eq_true rfl) dX8_init_177 (fun H locs hM hS => ?_)
  have hM := MW.pwP (F2 := [.int 0, .int 0, .ref (adr_19 1), .int 50, .int 10, .int 6, .int 0, .ref (adr_19 2), .ref (adr_19 3), .ref (adr_19 4), .ref (adr_19 5), .ref (adr_19 6), .int 0, .ref (adr_19 7), .ref (adr_19 8), .ref (adr_19 9), .ref (adr_19 10), .ref (adr_19 11), .ref (adr_19 12), .int 0, .int 0, .ref (adr_19 13), .ref (adr_19 14), .ref (adr_19 15), .ref (adr_19 16), .ref (adr_19 17), .ref (adr_19 18), .int 0, .ref (adr_19 19), .int 0, .null, .null, .int 0, .null, .null]) hM
  refine lv_aload_n hx hb dX8_init_180 rfl (lv_at hl 0 rfl) ?_
  refine lv_iconst (v := 4) hx hb dX8_init_181 (by decide) ?_
  refine m_newa (atype := .int) (ty := .int) (a0 := (4, .inl (fun _ => 0))) (N' := 4) hx hb (hts _ (by decide +kernel)) hK hM hS hA 0 rfl rfl (fun cA => vp_cell_i cA _ _) (by decide) (by decide) (by decide) (Nat.le_of_ble_eq_true rfl) (Nat.le_of_ble_eq_true rfl) dX8_init_182 (fun adr_20 H he_20 hM hS => ?_)
  have hM := MW.pwN hM (by decide) rfl
  have b_0 := he_20 0 (by omega)
  have b_1 := he_20 1 (by omega)
  have b_2 := he_20 2 (by omega)
  have b_3 := he_20 3 (by omega)
  have b_4 := he_20 4 (by omega)
  have b_5 := he_20 5 (by omega)
  have b_6 := he_20 6 (by omega)
  have b_7 := he_20 7 (by omega)
  have b_8 := he_20 8 (by omega)
  have b_9 := he_20 9 (by omega)
  have b_10 := he_20 10 (by omega)
  have b_11 := he_20 11 (by omega)
  have b_12 := he_20 12 (by omega)
  have b_13 := he_20 13 (by omega)
  have b_14 := he_20 14 (by omega)
  have b_15 := he_20 15 (by omega)
  have b_16 := he_20 16 (by omega)
  have b_17 := he_20 17 (by omega)
  have b_18 := he_20 18 (by omega)
  have b_19 := he_20 19 (by omega)
  simp only [b_0, b_1, b_2, b_3, b_4, b_5, b_6, b_7, b_8, b_9, b_10, b_11, b_12, b_13, b_14, b_15, b_16, b_17, b_18, b_19] at hM hl hc
  try simp only [b_0, b_1, b_2, b_3, b_4, b_5, b_6, b_7, b_8, b_9, b_10, b_11, b_12, b_13, b_14, b_15, b_16, b_17, b_18, b_19]
  have hM : MW D A 21 adr_20 (pw ac [.int 0, .int 0, .ref (adr_20 1), .int 50, .int 10, .int 6, .int 0, .ref (adr_20 2), .ref (adr_20 3), .ref (adr_20 4), .ref (adr_20 5), .ref (adr_20 6), .int 0, .ref (adr_20 7), .ref (adr_20 8), .ref (adr_20 9), .ref (adr_20 10), .ref (adr_20 11), .ref (adr_20 12), .int 0, .int 0, .ref (adr_20 13), .ref (adr_20 14), .ref (adr_20 15), .ref (adr_20 16), .ref (adr_20 17), .ref (adr_20 18), .int 0, .ref (adr_20 19), .int 0, .null, .null, .int 0, .null, .null]) H := hM
  refine m_putF (ci := 8) (C := RX8) (T := TX8) (n := 35) (v := .ref (adr_20 20)) (ty := tyX8 30) hx hb hts inX8_ tyX8 tyX8_ok nmX8 hown hK hM hS rfl 0 (by omega) (show pw ac [.int 0, .int 0, .ref (adr_20 1), .int 50, .int 10, .int 6, .int 0, .ref (adr_20 2), .ref (adr_20 3), .ref (adr_20 4), .ref (adr_20 5), .ref (adr_20 6), .int 0, .ref (adr_20 7), .ref (adr_20 8), .ref (adr_20 9), .ref (adr_20 10), .ref (adr_20 11), .ref (adr_20 12), .int 0, .int 0, .ref (adr_20 13), .ref (adr_20 14), .ref (adr_20 15), .ref (adr_20 16), .ref (adr_20 17), .ref (adr_20 18), .int 0, .ref (adr_20 19), .int 0, .null, .null, .int 0, .null, .null] 0 = .inr (8, [.int 0, .int 0, .ref (adr_20 1), .int 50, .int 10, .int 6, .int 0, .ref (adr_20 2), .ref (adr_20 3), .ref (adr_20 4), .ref (adr_20 5), .ref (adr_20 6), .int 0, .ref (adr_20 7), .ref (adr_20 8), .ref (adr_20 9), .ref (adr_20 10), .ref (adr_20 11), .ref (adr_20 12), .int 0, .int 0, .ref (adr_20 13), .ref (adr_20 14), .ref (adr_20 15), .ref (adr_20 16), .ref (adr_20 17), .ref (adr_20 18), .int 0, .ref (adr_20 19), .int 0, .null, .null, .int 0, .null, .null]) from rfl) 30 (by decide) (hts _ (by decide +kernel)) rfl hin rfl (by decide +kernel) rfl rfl (Nat.le_of_ble_eq_true rfl) dX8_init_184 (fun H locs hM hS => ?_)
  have hM := MW.pwP (F2 := [.int 0, .int 0, .ref (adr_20 1), .int 50, .int 10, .int 6, .int 0, .ref (adr_20 2), .ref (adr_20 3), .ref (adr_20 4), .ref (adr_20 5), .ref (adr_20 6), .int 0, .ref (adr_20 7), .ref (adr_20 8), .ref (adr_20 9), .ref (adr_20 10), .ref (adr_20 11), .ref (adr_20 12), .int 0, .int 0, .ref (adr_20 13), .ref (adr_20 14), .ref (adr_20 15), .ref (adr_20 16), .ref (adr_20 17), .ref (adr_20 18), .int 0, .ref (adr_20 19), .int 0, .ref (adr_20 20), .null, .int 0, .null, .null]) hM
  refine lv_aload_n hx hb dX8_init_187 rfl (lv_at hl 0 rfl) ?_
  refine lv_iconst (v := 4) hx hb dX8_init_188 (by decide) ?_
  refine m_newa (atype := .int) (ty := .int) (a0 := (4, .inl (fun _ => 0))) (N' := 4) hx hb (hts _ (by decide +kernel)) hK hM hS hA 0 rfl rfl (fun cA => vp_cell_i cA _ _) (by decide) (by decide) (by decide) (Nat.le_of_ble_eq_true rfl) (Nat.le_of_ble_eq_true rfl) dX8_init_189 (fun adr_21 H he_21 hM hS => ?_)
  have hM := MW.pwN hM (by decide) rfl
  have b_0 := he_21 0 (by omega)
  have b_1 := he_21 1 (by omega)
  have b_2 := he_21 2 (by omega)
  have b_3 := he_21 3 (by omega)
  have b_4 := he_21 4 (by omega)
  have b_5 := he_21 5 (by omega)
  have b_6 := he_21 6 (by omega)
  have b_7 := he_21 7 (by omega)
  have b_8 := he_21 8 (by omega)
  have b_9 := he_21 9 (by omega)
  have b_10 := he_21 10 (by omega)
  have b_11 := he_21 11 (by omega)
  have b_12 := he_21 12 (by omega)
  have b_13 := he_21 13 (by omega)
  have b_14 := he_21 14 (by omega)
  have b_15 := he_21 15 (by omega)
  have b_16 := he_21 16 (by omega)
  have b_17 := he_21 17 (by omega)
  have b_18 := he_21 18 (by omega)
  have b_19 := he_21 19 (by omega)
  have b_20 := he_21 20 (by omega)
  simp only [b_0, b_1, b_2, b_3, b_4, b_5, b_6, b_7, b_8, b_9, b_10, b_11, b_12, b_13, b_14, b_15, b_16, b_17, b_18, b_19, b_20] at hM hl hc
  try simp only [b_0, b_1, b_2, b_3, b_4, b_5, b_6, b_7, b_8, b_9, b_10, b_11, b_12, b_13, b_14, b_15, b_16, b_17, b_18, b_19, b_20]
  have hM : MW D A 22 adr_21 (pw ac [.int 0, .int 0, .ref (adr_21 1), .int 50, .int 10, .int 6, .int 0, .ref (adr_21 2), .ref (adr_21 3), .ref (adr_21 4), .ref (adr_21 5), .ref (adr_21 6), .int 0, .ref (adr_21 7), .ref (adr_21 8), .ref (adr_21 9), .ref (adr_21 10), .ref (adr_21 11), .ref (adr_21 12), .int 0, .int 0, .ref (adr_21 13), .ref (adr_21 14), .ref (adr_21 15), .ref (adr_21 16), .ref (adr_21 17), .ref (adr_21 18), .int 0, .ref (adr_21 19), .int 0, .ref (adr_21 20), .null, .int 0, .null, .null]) H := hM
  refine m_putF (ci := 8) (C := RX8) (T := TX8) (n := 35) (v := .ref (adr_21 21)) (ty := tyX8 31) hx hb hts inX8_ tyX8 tyX8_ok nmX8 hown hK hM hS rfl 0 (by omega) (show pw ac [.int 0, .int 0, .ref (adr_21 1), .int 50, .int 10, .int 6, .int 0, .ref (adr_21 2), .ref (adr_21 3), .ref (adr_21 4), .ref (adr_21 5), .ref (adr_21 6), .int 0, .ref (adr_21 7), .ref (adr_21 8), .ref (adr_21 9), .ref (adr_21 10), .ref (adr_21 11), .ref (adr_21 12), .int 0, .int 0, .ref (adr_21 13), .ref (adr_21 14), .ref (adr_21 15), .ref (adr_21 16), .ref (adr_21 17), .ref (adr_21 18), .int 0, .ref (adr_21 19), .int 0, .ref (adr_21 20), .null, .int 0, .null, .null] 0 = .inr (8, [.int 0, .int 0, .ref (adr_21 1), .int 50, .int 10, .int 6, .int 0, .ref (adr_21 2), .ref (adr_21 3), .ref (adr_21 4), .ref (adr_21 5), .ref (adr_21 6), .int 0, .ref (adr_21 7), .ref (adr_21 8), .ref (adr_21 9), .ref (adr_21 10), .ref (adr_21 11), .ref (adr_21 12), .int 0, .int 0, .ref (adr_21 13), .ref (adr_21 14), .ref (adr_21 15), .ref (adr_21 16), .ref (adr_21 17), .ref (adr_21 18), .int 0, .ref (adr_21 19), .int 0, .ref (adr_21 20), .null, .int 0, .null, .null]) from rfl) 31 (by decide) (hts _ (by decide +kernel)) rfl hin rfl (by decide +kernel) rfl rfl (Nat.le_of_ble_eq_true rfl) dX8_init_191 (fun H locs hM hS => ?_)
  have hM := MW.pwP (F2 := [.int 0, .int 0, .ref (adr_21 1), .int 50, .int 10, .int 6, .int 0, .ref (adr_21 2), .ref (adr_21 3), .ref (adr_21 4), .ref (adr_21 5), .ref (adr_21 6), .int 0, .ref (adr_21 7), .ref (adr_21 8), .ref (adr_21 9), .ref (adr_21 10), .ref (adr_21 11), .ref (adr_21 12), .int 0, .int 0, .ref (adr_21 13), .ref (adr_21 14), .ref (adr_21 15), .ref (adr_21 16), .ref (adr_21 17), .ref (adr_21 18), .int 0, .ref (adr_21 19), .int 0, .ref (adr_21 20), .ref (adr_21 21), .int 0, .null, .null]) hM
  refine lv_aload_n hx hb dX8_init_194 rfl (lv_at hl 0 rfl) ?_
  refine lv_bipush (v := 8) hx hb dX8_init_195 (by decide) ?_
  refine m_newa (atype := .int) (ty := .int) (a0 := (8, .inl (fun _ => 0))) (N' := 8) hx hb (hts _ (by decide +kernel)) hK hM hS hA 0 rfl rfl (fun cA => vp_cell_i cA _ _) (by decide) (by decide) (by decide) (Nat.le_of_ble_eq_true rfl) (Nat.le_of_ble_eq_true rfl) dX8_init_197 (fun adr_22 H he_22 hM hS => ?_)
  have hM := MW.pwN hM (by decide) rfl
  have b_0 := he_22 0 (by omega)
  have b_1 := he_22 1 (by omega)
  have b_2 := he_22 2 (by omega)
  have b_3 := he_22 3 (by omega)
  have b_4 := he_22 4 (by omega)
  have b_5 := he_22 5 (by omega)
  have b_6 := he_22 6 (by omega)
  have b_7 := he_22 7 (by omega)
  have b_8 := he_22 8 (by omega)
  have b_9 := he_22 9 (by omega)
  have b_10 := he_22 10 (by omega)
  have b_11 := he_22 11 (by omega)
  have b_12 := he_22 12 (by omega)
  have b_13 := he_22 13 (by omega)
  have b_14 := he_22 14 (by omega)
  have b_15 := he_22 15 (by omega)
  have b_16 := he_22 16 (by omega)
  have b_17 := he_22 17 (by omega)
  have b_18 := he_22 18 (by omega)
  have b_19 := he_22 19 (by omega)
  have b_20 := he_22 20 (by omega)
  have b_21 := he_22 21 (by omega)
  simp only [b_0, b_1, b_2, b_3, b_4, b_5, b_6, b_7, b_8, b_9, b_10, b_11, b_12, b_13, b_14, b_15, b_16, b_17, b_18, b_19, b_20, b_21] at hM hl hc
  try simp only [b_0, b_1, b_2, b_3, b_4, b_5, b_6, b_7, b_8, b_9, b_10, b_11, b_12, b_13, b_14, b_15, b_16, b_17, b_18, b_19, b_20, b_21]
  have hM : MW D A 23 adr_22 (pw ac [.int 0, .int 0, .ref (adr_22 1), .int 50, .int 10, .int 6, .int 0, .ref (adr_22 2), .ref (adr_22 3), .ref (adr_22 4), .ref (adr_22 5), .ref (adr_22 6), .int 0, .ref (adr_22 7), .ref (adr_22 8), .ref (adr_22 9), .ref (adr_22 10), .ref (adr_22 11), .ref (adr_22 12), .int 0, .int 0, .ref (adr_22 13), .ref (adr_22 14), .ref (adr_22 15), .ref (adr_22 16), .ref (adr_22 17), .ref (adr_22 18), .int 0, .ref (adr_22 19), .int 0, .ref (adr_22 20), .ref (adr_22 21), .int 0, .null, .null]) H := hM
  refine m_putF (ci := 8) (C := RX8) (T := TX8) (n := 35) (v := .ref (adr_22 22)) (ty := tyX8 33) hx hb hts inX8_ tyX8 tyX8_ok nmX8 hown hK hM hS rfl 0 (by omega) (show pw ac [.int 0, .int 0, .ref (adr_22 1), .int 50, .int 10, .int 6, .int 0, .ref (adr_22 2), .ref (adr_22 3), .ref (adr_22 4), .ref (adr_22 5), .ref (adr_22 6), .int 0, .ref (adr_22 7), .ref (adr_22 8), .ref (adr_22 9), .ref (adr_22 10), .ref (adr_22 11), .ref (adr_22 12), .int 0, .int 0, .ref (adr_22 13), .ref (adr_22 14), .ref (adr_22 15), .ref (adr_22 16), .ref (adr_22 17), .ref (adr_22 18), .int 0, .ref (adr_22 19), .int 0, .ref (adr_22 20), .ref (adr_22 21), .int 0, .null, .null] 0 = .inr (8, [.int 0, .int 0, .ref (adr_22 1), .int 50, .int 10, .int 6, .int 0, .ref (adr_22 2), .ref (adr_22 3), .ref (adr_22 4), .ref (adr_22 5), .ref (adr_22 6), .int 0, .ref (adr_22 7), .ref (adr_22 8), .ref (adr_22 9), .ref (adr_22 10), .ref (adr_22 11), .ref (adr_22 12), .int 0, .int 0, .ref (adr_22 13), .ref (adr_22 14), .ref (adr_22 15), .ref (adr_22 16), .ref (adr_22 17), .ref (adr_22 18), .int 0, .ref (adr_22 19), .int 0, .ref (adr_22 20), .ref (adr_22 21), .int 0, .null, .null]) from rfl) 33 (by decide) (hts _ (by decide +kernel)) rfl hin rfl (by decide +kernel) rfl rfl (Nat.le_of_ble_eq_true rfl) dX8_init_199 (fun H locs hM hS => ?_)
  have hM := MW.pwP (F2 := [.int 0, .int 0, .ref (adr_22 1), .int 50, .int 10, .int 6, .int 0, .ref (adr_22 2), .ref (adr_22 3), .ref (adr_22 4), .ref (adr_22 5), .ref (adr_22 6), .int 0, .ref (adr_22 7), .ref (adr_22 8), .ref (adr_22 9), .ref (adr_22 10), .ref (adr_22 11), .ref (adr_22 12), .int 0, .int 0, .ref (adr_22 13), .ref (adr_22 14), .ref (adr_22 15), .ref (adr_22 16), .ref (adr_22 17), .ref (adr_22 18), .int 0, .ref (adr_22 19), .int 0, .ref (adr_22 20), .ref (adr_22 21), .int 0, .ref (adr_22 22), .null]) hM
  refine lv_aload_n hx hb dX8_init_202 rfl (lv_at hl 0 rfl) ?_
  refine lv_bipush (v := 81) hx hb dX8_init_203 (by decide) ?_
  refine m_newa (atype := .int) (ty := .int) (a0 := (81, .inl (fun _ => 0))) (N' := 81) hx hb (hts _ (by decide +kernel)) hK hM hS hA 0 rfl rfl (fun cA => vp_cell_i cA _ _) (by decide) (by decide) (by decide) (Nat.le_of_ble_eq_true rfl) (Nat.le_of_ble_eq_true rfl) dX8_init_205 (fun adr_23 H he_23 hM hS => ?_)
  have hM := MW.pwN hM (by decide) rfl
  have b_0 := he_23 0 (by omega)
  have b_1 := he_23 1 (by omega)
  have b_2 := he_23 2 (by omega)
  have b_3 := he_23 3 (by omega)
  have b_4 := he_23 4 (by omega)
  have b_5 := he_23 5 (by omega)
  have b_6 := he_23 6 (by omega)
  have b_7 := he_23 7 (by omega)
  have b_8 := he_23 8 (by omega)
  have b_9 := he_23 9 (by omega)
  have b_10 := he_23 10 (by omega)
  have b_11 := he_23 11 (by omega)
  have b_12 := he_23 12 (by omega)
  have b_13 := he_23 13 (by omega)
  have b_14 := he_23 14 (by omega)
  have b_15 := he_23 15 (by omega)
  have b_16 := he_23 16 (by omega)
  have b_17 := he_23 17 (by omega)
  have b_18 := he_23 18 (by omega)
  have b_19 := he_23 19 (by omega)
  have b_20 := he_23 20 (by omega)
  have b_21 := he_23 21 (by omega)
  have b_22 := he_23 22 (by omega)
  simp only [b_0, b_1, b_2, b_3, b_4, b_5, b_6, b_7, b_8, b_9, b_10, b_11, b_12, b_13, b_14, b_15, b_16, b_17, b_18, b_19, b_20, b_21, b_22] at hM hl hc
  try simp only [b_0, b_1, b_2, b_3, b_4, b_5, b_6, b_7, b_8, b_9, b_10, b_11, b_12, b_13, b_14, b_15, b_16, b_17, b_18, b_19, b_20, b_21, b_22]
  have hM : MW D A 24 adr_23 (pw ac [.int 0, .int 0, .ref (adr_23 1), .int 50, .int 10, .int 6, .int 0, .ref (adr_23 2), .ref (adr_23 3), .ref (adr_23 4), .ref (adr_23 5), .ref (adr_23 6), .int 0, .ref (adr_23 7), .ref (adr_23 8), .ref (adr_23 9), .ref (adr_23 10), .ref (adr_23 11), .ref (adr_23 12), .int 0, .int 0, .ref (adr_23 13), .ref (adr_23 14), .ref (adr_23 15), .ref (adr_23 16), .ref (adr_23 17), .ref (adr_23 18), .int 0, .ref (adr_23 19), .int 0, .ref (adr_23 20), .ref (adr_23 21), .int 0, .ref (adr_23 22), .null]) H := hM
  refine m_putF (ci := 8) (C := RX8) (T := TX8) (n := 35) (v := .ref (adr_23 23)) (ty := tyX8 34) hx hb hts inX8_ tyX8 tyX8_ok nmX8 hown hK hM hS rfl 0 (by omega) (show pw ac [.int 0, .int 0, .ref (adr_23 1), .int 50, .int 10, .int 6, .int 0, .ref (adr_23 2), .ref (adr_23 3), .ref (adr_23 4), .ref (adr_23 5), .ref (adr_23 6), .int 0, .ref (adr_23 7), .ref (adr_23 8), .ref (adr_23 9), .ref (adr_23 10), .ref (adr_23 11), .ref (adr_23 12), .int 0, .int 0, .ref (adr_23 13), .ref (adr_23 14), .ref (adr_23 15), .ref (adr_23 16), .ref (adr_23 17), .ref (adr_23 18), .int 0, .ref (adr_23 19), .int 0, .ref (adr_23 20), .ref (adr_23 21), .int 0, .ref (adr_23 22), .null] 0 = .inr (8, [.int 0, .int 0, .ref (adr_23 1), .int 50, .int 10, .int 6, .int 0, .ref (adr_23 2), .ref (adr_23 3), .ref (adr_23 4), .ref (adr_23 5), .ref (adr_23 6), .int 0, .ref (adr_23 7), .ref (adr_23 8), .ref (adr_23 9), .ref (adr_23 10), .ref (adr_23 11), .ref (adr_23 12), .int 0, .int 0, .ref (adr_23 13), .ref (adr_23 14), .ref (adr_23 15), .ref (adr_23 16), .ref (adr_23 17), .ref (adr_23 18), .int 0, .ref (adr_23 19), .int 0, .ref (adr_23 20), .ref (adr_23 21), .int 0, .ref (adr_23 22), .null]) from rfl) 34 (by decide) (hts _ (by decide +kernel)) rfl hin rfl (by decide +kernel) rfl rfl (Nat.le_of_ble_eq_true rfl) dX8_init_207 (fun H locs hM hS => ?_)
  have hM := MW.pwP (F2 := [.int 0, .int 0, .ref (adr_23 1), .int 50, .int 10, .int 6, .int 0, .ref (adr_23 2), .ref (adr_23 3), .ref (adr_23 4), .ref (adr_23 5), .ref (adr_23 6), .int 0, .ref (adr_23 7), .ref (adr_23 8), .ref (adr_23 9), .ref (adr_23 10), .ref (adr_23 11), .ref (adr_23 12), .int 0, .int 0, .ref (adr_23 13), .ref (adr_23 14), .ref (adr_23 15), .ref (adr_23 16), .ref (adr_23 17), .ref (adr_23 18), .int 0, .ref (adr_23 19), .int 0, .ref (adr_23 20), .ref (adr_23 21), .int 0, .ref (adr_23 22), .ref (adr_23 23)]) hM
  have hM := MW.pwM (sf := msf0) hM rfl
  obtain ⟨adr, eadr⟩ : ∃ z9_, z9_ = adr_23 := ⟨_, rfl⟩
  rw [← eadr] at hM hl hc
  obtain ⟨sf, esf⟩ : ∃ z9_, z9_ = msf0 := ⟨_, rfl⟩
  obtain ⟨af, eaf⟩ : ∃ z9_, z9_ = maf0 := ⟨_, rfl⟩
  rw [← esf, ← eaf] at hM
  refine lv_iconst (v := 0) hx hb dX8_init_210 (by decide) ?_
  refine lv_istore_n (lv' := [(1, .int 0), (0, .ref (adr 0))]) hx hb dX8_init_211 rfl hl (by decide) rfl (fun ls hl => ?_)
  have hM := MW.cg (s1 := sf) (a1 := (va_up af 17 (mixF 0 (fun _ => -1) (af 17)))) hM (fun _ => rfl) (fun j9 => if q0_ : j9 = 17 then (by subst q0_; show mixF 0 (fun _ => -1) (af 17) = af 17; exact (mixF_0)) else (by first | rfl | simp only [va_up, if_neg q0_]))
  have L212 : ∀ (k9 : Nat) (i : Nat) (hk : 600 - i < k9) (hi : i ≤ 600) (H : Heap) (locs : List Loc) (hM : MW D A 24 adr (mw ac adr sf (va_up af 17 (mixF i (fun _ => -1) (af 17)))) H) (hS : va_S A s.heap H locs) (ls : Array Slot) (hl : lv_has ls 2 [(0, .ref (adr 0)), (1, .int (nI i))]), W p l e (headSpec wsX8_init ({ frames := 1, cells := 23, slots := 3145, locals := 20 })).room s m args below meth c H locs 23 3145 Q0 (F0 m 212 ls []) := by
    intro k9
    induction k9 with
    | zero => intro i hk hi H locs hM hS ls hl; exact absurd hk (Nat.not_lt_zero _)
    | succ k9 ih212 =>
      intro i hk hi H locs hM hS ls hl
      refine lv_iload_n hx hb dX8_init_212 rfl (lv_at hl 1 rfl) ?_
      refine lv_sipush (v := 600) hx hb dX8_init_213 (by decide) ?_
      refine lv_icmp_ge (tgt := 232) hx hb dX8_init_216 (by decide) (fun c216 => ?_) (fun c216 => ?_)
      · have e9 : i = 600 := by have := le_le (a := 600) c216 (by omega) (by omega); omega
        rw [hQ0]
        exact e_cv (post := fun adr2 w1 => a9 = adr2 0 ∧ w1 = mw ac adr2 msf0 (va_up maf0 17 (mixF 600 (fun _ => -1) (maf0 17)))) hx hb hlocks hr dX8_init_232 (Nat.le_of_ble_eq_true rfl) (Nat.le_of_ble_eq_true rfl) hM hS (⟨hc, by rw [e9, esf, eaf]⟩)
      · have hin : i < 600 := nle_lt (a := 600) c216 (by omega) (by omega)
        refine lv_aload_n hx hb dX8_init_219 rfl (lv_at hl 0 rfl) ?_
        refine m_get (ci := 8) (C := RX8) (T := TX8) (n := 35) (v := .ref (adr 17)) hx hb hts inX8_ hown hK rfl (hM.cel (by omega) (show (mw ac adr sf (va_up af 17 (mixF i (fun _ => -1) (af 17)))) 0 = .inr (8, mfs adr sf) from rfl)) 25 (by decide) (hts _ (by decide +kernel)) rfl dX8_init_220 ?_
        refine lv_iload_n hx hb dX8_init_223 rfl (lv_at hl 1 rfl) ?_
        refine lv_iconst (v := (-1)) hx hb dX8_init_224 (by decide) ?_
        refine m_iast hx hb hK hM hS 17 (by omega) (show (mw ac adr sf (va_up af 17 (mixF i (fun _ => -1) (af 17)))) 17 = .inl (ac 0, 600, .inl (mixF i (fun _ => -1) (af 17))) from rfl) (vp_in_nI (by omega) (by decide)) dX8_init_225 (fun H locs hM hS => ?_)
        have ef_ : (upd (mixF i (fun _ => -1) (af 17)) (nI i).toNatClampNeg (-1)) = mixF (i + 1) (fun _ => -1) (af 17) := by rw [nI_clamp (by omega)]; exact mixF_s (f := fun _ => -1)
        rw [ef_] at hM
        clear ef_
        have hM := MW.marr (a1 := (va_up af 17 (mixF (i + 1) (fun _ => -1) (af 17)))) hM (by decide) rfl rfl (fun j9 hj9 => by simp only [va_up, if_neg hj9])
        refine lv_iinc (v := nI (i + 1)) (lv' := [(1, .int (nI (i + 1))), (0, .ref (adr 0))]) hx hb dX8_init_226 hl (k := 1) rfl (nI_1 _) (by decide) rfl (fun ls hl => ?_)
        refine lv_goto (tgt := 212) hx hb dX8_init_229 (by decide) ?_
        exact ih212 (i + 1) (by omega) (by omega) _ _ (MW.cg hM (fun _ => rfl) (fun j9 => if q0_ : j9 = 17 then (by subst q0_; rfl) else (by first | rfl | simp only [va_up, if_neg q0_]))) hS ls (lv_sub hl [1, 0] rfl)
  exact L212 _ 0 (Nat.lt_succ_self _) (Nat.zero_le _) _ _ (MW.cg hM (fun _ => rfl) (fun j9 => if q0_ : j9 = 17 then (by subst q0_; rfl) else (by first | rfl | simp only [va_up, if_neg q0_]))) hS ls (lv_sub hl [1, 0] rfl)
