theorem mixF_0' {g f : Nat → Int32} : mixF 0 g f = f := mixF_0
def mixN (i : Nat) (d : Nat → Nat) : Nat → Nat := fun j => if j < i then d j else 0
theorem mixN_0 {d : Nat → Nat} : (fun j => nI (mixN 0 d j)) = (fun _ => (0 : Int32)) := by
  funext j
  show nI (if j < 0 then d j else 0) = 0
  rw [if_neg (Nat.not_lt_zero _)]
  rfl
theorem mixN_s {i : Nat} {d : Nat → Nat} : upd (fun j => nI (mixN i d j)) i (nI (d i)) = fun j => nI (mixN (i + 1) d j) := by
  funext j
  show (if j = i then nI (d i) else nI (if j < i then d j else 0)) = nI (if j < i + 1 then d j else 0)
  by_cases e : j = i
  · rw [if_pos e, if_pos (by omega), e]
  · rw [if_neg e]
    by_cases e2 : j < i
    · rw [if_pos e2, if_pos (by omega)]
    · rw [if_neg e2, if_neg (by omega)]
set_option maxHeartbeats 4000000 in
set_option maxRecDepth 100000 in
/-- Arrays.fill -/
theorem k_J7_fill_53178 (l : Launch) (D : va_G) (ac : Nat → ClassId) (H : Heap) (A : Nat → Prop) (N : Nat) (adr : Nat → Nat) (w : Nat → va_E) (hM : MW D A N adr w H) (a : Nat) (ha : a < N) (n : Nat) (hn : n < 2147483647) (f : Nat → Int32) (h1 : w a = .inl (ac 0, n, .inl f)) (x : Int32) : WRv l yJ7_fill_53178 wsJ7_fill_53178 ({ frames := 0, cells := 0, slots := 0, locals := 0 }) [.ref (adr a), .int x] D ac H A N adr (fun w1 => w1 = va_up w a (.inl (ac 0, n, .inl (mixF n (fun _ => x) f)))) := by
  refine Met.ofW (cc := cJ7_fill_53178) (maxL := 4) (ret := none) (by decide) rfl ?_
  intro p e s m args below meth c s₁ B hml hv
  obtain ⟨hargs, hsz, hK⟩ := hv
  have hx := B.exec
  have hb := B.bytes
  have hr := B.returns
  have hts := atoms_spec (ws := wsJ7_fill_53178) B.pre
  have hown : s.vm.findClass RJ7 = some m.cls := findClass_of_methodNamed B.named
  have hlocks := B.notSynchronized
  subst hsz
  have hS : va_S A s.heap s.heap [] := va_S.rf
  have hl := lv_entry ([.ref (adr a), .int x]) (n := 4) (Nat.le_of_ble_eq_true rfl)
  have hen := lg_entry_eq m [.ref (adr a), .int x] 4
  rw [← hargs] at hen
  rw [hen]
  generalize (lg_sl ([.ref (adr a), .int x]) ++ List.replicate (4 - (lg_sl ([.ref (adr a), .int x])).length) Slot.unset).toArray = ls at hl ⊢
  have hl : lv_has ls 4 [(0, .ref (adr a)), (1, .int x)] := hl
  obtain ⟨Q0, hQ0⟩ : ∃ z, z = MQ below (va_Qv (fun w1 => w1 = va_up w a (.inl (ac 0, n, .inl (mixF n (fun _ => x) f)))) (fun c t => MW D A N adr c t.heap) A) args s 0 0 A := ⟨_, rfl⟩
  rw [← hQ0]
  refine lv_iconst (v := 0) hx hb dJ7_fill_53178_0 (by decide) ?_
  refine lv_istore_n (lv' := [(2, .int 0), (0, .ref (adr a)), (1, .int x)]) hx hb dJ7_fill_53178_1 rfl hl (by decide) rfl (fun ls hl => ?_)
  refine lv_aload_n hx hb dJ7_fill_53178_2 rfl (lv_at hl 1 rfl) ?_
  refine m_alen (v := nI n) (ty := _) hx hb hK 0 (hM.cel ha h1) rfl (by first | rfl | decide) dJ7_fill_53178_3 ?_
  refine lv_istore_n (lv' := [(3, .int (nI n)), (2, .int 0), (0, .ref (adr a)), (1, .int x)]) hx hb dJ7_fill_53178_4 rfl hl (by decide) rfl (fun ls hl => ?_)
  have L5 : ∀ (k9 : Nat) (i : Nat) (hk : n - i < k9) (hi : i ≤ n) (w1 : Nat → va_E) (f0 : w1 a = .inl (ac 0, n, .inl (mixF i (fun _ => x) f))) (f3 : ∀ q, q ≠ a → w1 q = w q) (H : Heap) (locs : List Loc) (hM : MW D A N adr w1 H) (hS : va_S A s.heap H locs) (ls : Array Slot) (hl : lv_has ls 4 [(0, .ref (adr a)), (1, .int x), (2, .int (nI i)), (3, .int (nI n))]), W p l e (headSpec wsJ7_fill_53178 ({ frames := 0, cells := 0, slots := 0, locals := 0 })).room s m args below meth c H locs 0 0 Q0 (F0 m 5 ls []) := by
    intro k9
    induction k9 with
    | zero => intro i hk hi w1 f0 f3 H locs hM hS ls hl; exact absurd hk (Nat.not_lt_zero _)
    | succ k9 ih5 =>
      intro i hk hi w1 f0 f3 H locs hM hS ls hl
      refine lv_iload_n hx hb dJ7_fill_53178_5 rfl (lv_at hl 2 rfl) ?_
      refine lv_iload_n hx hb dJ7_fill_53178_6 rfl (lv_at hl 3 rfl) ?_
      refine lv_icmp_ge (tgt := 20) hx hb dJ7_fill_53178_7 (by decide) (fun c7 => ?_) (fun c7 => ?_)
      · have hin : i = n := by have := le_le (b := i) (a := n) c7 (by omega) (by omega); omega
        rw [hQ0]
        exact e_wv hx hb hlocks hr dJ7_fill_53178_20 hM hS (va_upeq (by rw [f0, hin]) f3)
      · have hin : i < n := nle_lt (b := i) (a := n) c7 (by omega) (by omega)
        refine lv_aload_n hx hb dJ7_fill_53178_10 rfl (lv_at hl 0 rfl) ?_
        refine lv_iload_n hx hb dJ7_fill_53178_11 rfl (lv_at hl 2 rfl) ?_
        refine lv_iload_n hx hb dJ7_fill_53178_12 rfl (lv_at hl 1 rfl) ?_
        refine m_iast hx hb hK hM hS a ha f0 (vp_in_nI (by omega) (by omega)) dJ7_fill_53178_13 (fun H locs hM hS => ?_)
        have ef_ : (upd (mixF i (fun _ => x) f) (nI i).toNatClampNeg x) = mixF (i + 1) (fun _ => x) f := by rw [nI_clamp (by omega)]; exact mixF_s
        rw [ef_] at hM
        clear ef_
        obtain ⟨w_2, ew_2⟩ : ∃ z9_, z9_ = va_up w1 a (.inl (ac 0, n, .inl (mixF (i + 1) (fun _ => x) f))) := ⟨_, rfl⟩
        rw [← ew_2] at hM
        have h_3 : w_2 a = .inl (ac 0, n, .inl (mixF (i + 1) (fun _ => x) f)) := by rw [ew_2]; exact va_up_self _ _ _
        refine lv_iinc (v := nI (i + 1)) (lv' := [(2, .int (nI (i + 1))), (0, .ref (adr a)), (1, .int x), (3, .int (nI n))]) hx hb dJ7_fill_53178_14 hl (k := 2) rfl (nI_1 _) (by decide) rfl (fun ls hl => ?_)
        refine lv_goto (tgt := 5) hx hb dJ7_fill_53178_17 (by decide) ?_
        exact ih5 (i + 1) (by omega) (by omega) w_2 h_3 (fun q q1 => by rw [ew_2, va_up_ne _ _ q1]; exact f3 q q1) _ _ hM hS ls (lv_sub hl [1, 2, 0, 3] rfl)
  exact L5 _ 0 (Nat.lt_succ_self _) (Nat.zero_le _) w (by rw [mixF_0]; exact h1) (fun q _ => rfl) _ _ hM hS ls (lv_sub hl [2, 3, 1, 0] rfl)
set_option maxHeartbeats 4000000 in
set_option maxRecDepth 100000 in
/-- X5_init -/
theorem k_X5_init (l : Launch) (D : va_G) (ac : Nat → ClassId) (H : Heap) (A : Nat → Prop) (hA : ∀ q, H.size ≤ q → A q) (N : Nat) (adr : Nat → Nat) (w : Nat → va_E) (hM : MW D A N adr w H) (a : Nat) (ha : a < N) (h1 : w a = .inr (5, [.null, .null, .null])) : WCv l yX5_init wsX5_init ({ frames := 1, cells := 3, slots := 1000, locals := 23 }) [.ref (adr a)] D ac H A (N + 3) (fun adr2 w1 => (∀ k, k < N → adr k = adr2 k ∧ (¬ k = a → w1 k = w k)) ∧ w1 a = .inr (5, [.ref (adr2 N), .ref (adr2 (N + 1)), .ref (adr2 (N + 2))]) ∧ w1 N = .inl (ac 0, 600, .inl (mixF 600 (fun _ => -1) (fun _ => 0))) ∧ w1 (N + 1) = .inl (ac 0, 200, .inl (mixF 200 (fun _ => -1) (fun _ => 0))) ∧ w1 (N + 2) = .inl (ac 0, 200, .inl (fun _ => 0))) 3 1000 := by
  refine Met.ofW (cc := cX5_init) (maxL := 1) (ret := none) (by decide) rfl ?_
  intro p e s m args below meth c s₁ B hml hv
  obtain ⟨hargs, hsz, hK⟩ := hv
  have hx := B.exec
  have hb := B.bytes
  have hr := B.returns
  have hts := atoms_spec (ws := wsX5_init) B.pre
  have hown : s.vm.findClass RX5 = some m.cls := findClass_of_methodNamed B.named
  have hlocks := B.notSynchronized
  have hin : meth.name = "<init>" := (name_of_methodNamed B.named B.method).1
  subst hsz
  have inX5_ : ∀ w ∈ wsX50, w ∈ wsX5_init := by decide +kernel
  have hS : va_S A s.heap s.heap [] := va_S.rf
  have hl := lv_entry ([.ref (adr a)]) (n := 1) (Nat.le_of_ble_eq_true rfl)
  have hen := lg_entry_eq m [.ref (adr a)] 1
  rw [← hargs] at hen
  rw [hen]
  generalize (lg_sl ([.ref (adr a)]) ++ List.replicate (1 - (lg_sl ([.ref (adr a)])).length) Slot.unset).toArray = ls at hl ⊢
  have hl : lv_has ls 1 [(0, .ref (adr a))] := hl
  obtain ⟨Q0, hQ0⟩ : ∃ z, z = MQ below (va_Qv (cvP (fun adr2 w1 => (∀ k, k < N → adr k = adr2 k ∧ (¬ k = a → w1 k = w k)) ∧ w1 a = .inr (5, [.ref (adr2 N), .ref (adr2 (N + 1)), .ref (adr2 (N + 2))]) ∧ w1 N = .inl (ac 0, 600, .inl (mixF 600 (fun _ => -1) (fun _ => 0))) ∧ w1 (N + 1) = .inl (ac 0, 200, .inl (mixF 200 (fun _ => -1) (fun _ => 0))) ∧ w1 (N + 2) = .inl (ac 0, 200, .inl (fun _ => 0)))) (fun u t => MW D A (N + 3) u.1 u.2 t.heap) A) args s 3 1000 A := ⟨_, rfl⟩
  rw [← hQ0]
  refine lv_aload_n hx hb dX5_init_0 rfl (lv_at hl 0 rfl) ?_
  refine m_objinit hx hb hown (hts _ (by decide +kernel)) (hts _ (by decide +kernel)) (hts _ (by decide +kernel)) (hl.1.trans hml.symm) dX5_init_1 (Nat.le_of_ble_eq_true rfl) (Nat.le_of_ble_eq_true rfl) ?_
  refine lv_aload_n hx hb dX5_init_4 rfl (lv_at hl 0 rfl) ?_
  refine lv_sipush (v := 600) hx hb dX5_init_5 (by decide) ?_
  refine m_newa (atype := .int) (ty := .int) (a0 := (600, .inl (fun _ => 0))) (N' := 600) hx hb (hts _ (by decide +kernel)) hK hM hS hA 0 rfl rfl (fun _ => rfl) (by decide) (by decide) (by decide) (Nat.le_of_ble_eq_true rfl) (Nat.le_of_ble_eq_true rfl) dX5_init_8 (fun adr_1 H he_2 hM hS => ?_)
  obtain ⟨w_3, ew_3⟩ : ∃ z9_, z9_ = va_up w N (.inl (ac 0, 600, .inl (fun _ => 0))) := ⟨_, rfl⟩
  have hM : MW D A (N + 1) adr_1 w_3 H := by rw [ew_3]; exact hM
  have b_4 := he_2 a (by omega)
  simp only [b_4] at hl
  try simp only [b_4]
  have h_5 : w_3 a = .inr (5, [.null, .null, .null]) := by rw [ew_3, va_up_ne _ _ (by omega), h1]
  have h_6 : w_3 N = .inl (ac 0, 600, .inl (fun _ => 0)) := by rw [ew_3]; exact va_up_self _ _ _
  refine m_putF (ci := 5) (C := RX5) (T := TX5) (n := 3) (v := .ref (adr_1 N)) (ty := tyX5 0) hx hb hts inX5_ tyX5 tyX5_ok nmX5 hown hK hM hS rfl a (by omega) h_5 0 (by decide) (hts _ (by decide +kernel)) rfl hin rfl (by decide +kernel) rfl rfl (Nat.le_of_ble_eq_true rfl) dX5_init_10 (fun H locs hM hS => ?_)
  have hM : MW D A (N + 1) adr_1 (va_up w_3 a (.inr (5, [.ref (adr_1 N), .null, .null]))) H := hM
  obtain ⟨w_7, ew_7⟩ : ∃ z9_, z9_ = va_up w_3 a (.inr (5, [.ref (adr_1 N), .null, .null])) := ⟨_, rfl⟩
  rw [← ew_7] at hM
  have h_8 : w_7 a = .inr (5, [.ref (adr_1 N), .null, .null]) := by rw [ew_7]; exact va_up_self _ _ _
  have h_9 : w_7 N = .inl (ac 0, 600, .inl (fun _ => 0)) := by rw [ew_7, va_up_ne _ _ (by omega)]; exact h_6
  refine lv_aload_n hx hb dX5_init_13 rfl (lv_at hl 0 rfl) ?_
  refine lv_sipush (v := 200) hx hb dX5_init_14 (by decide) ?_
  refine m_newa (atype := .int) (ty := .int) (a0 := (200, .inl (fun _ => 0))) (N' := 200) hx hb (hts _ (by decide +kernel)) hK hM hS hA 0 rfl rfl (fun _ => rfl) (by decide) (by decide) (by decide) (Nat.le_of_ble_eq_true rfl) (Nat.le_of_ble_eq_true rfl) dX5_init_17 (fun adr_10 H he_11 hM hS => ?_)
  obtain ⟨w_12, ew_12⟩ : ∃ z9_, z9_ = va_up w_7 (N + 1) (.inl (ac 0, 200, .inl (fun _ => 0))) := ⟨_, rfl⟩
  have hM : MW D A (N + 2) adr_10 w_12 H := by rw [ew_12]; exact hM
  have b_13 := he_11 a (by omega)
  have b_14 := he_11 N (by omega)
  simp only [b_13, b_14] at hl
  try simp only [b_13, b_14]
  have h_15 : w_12 a = .inr (5, [.ref (adr_10 N), .null, .null]) := by rw [ew_12, va_up_ne _ _ (by omega), h_8] <;> simp only [b_13, b_14]
  have h_16 : w_12 N = .inl (ac 0, 600, .inl (fun _ => 0)) := by rw [ew_12, va_up_ne _ _ (by omega), h_9]
  have h_17 : w_12 (N + 1) = .inl (ac 0, 200, .inl (fun _ => 0)) := by rw [ew_12]; exact va_up_self _ _ _
  refine m_putF (ci := 5) (C := RX5) (T := TX5) (n := 3) (v := .ref (adr_10 (N + 1))) (ty := tyX5 1) hx hb hts inX5_ tyX5 tyX5_ok nmX5 hown hK hM hS rfl a (by omega) h_15 1 (by decide) (hts _ (by decide +kernel)) rfl hin rfl (by decide +kernel) rfl rfl (Nat.le_of_ble_eq_true rfl) dX5_init_19 (fun H locs hM hS => ?_)
  have hM : MW D A (N + 2) adr_10 (va_up w_12 a (.inr (5, [.ref (adr_10 N), .ref (adr_10 (N + 1)), .null]))) H := hM
  obtain ⟨w_18, ew_18⟩ : ∃ z9_, z9_ = va_up w_12 a (.inr (5, [.ref (adr_10 N), .ref (adr_10 (N + 1)), .null])) := ⟨_, rfl⟩
  rw [← ew_18] at hM
  have h_19 : w_18 a = .inr (5, [.ref (adr_10 N), .ref (adr_10 (N + 1)), .null]) := by rw [ew_18]; exact va_up_self _ _ _
  have h_20 : w_18 N = .inl (ac 0, 600, .inl (fun _ => 0)) := by rw [ew_18, va_up_ne _ _ (by omega)]; exact h_16
  have h_21 : w_18 (N + 1) = .inl (ac 0, 200, .inl (fun _ => 0)) := by rw [ew_18, va_up_ne _ _ (by omega)]; exact h_17
  refine lv_aload_n hx hb dX5_init_22 rfl (lv_at hl 0 rfl) ?_
  refine lv_sipush (v := 200) hx hb dX5_init_23 (by decide) ?_
  refine m_newa (atype := .int) (ty := .int) (a0 := (200, .inl (fun _ => 0))) (N' := 200) hx hb (hts _ (by decide +kernel)) hK hM hS hA 0 rfl rfl (fun _ => rfl) (by decide) (by decide) (by decide) (Nat.le_of_ble_eq_true rfl) (Nat.le_of_ble_eq_true rfl) dX5_init_26 (fun adr_22 H he_23 hM hS => ?_)
  obtain ⟨w_24, ew_24⟩ : ∃ z9_, z9_ = va_up w_18 (N + 2) (.inl (ac 0, 200, .inl (fun _ => 0))) := ⟨_, rfl⟩
  have hM : MW D A (N + 3) adr_22 w_24 H := by rw [ew_24]; exact hM
  have b_25 := he_23 a (by omega)
  have b_26 := he_23 N (by omega)
  have b_27 := he_23 (N + 1) (by omega)
  simp only [b_25, b_26, b_27] at hl
  try simp only [b_25, b_26, b_27]
  have h_28 : w_24 a = .inr (5, [.ref (adr_22 N), .ref (adr_22 (N + 1)), .null]) := by rw [ew_24, va_up_ne _ _ (by omega), h_19] <;> simp only [b_25, b_26, b_27]
  have h_29 : w_24 N = .inl (ac 0, 600, .inl (fun _ => 0)) := by rw [ew_24, va_up_ne _ _ (by omega), h_20]
  have h_30 : w_24 (N + 1) = .inl (ac 0, 200, .inl (fun _ => 0)) := by rw [ew_24, va_up_ne _ _ (by omega), h_21]
  have h_31 : w_24 (N + 2) = .inl (ac 0, 200, .inl (fun _ => 0)) := by rw [ew_24]; exact va_up_self _ _ _
  refine m_putF (ci := 5) (C := RX5) (T := TX5) (n := 3) (v := .ref (adr_22 (N + 2))) (ty := tyX5 2) hx hb hts inX5_ tyX5 tyX5_ok nmX5 hown hK hM hS rfl a (by omega) h_28 2 (by decide) (hts _ (by decide +kernel)) rfl hin rfl (by decide +kernel) rfl rfl (Nat.le_of_ble_eq_true rfl) dX5_init_28 (fun H locs hM hS => ?_)
  have hM : MW D A (N + 3) adr_22 (va_up w_24 a (.inr (5, [.ref (adr_22 N), .ref (adr_22 (N + 1)), .ref (adr_22 (N + 2))]))) H := hM
  obtain ⟨w_32, ew_32⟩ : ∃ z9_, z9_ = va_up w_24 a (.inr (5, [.ref (adr_22 N), .ref (adr_22 (N + 1)), .ref (adr_22 (N + 2))])) := ⟨_, rfl⟩
  rw [← ew_32] at hM
  have h_33 : w_32 a = .inr (5, [.ref (adr_22 N), .ref (adr_22 (N + 1)), .ref (adr_22 (N + 2))]) := by rw [ew_32]; exact va_up_self _ _ _
  have h_34 : w_32 N = .inl (ac 0, 600, .inl (fun _ => 0)) := by rw [ew_32, va_up_ne _ _ (by omega)]; exact h_29
  have h_35 : w_32 (N + 1) = .inl (ac 0, 200, .inl (fun _ => 0)) := by rw [ew_32, va_up_ne _ _ (by omega)]; exact h_30
  have h_36 : w_32 (N + 2) = .inl (ac 0, 200, .inl (fun _ => 0)) := by rw [ew_32, va_up_ne _ _ (by omega)]; exact h_31
  refine lv_aload_n hx hb dX5_init_31 rfl (lv_at hl 0 rfl) ?_
  refine m_get (ci := 5) (C := RX5) (T := TX5) (n := 3) (v := .ref (adr_22 N)) hx hb hts inX5_ hown hK rfl (hM.cel (by omega) h_33) 0 (by decide) (hts _ (by decide +kernel)) rfl dX5_init_32 ?_
  refine lv_iconst (v := (-1)) hx hb dX5_init_35 (by decide) ?_
  refine w_callv (va_runS (As := [.ref (adr_22 N), .int (-1)]) (rest := []) ⟨hx, hb, hml, hown, hts⟩ (k_J7_fill_53178 l D ac _ A ((N + 3)) adr_22 w_32 hM N (by omega) 600 (by decide) (fun _ => 0) h_34 (-1)) (va_cwS 2 hts gX5_init_J7_fill_53178 rfl rfl rfl (by decide +kernel) ⟨Nat.le_of_ble_eq_true rfl, Nat.le_of_ble_eq_true rfl⟩) (pS hK) rfl rfl hl.1 rfl (lv_room (Nat.le_of_ble_eq_true rfl)) dX5_init_36 ⟨Nat.le_of_ble_eq_true rfl, Nat.le_of_ble_eq_true rfl⟩) hS (fun w_38 H locs hw_38 hM hS => ?_)
  have h_39 : w_38 a = .inr (5, [.ref (adr_22 N), .ref (adr_22 (N + 1)), .ref (adr_22 (N + 2))]) := by rw [hw_38, va_up_ne _ _ (by omega)]; exact h_33
  have h_40 : w_38 N = .inl (ac 0, 600, .inl (mixF 600 (fun _ => (-1)) (fun _ => 0))) := by rw [hw_38]; exact va_up_self _ _ _
  have h_41 : w_38 (N + 1) = .inl (ac 0, 200, .inl (fun _ => 0)) := by rw [hw_38, va_up_ne _ _ (by omega)]; exact h_35
  have h_42 : w_38 (N + 2) = .inl (ac 0, 200, .inl (fun _ => 0)) := by rw [hw_38, va_up_ne _ _ (by omega)]; exact h_36
  refine lv_aload_n hx hb dX5_init_39 rfl (lv_at hl 0 rfl) ?_
  refine m_get (ci := 5) (C := RX5) (T := TX5) (n := 3) (v := .ref (adr_22 (N + 1))) hx hb hts inX5_ hown hK rfl (hM.cel (by omega) h_39) 1 (by decide) (hts _ (by decide +kernel)) rfl dX5_init_40 ?_
  refine lv_iconst (v := (-1)) hx hb dX5_init_43 (by decide) ?_
  refine w_callv (va_runS (As := [.ref (adr_22 (N + 1)), .int (-1)]) (rest := []) ⟨hx, hb, hml, hown, hts⟩ (k_J7_fill_53178 l D ac _ A ((N + 3)) adr_22 w_38 hM (N + 1) (by omega) 200 (by decide) (fun _ => 0) h_41 (-1)) (va_cwS 2 hts gX5_init_J7_fill_53178 rfl rfl rfl (by decide +kernel) ⟨Nat.le_of_ble_eq_true rfl, Nat.le_of_ble_eq_true rfl⟩) (pS hK) rfl rfl hl.1 rfl (lv_room (Nat.le_of_ble_eq_true rfl)) dX5_init_44 ⟨Nat.le_of_ble_eq_true rfl, Nat.le_of_ble_eq_true rfl⟩) hS (fun w_44 H locs hw_44 hM hS => ?_)
  have h_45 : w_44 a = .inr (5, [.ref (adr_22 N), .ref (adr_22 (N + 1)), .ref (adr_22 (N + 2))]) := by rw [hw_44, va_up_ne _ _ (by omega)]; exact h_39
  have h_46 : w_44 N = .inl (ac 0, 600, .inl (mixF 600 (fun _ => (-1)) (fun _ => 0))) := by rw [hw_44, va_up_ne _ _ (by omega)]; exact h_40
  have h_47 : w_44 (N + 1) = .inl (ac 0, 200, .inl (mixF 200 (fun _ => (-1)) (fun _ => 0))) := by rw [hw_44]; exact va_up_self _ _ _
  have h_48 : w_44 (N + 2) = .inl (ac 0, 200, .inl (fun _ => 0)) := by rw [hw_44, va_up_ne _ _ (by omega)]; exact h_42
  rw [hQ0]
  exact e_cv (post := fun adr2 w1 => (∀ k, k < N → adr k = adr2 k ∧ (¬ k = a → w1 k = w k)) ∧ w1 a = .inr (5, [.ref (adr2 N), .ref (adr2 (N + 1)), .ref (adr2 (N + 2))]) ∧ w1 N = .inl (ac 0, 600, .inl (mixF 600 (fun _ => -1) (fun _ => 0))) ∧ w1 (N + 1) = .inl (ac 0, 200, .inl (mixF 200 (fun _ => -1) (fun _ => 0))) ∧ w1 (N + 2) = .inl (ac 0, 200, .inl (fun _ => 0))) hx hb hlocks hr dX5_init_47 (Nat.le_of_ble_eq_true rfl) (Nat.le_of_ble_eq_true rfl) hM hS (⟨fun k9 hk9 => ⟨((he_2 k9 (by omega)).trans ((he_11 k9 (by omega)).trans (he_23 k9 (by omega)))), fun hka => by rw [hw_44, va_up_ne _ _ (by omega), hw_38, va_up_ne _ _ (by omega), ew_32, va_up_ne _ _ (by omega), ew_24, va_up_ne _ _ (by omega), ew_18, va_up_ne _ _ (by omega), ew_12, va_up_ne _ _ (by omega), ew_7, va_up_ne _ _ (by omega), ew_3, va_up_ne _ _ (by omega)]⟩, h_45, h_46, h_47, h_48⟩)
set_option maxHeartbeats 4000000 in
set_option maxRecDepth 100000 in
/-- X2_init -/
theorem k_X2_init (l : Launch) (D : va_G) (ac : Nat → ClassId) (H : Heap) (A : Nat → Prop) (hA : ∀ q, H.size ≤ q → A q) (N : Nat) (adr : Nat → Nat) (w : Nat → va_E) (hM : MW D A N adr w H) (a : Nat) (ha : a < N) (h1 : w a = .inr (2, [.null, .null, .null, .null, .int 0])) : WCAv l yX2_init wsX2_init ({ frames := 2, cells := 6, slots := 234, locals := 40 }) [.ref (adr a)] D ac H A (N + 6) (fun adr2 w1 => (∀ k, k < N → adr k = adr2 k ∧ (¬ k = a → w1 k = w k)) ∧ w1 a = .inr (2, [.ref (adr2 N), .ref (adr2 (N + 1)), .ref (adr2 (N + 2)), .ref (adr2 (N + 4)), .int 0]) ∧ w1 N = .inl (ac 4, 40, .inr (.inr (.inr (.inr (fun _ => none))))) ∧ w1 (N + 1) = .inl (ac 1, 50, .inr (.inl (fun _ => 0))) ∧ w1 (N + 2) = .inr (1, [.ref (adr2 (N + 3)), .int 0]) ∧ w1 (N + 3) = .inl (ac 0, 60, .inl (fun _ => 0)) ∧ w1 (N + 4) = .inr (0, [.ref (adr2 (N + 5))]) ∧ w1 (N + 5) = .inl (ac 0, 81, .inl (fun _ => 0))) 6 234 := by
  refine Met.ofW (cc := cX2_init) (maxL := 1) (ret := none) (by decide) rfl ?_
  intro p e s m args below meth c s₁ B hml hv
  obtain ⟨hargs, hsz, hK, hAO⟩ := hv
  have hx := B.exec
  have hb := B.bytes
  have hr := B.returns
  have hts := atoms_spec (ws := wsX2_init) B.pre
  have hown : s.vm.findClass RX2 = some m.cls := findClass_of_methodNamed B.named
  have hlocks := B.notSynchronized
  have hin : meth.name = "<init>" := (name_of_methodNamed B.named B.method).1
  subst hsz
  have inX0_ : ∀ w ∈ wsX00, w ∈ wsX2_init := by decide +kernel
  have inX1_ : ∀ w ∈ wsX10, w ∈ wsX2_init := by decide +kernel
  have inX2_ : ∀ w ∈ wsX20, w ∈ wsX2_init := by decide +kernel
  have hS : va_S A s.heap s.heap [] := va_S.rf
  have hl := lv_entry ([.ref (adr a)]) (n := 1) (Nat.le_of_ble_eq_true rfl)
  have hen := lg_entry_eq m [.ref (adr a)] 1
  rw [← hargs] at hen
  rw [hen]
  generalize (lg_sl ([.ref (adr a)]) ++ List.replicate (1 - (lg_sl ([.ref (adr a)])).length) Slot.unset).toArray = ls at hl ⊢
  have hl : lv_has ls 1 [(0, .ref (adr a))] := hl
  obtain ⟨Q0, hQ0⟩ : ∃ z, z = MQ below (va_Qv (cvP (fun adr2 w1 => (∀ k, k < N → adr k = adr2 k ∧ (¬ k = a → w1 k = w k)) ∧ w1 a = .inr (2, [.ref (adr2 N), .ref (adr2 (N + 1)), .ref (adr2 (N + 2)), .ref (adr2 (N + 4)), .int 0]) ∧ w1 N = .inl (ac 4, 40, .inr (.inr (.inr (.inr (fun _ => none))))) ∧ w1 (N + 1) = .inl (ac 1, 50, .inr (.inl (fun _ => 0))) ∧ w1 (N + 2) = .inr (1, [.ref (adr2 (N + 3)), .int 0]) ∧ w1 (N + 3) = .inl (ac 0, 60, .inl (fun _ => 0)) ∧ w1 (N + 4) = .inr (0, [.ref (adr2 (N + 5))]) ∧ w1 (N + 5) = .inl (ac 0, 81, .inl (fun _ => 0)))) (fun u t => MW D A (N + 6) u.1 u.2 t.heap) A) args s 6 234 A := ⟨_, rfl⟩
  rw [← hQ0]
  refine lv_aload_n hx hb dX2_init_0 rfl (lv_at hl 0 rfl) ?_
  refine m_objinit hx hb hown (hts _ (by decide +kernel)) (hts _ (by decide +kernel)) (hts _ (by decide +kernel)) (hl.1.trans hml.symm) dX2_init_1 (Nat.le_of_ble_eq_true rfl) (Nat.le_of_ble_eq_true rfl) ?_
  refine lv_aload_n hx hb dX2_init_4 rfl (lv_at hl 0 rfl) ?_
  refine lv_bipush (v := 40) hx hb dX2_init_5 (by decide) ?_
  refine m_newq (C := RX6) (N' := 40) hx hb hown (hts _ (by decide +kernel)) hAO.2 hK hM hS hA 4 rfl (by decide) (by decide) (by decide) (Nat.le_of_ble_eq_true rfl) (Nat.le_of_ble_eq_true rfl) dX2_init_7 (fun adr_1 H he_2 hM hS => ?_)
  obtain ⟨w_3, ew_3⟩ : ∃ z9_, z9_ = va_up w N (.inl (ac 4, 40, .inr (.inr (.inr (.inr (fun _ => none)))))) := ⟨_, rfl⟩
  have hM : MW D A (N + 1) adr_1 w_3 H := by rw [ew_3]; exact hM
  have b_4 := he_2 a (by omega)
  simp only [b_4] at hl
  try simp only [b_4]
  have h_5 : w_3 a = .inr (2, [.null, .null, .null, .null, .int 0]) := by rw [ew_3, va_up_ne _ _ (by omega), h1]
  have h_6 : w_3 N = .inl (ac 4, 40, .inr (.inr (.inr (.inr (fun _ => none))))) := by rw [ew_3]; exact va_up_self _ _ _
  refine m_putF (ci := 2) (C := RX2) (T := TX2) (n := 5) (v := .ref (adr_1 N)) (ty := tyX2 0) hx hb hts inX2_ tyX2 tyX2_ok nmX2 hown hK hM hS rfl a (by omega) h_5 0 (by decide) (hts _ (by decide +kernel)) rfl hin rfl (by decide +kernel) rfl rfl (Nat.le_of_ble_eq_true rfl) dX2_init_10 (fun H locs hM hS => ?_)
  have hM : MW D A (N + 1) adr_1 (va_up w_3 a (.inr (2, [.ref (adr_1 N), .null, .null, .null, .int 0]))) H := hM
  obtain ⟨w_7, ew_7⟩ : ∃ z9_, z9_ = va_up w_3 a (.inr (2, [.ref (adr_1 N), .null, .null, .null, .int 0])) := ⟨_, rfl⟩
  rw [← ew_7] at hM
  have h_8 : w_7 a = .inr (2, [.ref (adr_1 N), .null, .null, .null, .int 0]) := by rw [ew_7]; exact va_up_self _ _ _
  have h_9 : w_7 N = .inl (ac 4, 40, .inr (.inr (.inr (.inr (fun _ => none))))) := by rw [ew_7, va_up_ne _ _ (by omega)]; exact h_6
  refine lv_aload_n hx hb dX2_init_13 rfl (lv_at hl 0 rfl) ?_
  refine lv_bipush (v := 50) hx hb dX2_init_14 (by decide) ?_
  refine m_newa (atype := .long) (ty := .long) (a0 := (50, .inr (.inl (fun _ => 0)))) (N' := 50) hx hb (hts _ (by decide +kernel)) hK hM hS hA 1 rfl rfl (fun _ => rfl) (by decide) (by decide) (by decide) (Nat.le_of_ble_eq_true rfl) (Nat.le_of_ble_eq_true rfl) dX2_init_16 (fun adr_10 H he_11 hM hS => ?_)
  obtain ⟨w_12, ew_12⟩ : ∃ z9_, z9_ = va_up w_7 (N + 1) (.inl (ac 1, 50, .inr (.inl (fun _ => 0)))) := ⟨_, rfl⟩
  have hM : MW D A (N + 2) adr_10 w_12 H := by rw [ew_12]; exact hM
  have b_13 := he_11 a (by omega)
  have b_14 := he_11 N (by omega)
  simp only [b_13, b_14] at hl
  try simp only [b_13, b_14]
  have h_15 : w_12 a = .inr (2, [.ref (adr_10 N), .null, .null, .null, .int 0]) := by rw [ew_12, va_up_ne _ _ (by omega), h_8] <;> simp only [b_13, b_14]
  have h_16 : w_12 N = .inl (ac 4, 40, .inr (.inr (.inr (.inr (fun _ => none))))) := by rw [ew_12, va_up_ne _ _ (by omega), h_9]
  have h_17 : w_12 (N + 1) = .inl (ac 1, 50, .inr (.inl (fun _ => 0))) := by rw [ew_12]; exact va_up_self _ _ _
  refine m_putF (ci := 2) (C := RX2) (T := TX2) (n := 5) (v := .ref (adr_10 (N + 1))) (ty := tyX2 1) hx hb hts inX2_ tyX2 tyX2_ok nmX2 hown hK hM hS rfl a (by omega) h_15 1 (by decide) (hts _ (by decide +kernel)) rfl hin rfl (by decide +kernel) rfl rfl (Nat.le_of_ble_eq_true rfl) dX2_init_18 (fun H locs hM hS => ?_)
  have hM : MW D A (N + 2) adr_10 (va_up w_12 a (.inr (2, [.ref (adr_10 N), .ref (adr_10 (N + 1)), .null, .null, .int 0]))) H := hM
  obtain ⟨w_18, ew_18⟩ : ∃ z9_, z9_ = va_up w_12 a (.inr (2, [.ref (adr_10 N), .ref (adr_10 (N + 1)), .null, .null, .int 0])) := ⟨_, rfl⟩
  rw [← ew_18] at hM
  have h_19 : w_18 a = .inr (2, [.ref (adr_10 N), .ref (adr_10 (N + 1)), .null, .null, .int 0]) := by rw [ew_18]; exact va_up_self _ _ _
  have h_20 : w_18 N = .inl (ac 4, 40, .inr (.inr (.inr (.inr (fun _ => none))))) := by rw [ew_18, va_up_ne _ _ (by omega)]; exact h_16
  have h_21 : w_18 (N + 1) = .inl (ac 1, 50, .inr (.inl (fun _ => 0))) := by rw [ew_18, va_up_ne _ _ (by omega)]; exact h_17
  refine lv_aload_n hx hb dX2_init_21 rfl (lv_at hl 0 rfl) ?_
  refine m_new (ci := 1) (fs := [.null, .int 0]) (C := RX1) (T := TX1) (n := 2) hx hb hts inX1_ tyX1 tyX1_ok hown (hts _ (by decide +kernel)) (hts _ (by decide +kernel)) (hts _ (by decide +kernel)) hK hM hS hA rfl (by intro j hj; have : j = 0 ∨ j = 1 := (by omega); rcases this with rfl | rfl <;> rfl) (Nat.le_of_ble_eq_true rfl) (Nat.le_of_ble_eq_true rfl) dX2_init_22 (fun adr_22 H he_23 hM hS => ?_)
  obtain ⟨w_24, ew_24⟩ : ∃ z9_, z9_ = va_up w_18 (N + 2) (.inr (1, [.null, .int 0])) := ⟨_, rfl⟩
  have hM : MW D A (N + 3) adr_22 w_24 H := by rw [ew_24]; exact hM
  have b_25 := he_23 a (by omega)
  have b_26 := he_23 N (by omega)
  have b_27 := he_23 (N + 1) (by omega)
  simp only [b_25, b_26, b_27] at hl
  try simp only [b_25, b_26, b_27]
  have h_28 : w_24 a = .inr (2, [.ref (adr_22 N), .ref (adr_22 (N + 1)), .null, .null, .int 0]) := by rw [ew_24, va_up_ne _ _ (by omega), h_19] <;> simp only [b_25, b_26, b_27]
  have h_29 : w_24 N = .inl (ac 4, 40, .inr (.inr (.inr (.inr (fun _ => none))))) := by rw [ew_24, va_up_ne _ _ (by omega), h_20]
  have h_30 : w_24 (N + 1) = .inl (ac 1, 50, .inr (.inl (fun _ => 0))) := by rw [ew_24, va_up_ne _ _ (by omega), h_21]
  have h_31 : w_24 (N + 2) = .inr (1, [.null, .int 0]) := by rw [ew_24]; exact va_up_self _ _ _
  refine lv_dup hx hb dX2_init_25 rfl ?_
  refine c_callv (va_runIN (mc := 1) (ms := 60) (As := []) (rest := [.ref (adr_22 (N + 2)), .ref (adr_22 a)]) ⟨hx, hb, hml, hown, hts⟩ (k_X1_init l D ac _ A (fun q hq => hA q (Nat.le_trans hS.1 hq)) ((N + 3)) adr_22 w_24 hM (N + 2) (by omega) h_31) ⟨va_cnB (host := RX7) (rm := { frames := 1, cells := 1, slots := 60, locals := 20 }) 0 hts gX2_init_X1_init_n23 rfl rfl rfl (hK.nest 6 rfl) (hts _ (by decide +kernel)) (by decide +kernel) ⟨(Nat.le_of_ble_eq_true rfl), (Nat.le_of_ble_eq_true rfl)⟩, rfl, hts _ (by decide +kernel)⟩ (pS hK) rfl rfl hl.1 rfl (lv_room (Nat.le_of_ble_eq_true rfl)) dX2_init_26 ⟨(Nat.le_of_ble_eq_true rfl), (Nat.le_of_ble_eq_true rfl)⟩) hS (fun adr_32 w_34 H locs hw_34 hM hS => ?_)
  obtain ⟨he_33, hw_34⟩ := hw_34
  have hM : MW D A (N + 4) adr_32 w_34 H := hM
  have b_35 := he_33 a (by omega)
  have b_36 := he_33 N (by omega)
  have b_37 := he_33 (N + 1) (by omega)
  have b_38 := he_33 (N + 2) (by omega)
  simp only [b_35, b_36, b_37, b_38] at hl
  try simp only [b_35, b_36, b_37, b_38]
  have h_39 : w_34 a = .inr (2, [.ref (adr_32 N), .ref (adr_32 (N + 1)), .null, .null, .int 0]) := by rw [hw_34, va_up_ne _ _ (by omega), va_up_ne _ _ (by omega), h_28] <;> simp only [b_35, b_36, b_37, b_38]
  have h_40 : w_34 N = .inl (ac 4, 40, .inr (.inr (.inr (.inr (fun _ => none))))) := by rw [hw_34, va_up_ne _ _ (by omega), va_up_ne _ _ (by omega), h_29]
  have h_41 : w_34 (N + 1) = .inl (ac 1, 50, .inr (.inl (fun _ => 0))) := by rw [hw_34, va_up_ne _ _ (by omega), va_up_ne _ _ (by omega), h_30]
  have h_42 : w_34 (N + 3) = .inl (ac 0, 60, .inl (fun _ => 0)) := by rw [hw_34, va_up_ne _ _ (by omega)]; exact va_up_self _ _ _
  have h_43 : w_34 (N + 2) = .inr (1, [.ref (adr_32 (N + 3)), .int 0]) := by rw [hw_34]; exact va_up_self _ _ _
  refine m_putF (ci := 2) (C := RX2) (T := TX2) (n := 5) (v := .ref (adr_32 (N + 2))) (ty := tyX2 2) hx hb hts inX2_ tyX2 tyX2_ok nmX2 hown hK hM hS rfl a (by omega) h_39 2 (by decide) (hts _ (by decide +kernel)) rfl hin rfl (by decide +kernel) rfl rfl (Nat.le_of_ble_eq_true rfl) dX2_init_29 (fun H locs hM hS => ?_)
  have hM : MW D A (N + 4) adr_32 (va_up w_34 a (.inr (2, [.ref (adr_32 N), .ref (adr_32 (N + 1)), .ref (adr_32 (N + 2)), .null, .int 0]))) H := hM
  obtain ⟨w_44, ew_44⟩ : ∃ z9_, z9_ = va_up w_34 a (.inr (2, [.ref (adr_32 N), .ref (adr_32 (N + 1)), .ref (adr_32 (N + 2)), .null, .int 0])) := ⟨_, rfl⟩
  rw [← ew_44] at hM
  have h_45 : w_44 a = .inr (2, [.ref (adr_32 N), .ref (adr_32 (N + 1)), .ref (adr_32 (N + 2)), .null, .int 0]) := by rw [ew_44]; exact va_up_self _ _ _
  have h_46 : w_44 N = .inl (ac 4, 40, .inr (.inr (.inr (.inr (fun _ => none))))) := by rw [ew_44, va_up_ne _ _ (by omega)]; exact h_40
  have h_47 : w_44 (N + 1) = .inl (ac 1, 50, .inr (.inl (fun _ => 0))) := by rw [ew_44, va_up_ne _ _ (by omega)]; exact h_41
  have h_48 : w_44 (N + 3) = .inl (ac 0, 60, .inl (fun _ => 0)) := by rw [ew_44, va_up_ne _ _ (by omega)]; exact h_42
  have h_49 : w_44 (N + 2) = .inr (1, [.ref (adr_32 (N + 3)), .int 0]) := by rw [ew_44, va_up_ne _ _ (by omega)]; exact h_43
  refine lv_aload_n hx hb dX2_init_32 rfl (lv_at hl 0 rfl) ?_
  refine m_new (ci := 0) (fs := [.null]) (C := RX0) (T := TX0) (n := 1) hx hb hts inX0_ tyX0 tyX0_ok hown (hts _ (by decide +kernel)) (hts _ (by decide +kernel)) (hts _ (by decide +kernel)) hK hM hS hA rfl (by intro j hj; have : j = 0 := (by omega); rcases this with rfl <;> rfl) (Nat.le_of_ble_eq_true rfl) (Nat.le_of_ble_eq_true rfl) dX2_init_33 (fun adr_50 H he_51 hM hS => ?_)
  obtain ⟨w_52, ew_52⟩ : ∃ z9_, z9_ = va_up w_44 (N + 4) (.inr (0, [.null])) := ⟨_, rfl⟩
  have hM : MW D A (N + 5) adr_50 w_52 H := by rw [ew_52]; exact hM
  have b_53 := he_51 a (by omega)
  have b_54 := he_51 N (by omega)
  have b_55 := he_51 (N + 1) (by omega)
  have b_56 := he_51 (N + 3) (by omega)
  have b_57 := he_51 (N + 2) (by omega)
  simp only [b_53, b_54, b_55, b_56, b_57] at hl
  try simp only [b_53, b_54, b_55, b_56, b_57]
  have h_58 : w_52 a = .inr (2, [.ref (adr_50 N), .ref (adr_50 (N + 1)), .ref (adr_50 (N + 2)), .null, .int 0]) := by rw [ew_52, va_up_ne _ _ (by omega), h_45] <;> simp only [b_53, b_54, b_55, b_56, b_57]
  have h_59 : w_52 N = .inl (ac 4, 40, .inr (.inr (.inr (.inr (fun _ => none))))) := by rw [ew_52, va_up_ne _ _ (by omega), h_46]
  have h_60 : w_52 (N + 1) = .inl (ac 1, 50, .inr (.inl (fun _ => 0))) := by rw [ew_52, va_up_ne _ _ (by omega), h_47]
  have h_61 : w_52 (N + 3) = .inl (ac 0, 60, .inl (fun _ => 0)) := by rw [ew_52, va_up_ne _ _ (by omega), h_48]
  have h_62 : w_52 (N + 2) = .inr (1, [.ref (adr_50 (N + 3)), .int 0]) := by rw [ew_52, va_up_ne _ _ (by omega), h_49] <;> simp only [b_53, b_54, b_55, b_56, b_57]
  have h_63 : w_52 (N + 4) = .inr (0, [.null]) := by rw [ew_52]; exact va_up_self _ _ _
  refine lv_dup hx hb dX2_init_36 rfl ?_
  refine c_callv (va_runIN (mc := 1) (ms := 81) (As := []) (rest := [.ref (adr_50 (N + 4)), .ref (adr_50 a)]) ⟨hx, hb, hml, hown, hts⟩ (k_X0_init l D ac _ A (fun q hq => hA q (Nat.le_trans hS.1 hq)) ((N + 5)) adr_50 w_52 hM (N + 4) (by omega) h_63) ⟨va_cnB (host := RX7) (rm := { frames := 1, cells := 1, slots := 81, locals := 20 }) 0 hts gX2_init_X0_init_n30 rfl rfl rfl (hK.nest 9 rfl) (hts _ (by decide +kernel)) (by decide +kernel) ⟨(Nat.le_of_ble_eq_true rfl), (Nat.le_of_ble_eq_true rfl)⟩, rfl, hts _ (by decide +kernel)⟩ (pS hK) rfl rfl hl.1 rfl (lv_room (Nat.le_of_ble_eq_true rfl)) dX2_init_37 ⟨(Nat.le_of_ble_eq_true rfl), (Nat.le_of_ble_eq_true rfl)⟩) hS (fun adr_64 w_66 H locs hw_66 hM hS => ?_)
  obtain ⟨he_65, hw_66⟩ := hw_66
  have hM : MW D A (N + 6) adr_64 w_66 H := hM
  have b_67 := he_65 a (by omega)
  have b_68 := he_65 N (by omega)
  have b_69 := he_65 (N + 1) (by omega)
  have b_70 := he_65 (N + 3) (by omega)
  have b_71 := he_65 (N + 2) (by omega)
  have b_72 := he_65 (N + 4) (by omega)
  simp only [b_67, b_68, b_69, b_70, b_71, b_72] at hl
  try simp only [b_67, b_68, b_69, b_70, b_71, b_72]
  have h_73 : w_66 a = .inr (2, [.ref (adr_64 N), .ref (adr_64 (N + 1)), .ref (adr_64 (N + 2)), .null, .int 0]) := by rw [hw_66, va_up_ne _ _ (by omega), va_up_ne _ _ (by omega), h_58] <;> simp only [b_67, b_68, b_69, b_70, b_71, b_72]
  have h_74 : w_66 N = .inl (ac 4, 40, .inr (.inr (.inr (.inr (fun _ => none))))) := by rw [hw_66, va_up_ne _ _ (by omega), va_up_ne _ _ (by omega), h_59]
  have h_75 : w_66 (N + 1) = .inl (ac 1, 50, .inr (.inl (fun _ => 0))) := by rw [hw_66, va_up_ne _ _ (by omega), va_up_ne _ _ (by omega), h_60]
  have h_76 : w_66 (N + 3) = .inl (ac 0, 60, .inl (fun _ => 0)) := by rw [hw_66, va_up_ne _ _ (by omega), va_up_ne _ _ (by omega), h_61]
  have h_77 : w_66 (N + 2) = .inr (1, [.ref (adr_64 (N + 3)), .int 0]) := by rw [hw_66, va_up_ne _ _ (by omega), va_up_ne _ _ (by omega), h_62] <;> simp only [b_67, b_68, b_69, b_70, b_71, b_72]
  have h_78 : w_66 (N + 5) = .inl (ac 0, 81, .inl (fun _ => 0)) := by rw [hw_66, va_up_ne _ _ (by omega)]; exact va_up_self _ _ _
  have h_79 : w_66 (N + 4) = .inr (0, [.ref (adr_64 (N + 5))]) := by rw [hw_66]; exact va_up_self _ _ _
  refine m_putF (ci := 2) (C := RX2) (T := TX2) (n := 5) (v := .ref (adr_64 (N + 4))) (ty := tyX2 3) hx hb hts inX2_ tyX2 tyX2_ok nmX2 hown hK hM hS rfl a (by omega) h_73 3 (by decide) (hts _ (by decide +kernel)) rfl hin rfl (by decide +kernel) rfl rfl (Nat.le_of_ble_eq_true rfl) dX2_init_40 (fun H locs hM hS => ?_)
  have hM : MW D A (N + 6) adr_64 (va_up w_66 a (.inr (2, [.ref (adr_64 N), .ref (adr_64 (N + 1)), .ref (adr_64 (N + 2)), .ref (adr_64 (N + 4)), .int 0]))) H := hM
  obtain ⟨w_80, ew_80⟩ : ∃ z9_, z9_ = va_up w_66 a (.inr (2, [.ref (adr_64 N), .ref (adr_64 (N + 1)), .ref (adr_64 (N + 2)), .ref (adr_64 (N + 4)), .int 0])) := ⟨_, rfl⟩
  rw [← ew_80] at hM
  have h_81 : w_80 a = .inr (2, [.ref (adr_64 N), .ref (adr_64 (N + 1)), .ref (adr_64 (N + 2)), .ref (adr_64 (N + 4)), .int 0]) := by rw [ew_80]; exact va_up_self _ _ _
  have h_82 : w_80 N = .inl (ac 4, 40, .inr (.inr (.inr (.inr (fun _ => none))))) := by rw [ew_80, va_up_ne _ _ (by omega)]; exact h_74
  have h_83 : w_80 (N + 1) = .inl (ac 1, 50, .inr (.inl (fun _ => 0))) := by rw [ew_80, va_up_ne _ _ (by omega)]; exact h_75
  have h_84 : w_80 (N + 3) = .inl (ac 0, 60, .inl (fun _ => 0)) := by rw [ew_80, va_up_ne _ _ (by omega)]; exact h_76
  have h_85 : w_80 (N + 2) = .inr (1, [.ref (adr_64 (N + 3)), .int 0]) := by rw [ew_80, va_up_ne _ _ (by omega)]; exact h_77
  have h_86 : w_80 (N + 5) = .inl (ac 0, 81, .inl (fun _ => 0)) := by rw [ew_80, va_up_ne _ _ (by omega)]; exact h_78
  have h_87 : w_80 (N + 4) = .inr (0, [.ref (adr_64 (N + 5))]) := by rw [ew_80, va_up_ne _ _ (by omega)]; exact h_79
  refine lv_aload_n hx hb dX2_init_43 rfl (lv_at hl 0 rfl) ?_
  refine lv_iconst (v := 0) hx hb dX2_init_44 (by decide) ?_
  refine m_put (ci := 2) (C := RX2) (T := TX2) (n := 5) (v := .int 0) (ty := tyX2 4) hx hb hts inX2_ tyX2 tyX2_ok nmX2 hown hK hM hS rfl a (by omega) h_81 4 (by decide) (hts _ (by decide +kernel)) rfl (by decide +kernel) rfl rfl (Nat.le_of_ble_eq_true rfl) dX2_init_45 (fun H locs hM hS => ?_)
  have hM : MW D A (N + 6) adr_64 (va_up w_80 a (.inr (2, [.ref (adr_64 N), .ref (adr_64 (N + 1)), .ref (adr_64 (N + 2)), .ref (adr_64 (N + 4)), .int 0]))) H := hM
  obtain ⟨w_88, ew_88⟩ : ∃ z9_, z9_ = va_up w_80 a (.inr (2, [.ref (adr_64 N), .ref (adr_64 (N + 1)), .ref (adr_64 (N + 2)), .ref (adr_64 (N + 4)), .int 0])) := ⟨_, rfl⟩
  rw [← ew_88] at hM
  have h_89 : w_88 a = .inr (2, [.ref (adr_64 N), .ref (adr_64 (N + 1)), .ref (adr_64 (N + 2)), .ref (adr_64 (N + 4)), .int 0]) := by rw [ew_88]; exact va_up_self _ _ _
  have h_90 : w_88 N = .inl (ac 4, 40, .inr (.inr (.inr (.inr (fun _ => none))))) := by rw [ew_88, va_up_ne _ _ (by omega)]; exact h_82
  have h_91 : w_88 (N + 1) = .inl (ac 1, 50, .inr (.inl (fun _ => 0))) := by rw [ew_88, va_up_ne _ _ (by omega)]; exact h_83
  have h_92 : w_88 (N + 3) = .inl (ac 0, 60, .inl (fun _ => 0)) := by rw [ew_88, va_up_ne _ _ (by omega)]; exact h_84
  have h_93 : w_88 (N + 2) = .inr (1, [.ref (adr_64 (N + 3)), .int 0]) := by rw [ew_88, va_up_ne _ _ (by omega)]; exact h_85
  have h_94 : w_88 (N + 5) = .inl (ac 0, 81, .inl (fun _ => 0)) := by rw [ew_88, va_up_ne _ _ (by omega)]; exact h_86
  have h_95 : w_88 (N + 4) = .inr (0, [.ref (adr_64 (N + 5))]) := by rw [ew_88, va_up_ne _ _ (by omega)]; exact h_87
  rw [hQ0]
  exact e_cv (post := fun adr2 w1 => (∀ k, k < N → adr k = adr2 k ∧ (¬ k = a → w1 k = w k)) ∧ w1 a = .inr (2, [.ref (adr2 N), .ref (adr2 (N + 1)), .ref (adr2 (N + 2)), .ref (adr2 (N + 4)), .int 0]) ∧ w1 N = .inl (ac 4, 40, .inr (.inr (.inr (.inr (fun _ => none))))) ∧ w1 (N + 1) = .inl (ac 1, 50, .inr (.inl (fun _ => 0))) ∧ w1 (N + 2) = .inr (1, [.ref (adr2 (N + 3)), .int 0]) ∧ w1 (N + 3) = .inl (ac 0, 60, .inl (fun _ => 0)) ∧ w1 (N + 4) = .inr (0, [.ref (adr2 (N + 5))]) ∧ w1 (N + 5) = .inl (ac 0, 81, .inl (fun _ => 0))) hx hb hlocks hr dX2_init_48 (Nat.le_of_ble_eq_true rfl) (Nat.le_of_ble_eq_true rfl) hM hS (⟨fun k9 hk9 => ⟨((he_2 k9 (by omega)).trans ((he_11 k9 (by omega)).trans ((he_23 k9 (by omega)).trans ((he_33 k9 (by omega)).trans ((he_51 k9 (by omega)).trans (he_65 k9 (by omega))))))), fun hka => by rw [ew_88, va_up_ne _ _ (by omega), ew_80, va_up_ne _ _ (by omega), hw_66, va_up_ne _ _ (by omega), va_up_ne _ _ (by omega), ew_52, va_up_ne _ _ (by omega), ew_44, va_up_ne _ _ (by omega), hw_34, va_up_ne _ _ (by omega), va_up_ne _ _ (by omega), ew_24, va_up_ne _ _ (by omega), ew_18, va_up_ne _ _ (by omega), ew_12, va_up_ne _ _ (by omega), ew_7, va_up_ne _ _ (by omega), ew_3, va_up_ne _ _ (by omega)]⟩, h_89, h_90, h_91, h_93, h_92, h_95, h_94⟩)
