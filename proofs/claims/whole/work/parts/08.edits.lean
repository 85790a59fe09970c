/-- a row of the table of edits, out of the row before -/
def edS (f : Nat → Int32) (x : Int32) (b : Nat → Nat) (i : Nat) : Nat → Nat
  | 0 => i
  | j + 1 => min (b j + (if x = f j then 0 else 1)) (min (b (j + 1) + 1) (edS f x b i j + 1))
/-- the edits from the first i words of f to the first j of g -/
def ed (f g : Nat → Int32) : Nat → Nat → Nat
  | 0 => fun j => j
  | i + 1 => edS g (f i) (ed f g i) (i + 1)
theorem ed_0 {f g : Nat → Int32} {j : Nat} : ed f g 0 j = j := rfl
theorem ed_s0 {f g : Nat → Int32} {i : Nat} : ed f g i 0 = i := by cases i <;> rfl
theorem ed_ss {f g : Nat → Int32} {i j : Nat} : ed f g (i + 1) (j + 1) = min (ed f g i j + (if f i = g j then 0 else 1)) (min (ed f g i (j + 1) + 1) (ed f g (i + 1) j + 1)) := rfl
theorem ed_le {f g : Nat → Int32} : ∀ i j : Nat, ed f g i j ≤ i + j := by
  intro i
  induction i with
  | zero => intro j; rw [ed_0]; omega
  | succ i ih =>
    intro j
    induction j with
    | zero => rw [ed_s0]; omega
    | succ j jh => rw [ed_ss]; omega
theorem nmin {a b : Nat} (ha : a < 2 ^ 31) (hb : b < 2 ^ 31) : (if nI b < nI a then nI b else nI a) = nI (min a b) := by
  by_cases h : b < a
  · rw [if_pos (nI_lt h ha), Nat.min_eq_right (by omega)]
  · rw [if_neg (nI_nlt (by omega) hb), Nat.min_eq_left (by omega)]
theorem nmax {a b : Nat} (ha : a < 2 ^ 31) (hb : b < 2 ^ 31) : (if nI a < nI b then nI b else nI a) = nI (max a b) := by
  by_cases h : a < b
  · rw [if_pos (nI_lt h hb), Nat.max_eq_right (by omega)]
  · rw [if_neg (nI_nlt (by omega) ha), Nat.max_eq_left (by omega)]
/-- the likeness of two rows, the longer one of L words, with d edits between them -/
def lik (L d : Nat) : Int32 := 100 - (100 * nI d + nI L - 1) / nI L
set_option maxHeartbeats 4000000 in
set_option maxRecDepth 100000 in
/-- Edits.between -/
theorem k_X0_between (l : Launch) (D : va_G) (ac : Nat → ClassId) (H : Heap) (u t : Nat) (T : Nat → Int32) (h1 : Cel D H u (.inr (0, [.ref t]))) (h2 : Cel D H t (.inl (ac 0, 81, .inl T))) (i j : Nat) (hi : i ≤ 8) (hj : j ≤ 8) : ROi l yX0_between wsX0_between ({ frames := 0, cells := 0, slots := 0, locals := 0 }) [.ref u, .int (nI i), .int (nI j)] D ac H (fun r => r = T (i * 9 + j)) := by
  refine Met.ofW (cc := cX0_between) (maxL := 4) (ret := (some .int)) (by decide) rfl ?_
  intro p e s m args below meth c s₁ B hml hv
  obtain ⟨hargs, hsz, hK⟩ := hv
  have hx := B.exec
  have hb := B.bytes
  have hr := B.returns
  have hts := atoms_spec (ws := wsX0_between) B.pre
  have hown : s.vm.findClass RX0 = some m.cls := findClass_of_methodNamed B.named
  have hlocks := B.notSynchronized
  subst hsz
  have inX0_ : ∀ w ∈ wsX00, w ∈ wsX0_between := by decide +kernel
  have hS : va_S (fun _ => False) s.heap s.heap [] := va_S.rf
  have hl := lv_entry ([.ref u, .int (nI i), .int (nI j)]) (n := 4) (Nat.le_of_ble_eq_true rfl)
  have hen := lg_entry_eq m [.ref u, .int (nI i), .int (nI j)] 4
  rw [← hargs] at hen
  rw [hen]
  generalize (lg_sl ([.ref u, .int (nI i), .int (nI j)]) ++ List.replicate (4 - (lg_sl ([.ref u, .int (nI i), .int (nI j)])).length) Slot.unset).toArray = ls at hl ⊢
  have hl : lv_has ls 4 [(0, .ref u), (1, .int (nI i)), (2, .int (nI j))] := hl
  refine lv_iload_n hx hb dX0_between_0 rfl (lv_at hl 1 rfl) ?_
  refine lv_bipush (v := 9) hx hb dX0_between_1 (by decide) ?_
  refine lv_imul hx hb dX0_between_3 ?_
  refine lv_iload_n hx hb dX0_between_4 rfl (lv_at hl 2 rfl) ?_
  refine lv_iadd hx hb dX0_between_5 ?_
  refine m_top (show (((nI i) * 9) + (nI j)) = nI (i * 9 + j) from by rw [show (9 : Int32) = nI 9 from rfl, pk_mul, nI_add]) ?_
  refine lv_istore_n (lv' := [(3, .int (nI (i * 9 + j))), (0, .ref u), (1, .int (nI i)), (2, .int (nI j))]) hx hb dX0_between_6 rfl hl (by decide) rfl (fun ls hl => ?_)
  refine lv_iload_n hx hb dX0_between_7 rfl (lv_at hl 0 rfl) ?_
  refine lv_if_lt (tgt := 29) hx hb dX0_between_8 (by decide) (fun c8 => ?_) (fun c8 => ?_)
  · exact absurd c8 (nI_pos (by omega))
  · refine lv_iload_n hx hb dX0_between_11 rfl (lv_at hl 0 rfl) ?_
    refine lv_aload_n hx hb dX0_between_12 rfl (lv_at hl 1 rfl) ?_
    refine m_get (ci := 0) (C := RX0) (T := TX0) (n := 1) (v := .ref t) hx hb hts inX0_ hown hK rfl h1 0 (by decide) (hts _ (by decide +kernel)) rfl dX0_between_13 ?_
    refine m_alen (v := 81) (ty := _) hx hb hK 0 h2 rfl (by first | rfl | decide) dX0_between_16 ?_
    refine lv_icmp_ge (tgt := 29) hx hb dX0_between_17 (by decide) (fun c17 => ?_) (fun c17 => ?_)
    · exact absurd (le_le (a := 81) c17 (by omega) (by omega)) (by omega)
    · refine lv_aload_n hx hb dX0_between_20 rfl (lv_at hl 1 rfl) ?_
      refine m_get (ci := 0) (C := RX0) (T := TX0) (n := 1) (v := .ref t) hx hb hts inX0_ hown hK rfl h1 0 (by decide) (hts _ (by decide +kernel)) rfl dX0_between_21 ?_
      refine lv_iload_n hx hb dX0_between_24 rfl (lv_at hl 0 rfl) ?_
      refine m_iald hx hb hK h2 (vp_in_nI (by omega) (by decide)) dX0_between_25 ?_
      refine m_top (show (T (nI (i * 9 + j)).toNatClampNeg) = T (i * 9 + j) from by rw [nI_clamp (by omega)]) ?_
      refine lv_goto (tgt := 30) hx hb dX0_between_26 (by decide) ?_
      exact e_i hx hb hlocks hr dX0_between_30 hS (rfl)
set_option maxHeartbeats 4000000 in
set_option maxRecDepth 100000 in
/-- Edits.least -/
theorem k_X0_least (l : Launch) (D : va_G) (ac : Nat → ClassId) (H : Heap) (u t : Nat) (T : Nat → Int32) (h1 : Cel D H u (.inr (0, [.ref t]))) (h2 : Cel D H t (.inl (ac 0, 81, .inl T))) (i j x1 x2 x3 : Nat) (b : Int32) (hi : i ≤ 8) (hj : j ≤ 8) (hb1 : x1 < 1000) (hb2 : x2 < 1000) (hb3 : x3 < 1000) (hd : 0 < i → 0 < j → T ((i - 1) * 9 + (j - 1)) = nI x1 ∧ T ((i - 1) * 9 + j) = nI x2 ∧ T (i * 9 + (j - 1)) = nI x3) : ROi l yX0_least wsX0_least ({ frames := 1, cells := 0, slots := 0, locals := 23 }) [.ref u, .int (nI i), .int (nI j), .int b] D ac H (fun r => r = nI (if i = 0 ∨ j = 0 then i + j else min (x1 + (if b = 0 then 1 else 0)) (min (x2 + 1) (x3 + 1)))) := by
  refine Met.ofW (cc := cX0_least) (maxL := 7) (ret := (some .int)) (by decide) rfl ?_
  intro p e s m args below meth c s₁ B hml hv
  obtain ⟨hargs, hsz, hK⟩ := hv
  have hx := B.exec
  have hb := B.bytes
  have hr := B.returns
  have hts := atoms_spec (ws := wsX0_least) B.pre
  have hown : s.vm.findClass RX0 = some m.cls := findClass_of_methodNamed B.named
  have hlocks := B.notSynchronized
  subst hsz
  have hS : va_S (fun _ => False) s.heap s.heap [] := va_S.rf
  have hl := lv_entry ([.ref u, .int (nI i), .int (nI j), .int b]) (n := 7) (Nat.le_of_ble_eq_true rfl)
  have hen := lg_entry_eq m [.ref u, .int (nI i), .int (nI j), .int b] 7
  rw [← hargs] at hen
  rw [hen]
  generalize (lg_sl ([.ref u, .int (nI i), .int (nI j), .int b]) ++ List.replicate (7 - (lg_sl ([.ref u, .int (nI i), .int (nI j), .int b])).length) Slot.unset).toArray = ls at hl ⊢
  have hl : lv_has ls 7 [(0, .ref u), (1, .int (nI i)), (2, .int (nI j)), (3, .int b)] := hl
  refine lv_iload_n hx hb dX0_least_0 rfl (lv_at hl 1 rfl) ?_
  refine lv_if_eq (tgt := 8) hx hb dX0_least_1 (by decide) (fun c1 => ?_) (fun c1 => ?_)
  · have h1_ : i = 0 := by have := (nI_eq (b := 0) (by omega) (by omega)).mp c1; omega
    refine lv_iload_n hx hb dX0_least_8 rfl (lv_at hl 1 rfl) ?_
    refine lv_iload_n hx hb dX0_least_9 rfl (lv_at hl 2 rfl) ?_
    refine lv_iadd hx hb dX0_least_10 ?_
    refine m_top (show ((nI i) + (nI j)) = nI (i + j) from nI_add _ _) ?_
    exact e_i hx hb hlocks hr dX0_least_11 hS (by first | rw [if_pos (Or.inl h1_)] | rw [if_pos (Or.inr h2_)])
  · have h1_ : 0 < i := Nat.pos_of_ne_zero (fun h => c1 (by rw [h]; rfl))
    refine lv_iload_n hx hb dX0_least_4 rfl (lv_at hl 2 rfl) ?_
    refine lv_if_ne (tgt := 12) hx hb dX0_least_5 (by decide) (fun c5 => ?_) (fun c5 => ?_)
    · have h2_ : 0 < j := Nat.pos_of_ne_zero (fun h => c5 (by rw [h]; rfl))
      refine lv_aload_n hx hb dX0_least_12 rfl (lv_at hl 0 rfl) ?_
      refine lv_iload_n hx hb dX0_least_13 rfl (lv_at hl 1 rfl) ?_
      refine lv_iconst (v := 1) hx hb dX0_least_14 (by decide) ?_
      refine lv_isub hx hb dX0_least_15 ?_
      refine m_top (show ((nI i) - 1) = nI (i - 1) from pk_sub (a := i) (b := 1) (by omega)) ?_
      refine lv_iload_n hx hb dX0_least_16 rfl (lv_at hl 2 rfl) ?_
      refine lv_iconst (v := 1) hx hb dX0_least_17 (by decide) ?_
      refine lv_isub hx hb dX0_least_18 ?_
      refine m_top (show ((nI j) - 1) = nI (j - 1) from pk_sub (a := j) (b := 1) (by omega)) ?_
      refine r_calli (va_runV (As := [.int (nI (i - 1)), .int (nI (j - 1))]) (rest := []) ⟨hx, hb, hml, hown, hts⟩ (k_X0_between l D ac _ u t T h1 h2 (i - 1) (j - 1) (by omega) (by omega)) (cwV 2 hts gX0_least_X0_between rfl rfl rfl (by decide +kernel) ⟨Nat.le_of_ble_eq_true rfl, Nat.le_of_ble_eq_true rfl⟩) (pV hK (ci := 0) rfl h1) rfl rfl hl.1 rfl (lv_room (Nat.le_of_ble_eq_true rfl)) dX0_least_19 ⟨Nat.le_of_ble_eq_true rfl, Nat.le_of_ble_eq_true rfl⟩) hS (fun rv_1 locs hrv_1 hS => ?_)
      subst hrv_1
      refine m_top (show (T ((i - 1) * 9 + (j - 1))) = nI x1 from (hd h1_ h2_).1) ?_
      refine lv_iload_n hx hb dX0_least_22 rfl (lv_at hl 3 rfl) ?_
      refine lv_if_eq (tgt := 30) hx hb dX0_least_23 (by decide) (fun c23 => ?_) (fun c23 => ?_)
      · refine lv_iconst (v := 1) hx hb dX0_least_30 (by decide) ?_
        refine lv_iadd hx hb dX0_least_31 ?_
        refine m_top (show ((nI x1) + 1) = nI (x1 + (if b = 0 then 1 else 0)) from by first | (rw [if_pos c23]; exact nI_1 _) | (rw [if_neg c23]; exact Int32.add_zero _)) ?_
        refine lv_istore (lv' := [(4, .int (nI (x1 + (if b = 0 then 1 else 0)))), (0, .ref u), (1, .int (nI i)), (2, .int (nI j)), (3, .int b)]) hx hb dX0_least_32 hl (by decide) rfl (fun ls hl => ?_)
        refine lv_aload_n hx hb dX0_least_34 rfl (lv_at hl 1 rfl) ?_
        refine lv_iload_n hx hb dX0_least_35 rfl (lv_at hl 2 rfl) ?_
        refine lv_iconst (v := 1) hx hb dX0_least_36 (by decide) ?_
        refine lv_isub hx hb dX0_least_37 ?_
        refine m_top (show ((nI i) - 1) = nI (i - 1) from pk_sub (a := i) (b := 1) (by omega)) ?_
        refine lv_iload_n hx hb dX0_least_38 rfl (lv_at hl 3 rfl) ?_
        refine r_calli (va_runV (As := [.int (nI (i - 1)), .int (nI j)]) (rest := []) ⟨hx, hb, hml, hown, hts⟩ (k_X0_between l D ac _ u t T h1 h2 (i - 1) j (by omega) (by omega)) (cwV 2 hts gX0_least_X0_between rfl rfl rfl (by decide +kernel) ⟨Nat.le_of_ble_eq_true rfl, Nat.le_of_ble_eq_true rfl⟩) (pV hK (ci := 0) rfl h1) rfl rfl hl.1 rfl (lv_room (Nat.le_of_ble_eq_true rfl)) dX0_least_39 ⟨Nat.le_of_ble_eq_true rfl, Nat.le_of_ble_eq_true rfl⟩) hS (fun rv_2 locs hrv_2 hS => ?_)
        subst hrv_2
        refine m_top (show (T ((i - 1) * 9 + j)) = nI x2 from (hd h1_ h2_).2.1) ?_
        refine lv_iconst (v := 1) hx hb dX0_least_42 (by decide) ?_
        refine lv_iadd hx hb dX0_least_43 ?_
        refine m_top (show ((nI x2) + 1) = nI (x2 + 1) from nI_1 _) ?_
        refine lv_istore (lv' := [(5, .int (nI (x2 + 1))), (4, .int (nI (x1 + (if b = 0 then 1 else 0)))), (0, .ref u), (1, .int (nI i)), (2, .int (nI j)), (3, .int b)]) hx hb dX0_least_44 hl (by decide) rfl (fun ls hl => ?_)
        refine lv_aload_n hx hb dX0_least_46 rfl (lv_at hl 2 rfl) ?_
        refine lv_iload_n hx hb dX0_least_47 rfl (lv_at hl 3 rfl) ?_
        refine lv_iload_n hx hb dX0_least_48 rfl (lv_at hl 4 rfl) ?_
        refine lv_iconst (v := 1) hx hb dX0_least_49 (by decide) ?_
        refine lv_isub hx hb dX0_least_50 ?_
        refine m_top (show ((nI j) - 1) = nI (j - 1) from pk_sub (a := j) (b := 1) (by omega)) ?_
        refine r_calli (va_runV (As := [.int (nI i), .int (nI (j - 1))]) (rest := []) ⟨hx, hb, hml, hown, hts⟩ (k_X0_between l D ac _ u t T h1 h2 i (j - 1) (by omega) (by omega)) (cwV 2 hts gX0_least_X0_between rfl rfl rfl (by decide +kernel) ⟨Nat.le_of_ble_eq_true rfl, Nat.le_of_ble_eq_true rfl⟩) (pV hK (ci := 0) rfl h1) rfl rfl hl.1 rfl (lv_room (Nat.le_of_ble_eq_true rfl)) dX0_least_51 ⟨Nat.le_of_ble_eq_true rfl, Nat.le_of_ble_eq_true rfl⟩) hS (fun rv_3 locs hrv_3 hS => ?_)
        subst hrv_3
        refine m_top (show (T (i * 9 + (j - 1))) = nI x3 from (hd h1_ h2_).2.2) ?_
        refine lv_iconst (v := 1) hx hb dX0_least_54 (by decide) ?_
        refine lv_iadd hx hb dX0_least_55 ?_
        refine m_top (show ((nI x3) + 1) = nI (x3 + 1) from nI_1 _) ?_
        refine lv_istore (lv' := [(6, .int (nI (x3 + 1))), (5, .int (nI (x2 + 1))), (4, .int (nI (x1 + (if b = 0 then 1 else 0)))), (0, .ref u), (1, .int (nI i)), (2, .int (nI j)), (3, .int b)]) hx hb dX0_least_56 hl (by decide) rfl (fun ls hl => ?_)
        refine lv_iload hx hb dX0_least_58 (lv_at hl 2 rfl) ?_
        refine lv_iload hx hb dX0_least_60 (lv_at hl 1 rfl) ?_
        refine lv_iload hx hb dX0_least_62 (lv_at hl 0 rfl) ?_
        refine va_mmin hx hb (hml.trans hl.1.symm) hown (hts _ (by decide +kernel)) (hts _ (by decide +kernel)) (hts _ (by decide +kernel)) (hts _ (by decide +kernel)) (Nat.le_of_ble_eq_true rfl) (Nat.le_of_ble_eq_true rfl) (Nat.zero_le _) (Nat.zero_le _) dX0_least_64 ?_
        refine m_top (show (if (nI (x3 + 1)) < (nI (x2 + 1)) then nI (x3 + 1) else nI (x2 + 1)) = nI (min (x2 + 1) (x3 + 1)) from nmin (by omega) (by omega)) ?_
        refine va_mmin hx hb (hml.trans hl.1.symm) hown (hts _ (by decide +kernel)) (hts _ (by decide +kernel)) (hts _ (by decide +kernel)) (hts _ (by decide +kernel)) (Nat.le_of_ble_eq_true rfl) (Nat.le_of_ble_eq_true rfl) (Nat.zero_le _) (Nat.zero_le _) dX0_least_67 ?_
        refine m_top (show (if (nI (min (x2 + 1) (x3 + 1))) < (nI (x1 + (if b = 0 then 1 else 0))) then nI (min (x2 + 1) (x3 + 1)) else nI (x1 + (if b = 0 then 1 else 0))) = nI (min (x1 + (if b = 0 then 1 else 0)) (min (x2 + 1) (x3 + 1))) from nmin (by split <;> omega) (by omega)) ?_
        exact e_i hx hb hlocks hr dX0_least_70 hS (by rw [if_neg (show ¬ (i = 0 ∨ j = 0) from by omega)])
      · refine lv_iconst (v := 0) hx hb dX0_least_26 (by decide) ?_
        refine lv_goto (tgt := 31) hx hb dX0_least_27 (by decide) ?_
        refine lv_iadd hx hb dX0_least_31 ?_
        refine m_top (show ((nI x1) + 0) = nI (x1 + (if b = 0 then 1 else 0)) from by first | (rw [if_pos c23]; exact nI_1 _) | (rw [if_neg c23]; exact Int32.add_zero _)) ?_
        refine lv_istore (lv' := [(4, .int (nI (x1 + (if b = 0 then 1 else 0)))), (0, .ref u), (1, .int (nI i)), (2, .int (nI j)), (3, .int b)]) hx hb dX0_least_32 hl (by decide) rfl (fun ls hl => ?_)
        refine lv_aload_n hx hb dX0_least_34 rfl (lv_at hl 1 rfl) ?_
        refine lv_iload_n hx hb dX0_least_35 rfl (lv_at hl 2 rfl) ?_
        refine lv_iconst (v := 1) hx hb dX0_least_36 (by decide) ?_
        refine lv_isub hx hb dX0_least_37 ?_
        refine m_top (show ((nI i) - 1) = nI (i - 1) from pk_sub (a := i) (b := 1) (by omega)) ?_
        refine lv_iload_n hx hb dX0_least_38 rfl (lv_at hl 3 rfl) ?_
        refine r_calli (va_runV (As := [.int (nI (i - 1)), .int (nI j)]) (rest := []) ⟨hx, hb, hml, hown, hts⟩ (k_X0_between l D ac _ u t T h1 h2 (i - 1) j (by omega) (by omega)) (cwV 2 hts gX0_least_X0_between rfl rfl rfl (by decide +kernel) ⟨Nat.le_of_ble_eq_true rfl, Nat.le_of_ble_eq_true rfl⟩) (pV hK (ci := 0) rfl h1) rfl rfl hl.1 rfl (lv_room (Nat.le_of_ble_eq_true rfl)) dX0_least_39 ⟨Nat.le_of_ble_eq_true rfl, Nat.le_of_ble_eq_true rfl⟩) hS (fun rv_4 locs hrv_4 hS => ?_)
        subst hrv_4
        refine m_top (show (T ((i - 1) * 9 + j)) = nI x2 from (hd h1_ h2_).2.1) ?_
        refine lv_iconst (v := 1) hx hb dX0_least_42 (by decide) ?_
        refine lv_iadd hx hb dX0_least_43 ?_
        refine m_top (show ((nI x2) + 1) = nI (x2 + 1) from nI_1 _) ?_
        refine lv_istore (lv' := [(5, .int (nI (x2 + 1))), (4, .int (nI (x1 + (if b = 0 then 1 else 0)))), (0, .ref u), (1, .int (nI i)), (2, .int (nI j)), (3, .int b)]) hx hb dX0_least_44 hl (by decide) rfl (fun ls hl => ?_)
        refine lv_aload_n hx hb dX0_least_46 rfl (lv_at hl 2 rfl) ?_
        refine lv_iload_n hx hb dX0_least_47 rfl (lv_at hl 3 rfl) ?_
        refine lv_iload_n hx hb dX0_least_48 rfl (lv_at hl 4 rfl) ?_
        refine lv_iconst (v := 1) hx hb dX0_least_49 (by decide) ?_
        refine lv_isub hx hb dX0_least_50 ?_
        refine m_top (show ((nI j) - 1) = nI (j - 1) from pk_sub (a := j) (b := 1) (by omega)) ?_
        refine r_calli (va_runV (As := [.int (nI i), .int (nI (j - 1))]) (rest := []) ⟨hx, hb, hml, hown, hts⟩ (k_X0_between l D ac _ u t T h1 h2 i (j - 1) (by omega) (by omega)) (cwV 2 hts gX0_least_X0_between rfl rfl rfl (by decide +kernel) ⟨Nat.le_of_ble_eq_true rfl, Nat.le_of_ble_eq_true rfl⟩) (pV hK (ci := 0) rfl h1) rfl rfl hl.1 rfl (lv_room (Nat.le_of_ble_eq_true rfl)) dX0_least_51 ⟨Nat.le_of_ble_eq_true rfl, Nat.le_of_ble_eq_true rfl⟩) hS (fun rv_5 locs hrv_5 hS => ?_)
        subst hrv_5
        refine m_top (show (T (i * 9 + (j - 1))) = nI x3 from (hd h1_ h2_).2.2) ?_
        refine lv_iconst (v := 1) hx hb dX0_least_54 (by decide) ?_
        refine lv_iadd hx hb dX0_least_55 ?_
        refine m_top (show ((nI x3) + 1) = nI (x3 + 1) from nI_1 _) ?_
        refine lv_istore (lv' := [(6, .int (nI (x3 + 1))), (5, .int (nI (x2 + 1))), (4, .int (nI (x1 + (if b = 0 then 1 else 0)))), (0, .ref u), (1, .int (nI i)), (2, .int (nI j)), (3, .int b)]) hx hb dX0_least_56 hl (by decide) rfl (fun ls hl => ?_)
        refine lv_iload hx hb dX0_least_58 (lv_at hl 2 rfl) ?_
        refine lv_iload hx hb dX0_least_60 (lv_at hl 1 rfl) ?_
        refine lv_iload hx hb dX0_least_62 (lv_at hl 0 rfl) ?_
        refine va_mmin hx hb (hml.trans hl.1.symm) hown (hts _ (by decide +kernel)) (hts _ (by decide +kernel)) (hts _ (by decide +kernel)) (hts _ (by decide +kernel)) (Nat.le_of_ble_eq_true rfl) (Nat.le_of_ble_eq_true rfl) (Nat.zero_le _) (Nat.zero_le _) dX0_least_64 ?_
        refine m_top (show (if (nI (x3 + 1)) < (nI (x2 + 1)) then nI (x3 + 1) else nI (x2 + 1)) = nI (min (x2 + 1) (x3 + 1)) from nmin (by omega) (by omega)) ?_
        refine va_mmin hx hb (hml.trans hl.1.symm) hown (hts _ (by decide +kernel)) (hts _ (by decide +kernel)) (hts _ (by decide +kernel)) (hts _ (by decide +kernel)) (Nat.le_of_ble_eq_true rfl) (Nat.le_of_ble_eq_true rfl) (Nat.zero_le _) (Nat.zero_le _) dX0_least_67 ?_
        refine m_top (show (if (nI (min (x2 + 1) (x3 + 1))) < (nI (x1 + (if b = 0 then 1 else 0))) then nI (min (x2 + 1) (x3 + 1)) else nI (x1 + (if b = 0 then 1 else 0))) = nI (min (x1 + (if b = 0 then 1 else 0)) (min (x2 + 1) (x3 + 1))) from nmin (by split <;> omega) (by omega)) ?_
        exact e_i hx hb hlocks hr dX0_least_70 hS (by rw [if_neg (show ¬ (i = 0 ∨ j = 0) from by omega)])
    · have h2_ : j = 0 := by have := (nI_eq (b := 0) (by omega) (by omega)).mp c5; omega
      refine lv_iload_n hx hb dX0_least_8 rfl (lv_at hl 1 rfl) ?_
      refine lv_iload_n hx hb dX0_least_9 rfl (lv_at hl 2 rfl) ?_
      refine lv_iadd hx hb dX0_least_10 ?_
      refine m_top (show ((nI i) + (nI j)) = nI (i + j) from nI_add _ _) ?_
      exact e_i hx hb hlocks hr dX0_least_11 hS (by first | rw [if_pos (Or.inl h1_)] | rw [if_pos (Or.inr h2_)])
/-- which last word is to go, where they differ -/
def skp (x1 x2 x3 : Nat) : Int32 := if x1 ≤ x2 ∧ x1 ≤ x3 then 0 else if x2 ≤ x3 then 1 else 2
theorem skp0 {x1 x2 x3 : Nat} (h1 : x1 ≤ x2) (h2 : x1 ≤ x3) : skp x1 x2 x3 = 0 := if_pos ⟨h1, h2⟩
theorem skp1 {x1 x2 x3 : Nat} (h : ¬ (x1 ≤ x2 ∧ x1 ≤ x3)) (h2 : x2 ≤ x3) : skp x1 x2 x3 = 1 := by unfold skp; rw [if_neg h, if_pos h2]
theorem skp2 {x1 x2 x3 : Nat} (h : ¬ (x1 ≤ x2 ∧ x1 ≤ x3)) (h2 : ¬ x2 ≤ x3) : skp x1 x2 x3 = 2 := by unfold skp; rw [if_neg h, if_neg h2]
set_option maxHeartbeats 4000000 in
set_option maxRecDepth 100000 in
/-- Edits.skipBehind -/
theorem k_X0_skipBehind (l : Launch) (D : va_G) (ac : Nat → ClassId) (H : Heap) (u t : Nat) (T : Nat → Int32) (h1 : Cel D H u (.inr (0, [.ref t]))) (h2 : Cel D H t (.inl (ac 0, 81, .inl T))) (i j x1 x2 x3 : Nat) (hi : i ≤ 8) (hj : j ≤ 8) (h1_ : 0 < i) (h2_ : 0 < j) (hb1 : x1 < 1000) (hb2 : x2 < 1000) (hb3 : x3 < 1000) (hd : T ((i - 1) * 9 + j) = nI x1 ∧ T (i * 9 + (j - 1)) = nI x2 ∧ T ((i - 1) * 9 + (j - 1)) = nI x3) : ROi l yX0_skipBehind wsX0_skipBehind ({ frames := 1, cells := 0, slots := 0, locals := 23 }) [.ref u, .int (nI i), .int (nI j)] D ac H (fun r => r = skp x1 x2 x3) := by
  refine Met.ofW (cc := cX0_skipBehind) (maxL := 6) (ret := (some .int)) (by decide) rfl ?_
  intro p e s m args below meth c s₁ B hml hv
  obtain ⟨hargs, hsz, hK⟩ := hv
  have hx := B.exec
  have hb := B.bytes
  have hr := B.returns
  have hts := atoms_spec (ws := wsX0_skipBehind) B.pre
  have hown : s.vm.findClass RX0 = some m.cls := findClass_of_methodNamed B.named
  have hlocks := B.notSynchronized
  subst hsz
  have hS : va_S (fun _ => False) s.heap s.heap [] := va_S.rf
  have hl := lv_entry ([.ref u, .int (nI i), .int (nI j)]) (n := 6) (Nat.le_of_ble_eq_true rfl)
  have hen := lg_entry_eq m [.ref u, .int (nI i), .int (nI j)] 6
  rw [← hargs] at hen
  rw [hen]
  generalize (lg_sl ([.ref u, .int (nI i), .int (nI j)]) ++ List.replicate (6 - (lg_sl ([.ref u, .int (nI i), .int (nI j)])).length) Slot.unset).toArray = ls at hl ⊢
  have hl : lv_has ls 6 [(0, .ref u), (1, .int (nI i)), (2, .int (nI j))] := hl
  refine lv_aload_n hx hb dX0_skipBehind_0 rfl (lv_at hl 0 rfl) ?_
  refine lv_iload_n hx hb dX0_skipBehind_1 rfl (lv_at hl 1 rfl) ?_
  refine lv_iconst (v := 1) hx hb dX0_skipBehind_2 (by decide) ?_
  refine lv_isub hx hb dX0_skipBehind_3 ?_
  refine m_top (show ((nI i) - 1) = nI (i - 1) from pk_sub (a := i) (b := 1) (by omega)) ?_
  refine lv_iload_n hx hb dX0_skipBehind_4 rfl (lv_at hl 2 rfl) ?_
  refine r_calli (va_runV (As := [.int (nI (i - 1)), .int (nI j)]) (rest := []) ⟨hx, hb, hml, hown, hts⟩ (k_X0_between l D ac _ u t T h1 h2 (i - 1) j (by omega) (by omega)) (cwV 2 hts gX0_skipBehind_X0_between rfl rfl rfl (by decide +kernel) ⟨Nat.le_of_ble_eq_true rfl, Nat.le_of_ble_eq_true rfl⟩) (pV hK (ci := 0) rfl h1) rfl rfl hl.1 rfl (lv_room (Nat.le_of_ble_eq_true rfl)) dX0_skipBehind_5 ⟨Nat.le_of_ble_eq_true rfl, Nat.le_of_ble_eq_true rfl⟩) hS (fun rv_1 locs hrv_1 hS => ?_)
  subst hrv_1
  refine m_top (show (T ((i - 1) * 9 + j)) = nI x1 from hd.1) ?_
  refine lv_istore_n (lv' := [(3, .int (nI x1)), (0, .ref u), (1, .int (nI i)), (2, .int (nI j))]) hx hb dX0_skipBehind_8 rfl hl (by decide) rfl (fun ls hl => ?_)
  refine lv_aload_n hx hb dX0_skipBehind_9 rfl (lv_at hl 1 rfl) ?_
  refine lv_iload_n hx hb dX0_skipBehind_10 rfl (lv_at hl 2 rfl) ?_
  refine lv_iload_n hx hb dX0_skipBehind_11 rfl (lv_at hl 3 rfl) ?_
  refine lv_iconst (v := 1) hx hb dX0_skipBehind_12 (by decide) ?_
  refine lv_isub hx hb dX0_skipBehind_13 ?_
  refine m_top (show ((nI j) - 1) = nI (j - 1) from pk_sub (a := j) (b := 1) (by omega)) ?_
  refine r_calli (va_runV (As := [.int (nI i), .int (nI (j - 1))]) (rest := []) ⟨hx, hb, hml, hown, hts⟩ (k_X0_between l D ac _ u t T h1 h2 i (j - 1) (by omega) (by omega)) (cwV 2 hts gX0_skipBehind_X0_between rfl rfl rfl (by decide +kernel) ⟨Nat.le_of_ble_eq_true rfl, Nat.le_of_ble_eq_true rfl⟩) (pV hK (ci := 0) rfl h1) rfl rfl hl.1 rfl (lv_room (Nat.le_of_ble_eq_true rfl)) dX0_skipBehind_14 ⟨Nat.le_of_ble_eq_true rfl, Nat.le_of_ble_eq_true rfl⟩) hS (fun rv_2 locs hrv_2 hS => ?_)
  subst hrv_2
  refine m_top (show (T (i * 9 + (j - 1))) = nI x2 from hd.2.1) ?_
  refine lv_istore (lv' := [(4, .int (nI x2)), (3, .int (nI x1)), (0, .ref u), (1, .int (nI i)), (2, .int (nI j))]) hx hb dX0_skipBehind_17 hl (by decide) rfl (fun ls hl => ?_)
  refine lv_aload_n hx hb dX0_skipBehind_19 rfl (lv_at hl 2 rfl) ?_
  refine lv_iload_n hx hb dX0_skipBehind_20 rfl (lv_at hl 3 rfl) ?_
  refine lv_iconst (v := 1) hx hb dX0_skipBehind_21 (by decide) ?_
  refine lv_isub hx hb dX0_skipBehind_22 ?_
  refine m_top (show ((nI i) - 1) = nI (i - 1) from pk_sub (a := i) (b := 1) (by omega)) ?_
  refine lv_iload_n hx hb dX0_skipBehind_23 rfl (lv_at hl 4 rfl) ?_
  refine lv_iconst (v := 1) hx hb dX0_skipBehind_24 (by decide) ?_
  refine lv_isub hx hb dX0_skipBehind_25 ?_
  refine m_top (show ((nI j) - 1) = nI (j - 1) from pk_sub (a := j) (b := 1) (by omega)) ?_
  refine r_calli (va_runV (As := [.int (nI (i - 1)), .int (nI (j - 1))]) (rest := []) ⟨hx, hb, hml, hown, hts⟩ (k_X0_between l D ac _ u t T h1 h2 (i - 1) (j - 1) (by omega) (by omega)) (cwV 2 hts gX0_skipBehind_X0_between rfl rfl rfl (by decide +kernel) ⟨Nat.le_of_ble_eq_true rfl, Nat.le_of_ble_eq_true rfl⟩) (pV hK (ci := 0) rfl h1) rfl rfl hl.1 rfl (lv_room (Nat.le_of_ble_eq_true rfl)) dX0_skipBehind_26 ⟨Nat.le_of_ble_eq_true rfl, Nat.le_of_ble_eq_true rfl⟩) hS (fun rv_3 locs hrv_3 hS => ?_)
  subst hrv_3
  refine m_top (show (T ((i - 1) * 9 + (j - 1))) = nI x3 from hd.2.2) ?_
  refine lv_istore (lv' := [(5, .int (nI x3)), (4, .int (nI x2)), (3, .int (nI x1)), (0, .ref u), (1, .int (nI i)), (2, .int (nI j))]) hx hb dX0_skipBehind_29 hl (by decide) rfl (fun ls hl => ?_)
  refine lv_iload_n hx hb dX0_skipBehind_31 rfl (lv_at hl 2 rfl) ?_
  refine lv_iload hx hb dX0_skipBehind_32 (lv_at hl 1 rfl) ?_
  refine lv_icmp_gt (tgt := 45) hx hb dX0_skipBehind_34 (by decide) (fun c34 => ?_) (fun c34 => ?_)
  · have q34 := lt_lt c34 (by omega) (by omega)
    refine lv_iload hx hb dX0_skipBehind_45 (lv_at hl 1 rfl) ?_
    refine lv_iload hx hb dX0_skipBehind_47 (lv_at hl 0 rfl) ?_
    refine lv_icmp_gt (tgt := 56) hx hb dX0_skipBehind_49 (by decide) (fun c49 => ?_) (fun c49 => ?_)
    · have q49 := lt_lt c49 (by omega) (by omega)
      refine lv_iconst (v := 2) hx hb dX0_skipBehind_56 (by decide) ?_
      exact e_i hx hb hlocks hr dX0_skipBehind_57 hS (by first | exact (skp1 (by omega) (nlt_le c49 (by omega) (by omega))).symm | exact (skp2 (by omega) (by omega)).symm)
    · refine lv_iconst (v := 1) hx hb dX0_skipBehind_52 (by decide) ?_
      refine lv_goto (tgt := 57) hx hb dX0_skipBehind_53 (by decide) ?_
      exact e_i hx hb hlocks hr dX0_skipBehind_57 hS (by first | exact (skp1 (by omega) (nlt_le c49 (by omega) (by omega))).symm | exact (skp2 (by omega) (by omega)).symm)
  · refine lv_iload_n hx hb dX0_skipBehind_37 rfl (lv_at hl 2 rfl) ?_
    refine lv_iload hx hb dX0_skipBehind_38 (lv_at hl 0 rfl) ?_
    refine lv_icmp_gt (tgt := 45) hx hb dX0_skipBehind_40 (by decide) (fun c40 => ?_) (fun c40 => ?_)
    · have q40 := lt_lt c40 (by omega) (by omega)
      refine lv_iload hx hb dX0_skipBehind_45 (lv_at hl 1 rfl) ?_
      refine lv_iload hx hb dX0_skipBehind_47 (lv_at hl 0 rfl) ?_
      refine lv_icmp_gt (tgt := 56) hx hb dX0_skipBehind_49 (by decide) (fun c49 => ?_) (fun c49 => ?_)
      · have q49 := lt_lt c49 (by omega) (by omega)
        refine lv_iconst (v := 2) hx hb dX0_skipBehind_56 (by decide) ?_
        exact e_i hx hb hlocks hr dX0_skipBehind_57 hS (by first | exact (skp1 (by omega) (nlt_le c49 (by omega) (by omega))).symm | exact (skp2 (by omega) (by omega)).symm)
      · refine lv_iconst (v := 1) hx hb dX0_skipBehind_52 (by decide) ?_
        refine lv_goto (tgt := 57) hx hb dX0_skipBehind_53 (by decide) ?_
        exact e_i hx hb hlocks hr dX0_skipBehind_57 hS (by first | exact (skp1 (by omega) (nlt_le c49 (by omega) (by omega))).symm | exact (skp2 (by omega) (by omega)).symm)
    · refine lv_iconst (v := 0) hx hb dX0_skipBehind_43 (by decide) ?_
      exact e_i hx hb hlocks hr dX0_skipBehind_44 hS ((skp0 (nlt_le c34 (by omega) (by omega)) (nlt_le c40 (by omega) (by omega))).symm)
set_option maxHeartbeats 4000000 in
set_option maxRecDepth 100000 in
/-- Edits.put -/
theorem k_X0_put (l : Launch) (D : va_G) (ac : Nat → ClassId) (H : Heap) (A : Nat → Prop) (N : Nat) (adr : Nat → Nat) (w : Nat → va_E) (hM : MW D A N adr w H) (u t : Nat) (T : Nat → Int32) (hu : u < N) (ht : t < N) (hut : u ≠ t) (h1 : w u = .inr (0, [.ref (adr t)])) (h2 : w t = .inl (ac 0, 81, .inl T)) (i j : Nat) (hi : i ≤ 8) (hj : j ≤ 8) (y : Int32) : WRv l yX0_put wsX0_put ({ frames := 0, cells := 0, slots := 0, locals := 0 }) [.ref (adr u), .int (nI i), .int (nI j), .int y] D ac H A N adr (fun w1 => w1 = va_up w t (.inl (ac 0, 81, .inl (upd T (i * 9 + j) y)))) := by
  refine Met.ofW (cc := cX0_put) (maxL := 5) (ret := none) (by decide) rfl ?_
  intro p e s m args below meth c s₁ B hml hv
  obtain ⟨hargs, hsz, hK⟩ := hv
  have hx := B.exec
  have hb := B.bytes
  have hr := B.returns
  have hts := atoms_spec (ws := wsX0_put) B.pre
  have hown : s.vm.findClass RX0 = some m.cls := findClass_of_methodNamed B.named
  have hlocks := B.notSynchronized
  subst hsz
  have inX0_ : ∀ w ∈ wsX00, w ∈ wsX0_put := by decide +kernel
  have hS : va_S A s.heap s.heap [] := va_S.rf
  have hl := lv_entry ([.ref (adr u), .int (nI i), .int (nI j), .int y]) (n := 5) (Nat.le_of_ble_eq_true rfl)
  have hen := lg_entry_eq m [.ref (adr u), .int (nI i), .int (nI j), .int y] 5
  rw [← hargs] at hen
  rw [hen]
  generalize (lg_sl ([.ref (adr u), .int (nI i), .int (nI j), .int y]) ++ List.replicate (5 - (lg_sl ([.ref (adr u), .int (nI i), .int (nI j), .int y])).length) Slot.unset).toArray = ls at hl ⊢
  have hl : lv_has ls 5 [(0, .ref (adr u)), (1, .int (nI i)), (2, .int (nI j)), (3, .int y)] := hl
  refine lv_iload_n hx hb dX0_put_0 rfl (lv_at hl 1 rfl) ?_
  refine lv_bipush (v := 9) hx hb dX0_put_1 (by decide) ?_
  refine lv_imul hx hb dX0_put_3 ?_
  refine lv_iload_n hx hb dX0_put_4 rfl (lv_at hl 2 rfl) ?_
  refine lv_iadd hx hb dX0_put_5 ?_
  refine m_top (show (((nI i) * 9) + (nI j)) = nI (i * 9 + j) from by rw [show (9 : Int32) = nI 9 from rfl, pk_mul, nI_add]) ?_
  refine lv_istore (lv' := [(4, .int (nI (i * 9 + j))), (0, .ref (adr u)), (1, .int (nI i)), (2, .int (nI j)), (3, .int y)]) hx hb dX0_put_6 hl (by decide) rfl (fun ls hl => ?_)
  refine lv_iload hx hb dX0_put_8 (lv_at hl 0 rfl) ?_
  refine lv_if_lt (tgt := 31) hx hb dX0_put_10 (by decide) (fun c10 => ?_) (fun c10 => ?_)
  · exact absurd c10 (nI_pos (by omega))
  · refine lv_iload hx hb dX0_put_13 (lv_at hl 0 rfl) ?_
    refine lv_aload_n hx hb dX0_put_15 rfl (lv_at hl 1 rfl) ?_
    refine m_get (ci := 0) (C := RX0) (T := TX0) (n := 1) (v := .ref (adr t)) hx hb hts inX0_ hown hK rfl (hM.cel hu h1) 0 (by decide) (hts _ (by decide +kernel)) rfl dX0_put_16 ?_
    refine m_alen (v := 81) (ty := _) hx hb hK 0 (hM.cel ht h2) rfl (by first | rfl | decide) dX0_put_19 ?_
    refine lv_icmp_ge (tgt := 31) hx hb dX0_put_20 (by decide) (fun c20 => ?_) (fun c20 => ?_)
    · exact absurd (le_le (a := 81) c20 (by omega) (by omega)) (by omega)
    · refine lv_aload_n hx hb dX0_put_23 rfl (lv_at hl 1 rfl) ?_
      refine m_get (ci := 0) (C := RX0) (T := TX0) (n := 1) (v := .ref (adr t)) hx hb hts inX0_ hown hK rfl (hM.cel hu h1) 0 (by decide) (hts _ (by decide +kernel)) rfl dX0_put_24 ?_
      refine lv_iload hx hb dX0_put_27 (lv_at hl 0 rfl) ?_
      refine lv_iload_n hx hb dX0_put_29 rfl (lv_at hl 4 rfl) ?_
      refine m_iast hx hb hK hM hS t ht h2 (vp_in_nI (by omega) (by decide)) dX0_put_30 (fun H locs hM hS => ?_)
      have ef_ : (upd T (nI (i * 9 + j)).toNatClampNeg y) = upd T (i * 9 + j) y := by rw [nI_clamp (by omega)]
      rw [ef_] at hM
      clear ef_
      obtain ⟨w_2, ew_2⟩ : ∃ z, z = va_up w t (.inl (ac 0, 81, .inl (upd T (i * 9 + j) y))) := ⟨_, rfl⟩
      rw [← ew_2] at hM
      have h_3 : w_2 u = .inr (0, [.ref (adr t)]) := by rw [ew_2, va_up_ne _ _ (by omega)]; exact h1
      have h_4 : w_2 t = .inl (ac 0, 81, .inl (upd T (i * 9 + j) y)) := by rw [ew_2]; exact va_up_self _ _ _
      exact e_wv hx hb hlocks hr dX0_put_31 hM hS (by subst_vars; rfl)
/-- the table holds the edits of the beginnings of f and g, up to the place (i, j) in the order of rows -/
def edT (f g : Nat → Int32) (k i j : Nat) (T : Nat → Int32) : Prop := ∀ a b, (a < i ∧ b ≤ k) ∨ (a = i ∧ b < j) → T (a * 9 + b) = nI (ed f g a b)
theorem edT_0 {f g T : Nat → Int32} {k : Nat} : edT f g k 0 0 T := fun a b h => by omega
theorem edT_row {f g T : Nat → Int32} {k i j : Nat} (h : edT f g k i j T) (hj : k < j) : edT f g k (i + 1) 0 T := fun a b q => h a b (by omega)
theorem edT_put {f g T T1 : Nat → Int32} {k i j : Nat} (h : edT f g k i j T) (hi : i ≤ 8) (hj : j ≤ k) (hk : k ≤ 8) (hT : T1 = upd T (i * 9 + j) (nI (ed f g i j))) : edT f g k i (j + 1) T1 := by
  intro a b q
  subst hT
  by_cases e : a = i ∧ b = j
  · obtain ⟨rfl, rfl⟩ := e
    exact pk_us
  · rw [pk_un (by omega)]
    exact h a b (by omega)
theorem ed_step {f g : Nat → Int32} {i j : Nat} {b : Int32} (hb : b = if (if i = 0 then -1 else f (i - 1)) = (if j = 0 then -1 else g (j - 1)) then 1 else 0) : (if i = 0 ∨ j = 0 then i + j else min (ed f g (i - 1) (j - 1) + (if b = 0 then 1 else 0)) (min (ed f g (i - 1) j + 1) (ed f g i (j - 1) + 1))) = ed f g i j := by
  cases i with
  | zero => rw [if_pos (Or.inl rfl), ed_0]; omega
  | succ i =>
    cases j with
    | zero => rw [if_pos (Or.inr rfl), ed_s0]
    | succ j =>
      rw [if_neg (show ¬ (i + 1 = 0 ∨ j + 1 = 0) from by omega), ed_ss]
      simp only [Nat.add_sub_cancel] at hb ⊢
      rw [if_neg (show ¬ (i + 1 = 0) from by omega), if_neg (show ¬ (j + 1 = 0) from by omega)] at hb
      by_cases e : f i = g j
      · rw [if_pos e] at hb ⊢
        rw [if_neg (by rw [hb]; decide)]
      · rw [if_neg e] at hb ⊢
        rw [if_pos hb]
theorem atm1 {f : Nat → Int32} {i n : Nat} (h : i ≤ n) (hn : n ≤ 8) : (ix (nI i - 1) n).elim (-1) f = if i = 0 then -1 else f (i - 1) := by
  cases i with
  | zero => rw [if_pos rfl, ix_neg (by decide)]; rfl
  | succ i =>
    rw [if_neg (by omega), ← nI_1, Int32.add_sub_cancel, ix_nI (by omega) (by omega)]
    rfl
set_option maxHeartbeats 4000000 in
set_option maxRecDepth 100000 in
/-- Edits.compare -/
theorem k_X0_compare (l : Launch) (D : va_G) (ac : Nat → ClassId) (H : Heap) (A : Nat → Prop) (N : Nat) (adr : Nat → Nat) (w : Nat → va_E) (hM : MW D A N adr w H) (u t : Nat) (T : Nat → Int32) (hu : u < N) (ht : t < N) (hut : u ≠ t) (h1 : w u = .inr (0, [.ref (adr t)])) (h2 : w t = .inl (ac 0, 81, .inl T)) (ra va rb vb n k : Nat) (f g : Nat → Int32) (hra : ra < N) (hva : va < N) (hrb : rb < N) (hvb : vb < N) (hdd : ra ≠ t ∧ va ≠ t ∧ rb ≠ t ∧ vb ≠ t) (hn : n ≤ 8) (hk8 : k ≤ 8) (g1 : w ra = .inr (4, [.ref (adr va), .int (nI n)])) (g2 : w va = .inl (ac 0, 8, .inl f)) (g3 : w rb = .inr (4, [.ref (adr vb), .int (nI k)])) (g4 : w vb = .inl (ac 0, 8, .inl g)) : WRv l yX0_compare wsX0_compare ({ frames := 2, cells := 0, slots := 0, locals := 49 }) [.ref (adr u), .ref (adr ra), .ref (adr rb)] D ac H A N adr (fun w1 => ∃ T1 : Nat → Int32, w1 = va_up w t (.inl (ac 0, 81, .inl T1)) ∧ ∀ a b, a ≤ n → b ≤ k → T1 (a * 9 + b) = nI (ed f g a b)) := by
  refine Met.ofW (cc := cX0_compare) (maxL := 6) (ret := none) (by decide) rfl ?_
  intro p e s m args below meth c s₁ B hml hv
  obtain ⟨hargs, hsz, hK⟩ := hv
  have hx := B.exec
  have hb := B.bytes
  have hr := B.returns
  have hts := atoms_spec (ws := wsX0_compare) B.pre
  have hown : s.vm.findClass RX0 = some m.cls := findClass_of_methodNamed B.named
  have hlocks := B.notSynchronized
  subst hsz
  have inX4_ : ∀ w ∈ wsX40, w ∈ wsX0_compare := by decide +kernel
  have hS : va_S A s.heap s.heap [] := va_S.rf
  have hl := lv_entry ([.ref (adr u), .ref (adr ra), .ref (adr rb)]) (n := 6) (Nat.le_of_ble_eq_true rfl)
  have hen := lg_entry_eq m [.ref (adr u), .ref (adr ra), .ref (adr rb)] 6
  rw [← hargs] at hen
  rw [hen]
  generalize (lg_sl ([.ref (adr u), .ref (adr ra), .ref (adr rb)]) ++ List.replicate (6 - (lg_sl ([.ref (adr u), .ref (adr ra), .ref (adr rb)])).length) Slot.unset).toArray = ls at hl ⊢
  have hl : lv_has ls 6 [(0, .ref (adr u)), (1, .ref (adr ra)), (2, .ref (adr rb))] := hl
  obtain ⟨Q0, hQ0⟩ : ∃ z, z = MQ below (va_Qv (fun w1 => ∃ T1 : Nat → Int32, w1 = va_up w t (.inl (ac 0, 81, .inl T1)) ∧ ∀ a b, a ≤ n → b ≤ k → T1 (a * 9 + b) = nI (ed f g a b)) (fun c t => MW D A N adr c t.heap) A) args s 0 0 A := ⟨_, rfl⟩
  rw [← hQ0]
  refine lv_iconst (v := 0) hx hb dX0_compare_0 (by decide) ?_
  refine lv_istore_n (lv' := [(3, .int 0), (0, .ref (adr u)), (1, .ref (adr ra)), (2, .ref (adr rb))]) hx hb dX0_compare_1 rfl hl (by decide) rfl (fun ls hl => ?_)
  have L2 : ∀ (k9 : Nat) (i : Nat) (Tz : Nat → Int32) (hk : n + 1 - i < k9) (hi : i ≤ n + 1) (hT : edT f g k i 0 Tz) (wz : Nat → va_E) (fz1 : wz u = .inr (0, [.ref (adr t)])) (fz2 : wz t = .inl (ac 0, 81, .inl Tz)) (fz3 : wz ra = .inr (4, [.ref (adr va), .int (nI n)])) (fz4 : wz va = .inl (ac 0, 8, .inl f)) (fz5 : wz rb = .inr (4, [.ref (adr vb), .int (nI k)])) (fz6 : wz vb = .inl (ac 0, 8, .inl g)) (fz7 : ∀ q, q ≠ t → wz q = w q) (H : Heap) (locs : List Loc) (hM : MW D A N adr wz H) (hS : va_S A s.heap H locs) (ls : Array Slot) (hl : lv_has ls 6 [(0, .ref (adr u)), (1, .ref (adr ra)), (2, .ref (adr rb)), (3, .int (nI i))]), W p l e (headSpec wsX0_compare ({ frames := 2, cells := 0, slots := 0, locals := 49 })).room s m args below meth c H locs 0 0 Q0 (F0 m 2 ls []) := by
    intro k9
    induction k9 with
    | zero => intro i Tz hk hi hT wz fz1 fz2 fz3 fz4 fz5 fz6 fz7 H locs hM hS ls hl; exact absurd hk (Nat.not_lt_zero _)
    | succ k9 ih2 =>
      intro i Tz hk hi hT wz fz1 fz2 fz3 fz4 fz5 fz6 fz7 H locs hM hS ls hl
      refine lv_iload_n hx hb dX0_compare_2 rfl (lv_at hl 3 rfl) ?_
      refine lv_aload_n hx hb dX0_compare_3 rfl (lv_at hl 1 rfl) ?_
      refine m_getN (host := RX7) (ci := 4) (C := RX4) (T := TX4) (n := 2) (v := .int (nI n)) hx hb hts inX4_ hown hK rfl (hM.cel hra fz3) 1 (by decide) 2 rfl rfl dX0_compare_4 ?_
      refine lv_icmp_gt (tgt := 75) hx hb dX0_compare_7 (by decide) (fun c7 => ?_) (fun c7 => ?_)
      · have hin : i = n + 1 := by have := lt_lt c7 (by omega) (by omega); omega
        rw [hQ0]
        exact e_wv hx hb hlocks hr dX0_compare_75 hM hS (⟨Tz, va_upeq fz2 fz7, fun a b q1 q2 => hT a b (by omega)⟩)
      · have hin : i ≤ n := nlt_le c7 (by omega) (by omega)
        refine lv_iconst (v := 0) hx hb dX0_compare_10 (by decide) ?_
        refine lv_istore (lv' := [(4, .int 0), (0, .ref (adr u)), (1, .ref (adr ra)), (2, .ref (adr rb)), (3, .int (nI i))]) hx hb dX0_compare_11 hl (by decide) rfl (fun ls hl => ?_)
        have L13 : ∀ (k9 : Nat) (j : Nat) (Ty : Nat → Int32) (hkj : k + 1 - j < k9) (hj : j ≤ k + 1) (hU : edT f g k i j Ty) (wy : Nat → va_E) (fy1 : wy u = .inr (0, [.ref (adr t)])) (fy2 : wy t = .inl (ac 0, 81, .inl Ty)) (fy3 : wy ra = .inr (4, [.ref (adr va), .int (nI n)])) (fy4 : wy va = .inl (ac 0, 8, .inl f)) (fy5 : wy rb = .inr (4, [.ref (adr vb), .int (nI k)])) (fy6 : wy vb = .inl (ac 0, 8, .inl g)) (fy7 : ∀ q, q ≠ t → wy q = w q) (H : Heap) (locs : List Loc) (hM : MW D A N adr wy H) (hS : va_S A s.heap H locs) (ls : Array Slot) (hl : lv_has ls 6 [(0, .ref (adr u)), (1, .ref (adr ra)), (2, .ref (adr rb)), (3, .int (nI i)), (4, .int (nI j))]), W p l e (headSpec wsX0_compare ({ frames := 2, cells := 0, slots := 0, locals := 49 })).room s m args below meth c H locs 0 0 Q0 (F0 m 13 ls []) := by
          intro k9
          induction k9 with
          | zero => intro j Ty hkj hj hU wy fy1 fy2 fy3 fy4 fy5 fy6 fy7 H locs hM hS ls hl; exact absurd hkj (Nat.not_lt_zero _)
          | succ k9 ih13 =>
            intro j Ty hkj hj hU wy fy1 fy2 fy3 fy4 fy5 fy6 fy7 H locs hM hS ls hl
            refine lv_iload hx hb dX0_compare_13 (lv_at hl 4 rfl) ?_
            refine lv_aload_n hx hb dX0_compare_15 rfl (lv_at hl 2 rfl) ?_
            refine m_getN (host := RX7) (ci := 4) (C := RX4) (T := TX4) (n := 2) (v := .int (nI k)) hx hb hts inX4_ hown hK rfl (hM.cel hrb fy5) 1 (by decide) 2 rfl rfl dX0_compare_16 ?_
            refine lv_icmp_gt (tgt := 69) hx hb dX0_compare_19 (by decide) (fun c19 => ?_) (fun c19 => ?_)
            · have hj1 : k < j := lt_lt c19 (by omega) (by omega)
              refine lv_iinc (v := nI (i + 1)) (lv' := [(3, .int (nI (i + 1))), (0, .ref (adr u)), (1, .ref (adr ra)), (2, .ref (adr rb)), (4, .int (nI j))]) hx hb dX0_compare_69 hl (k := 3) rfl (nI_1 _) (by decide) rfl (fun ls hl => ?_)
              refine lv_goto (tgt := 2) hx hb dX0_compare_72 (by decide) ?_
              exact ih2 (i + 1) Ty (by omega) (by omega) (edT_row hU hj1) wy fy1 fy2 fy3 fy4 fy5 fy6 fy7 _ _ hM hS ls (lv_sub hl [1, 2, 3, 0] rfl)
            · have hjk : j ≤ k := nlt_le c19 (by omega) (by omega)
              refine lv_aload_n hx hb dX0_compare_22 rfl (lv_at hl 1 rfl) ?_
              refine lv_iload_n hx hb dX0_compare_23 rfl (lv_at hl 3 rfl) ?_
              refine lv_iconst (v := 1) hx hb dX0_compare_24 (by decide) ?_
              refine lv_isub hx hb dX0_compare_25 ?_
              refine r_calli (va_runV (As := [.int ((nI i) - 1)]) (rest := []) ⟨hx, hb, hml, hown, hts⟩ (k_X4_at l D ac _ (adr ra) (adr va) n f (hM.cel hra fy3) (hM.cel hva fy4) (by omega) ((nI i) - 1)) (cwV 1 hts gX0_compare_X4_at rfl rfl rfl (by decide +kernel) ⟨Nat.le_of_ble_eq_true rfl, Nat.le_of_ble_eq_true rfl⟩) (pV hK (ci := 4) rfl (hM.cel hra fy3)) rfl rfl hl.1 rfl (lv_room (Nat.le_of_ble_eq_true rfl)) dX0_compare_26 ⟨Nat.le_of_ble_eq_true rfl, Nat.le_of_ble_eq_true rfl⟩) hS (fun rv_1 locs hrv_1 hS => ?_)
              subst hrv_1
              refine m_top (show ((ix ((nI i) - 1) n).elim (-1) f) = if i = 0 then -1 else f (i - 1) from atm1 hin hn) ?_
              refine lv_aload_n hx hb dX0_compare_29 rfl (lv_at hl 2 rfl) ?_
              refine lv_iload hx hb dX0_compare_30 (lv_at hl 4 rfl) ?_
              refine lv_iconst (v := 1) hx hb dX0_compare_32 (by decide) ?_
              refine lv_isub hx hb dX0_compare_33 ?_
              refine r_calli (va_runV (As := [.int ((nI j) - 1)]) (rest := [.int (if i = 0 then -1 else f (i - 1))]) ⟨hx, hb, hml, hown, hts⟩ (k_X4_at l D ac _ (adr rb) (adr vb) k g (hM.cel hrb fy5) (hM.cel hvb fy6) (by omega) ((nI j) - 1)) (cwV 1 hts gX0_compare_X4_at rfl rfl rfl (by decide +kernel) ⟨Nat.le_of_ble_eq_true rfl, Nat.le_of_ble_eq_true rfl⟩) (pV hK (ci := 4) rfl (hM.cel hrb fy5)) rfl rfl hl.1 rfl (lv_room (Nat.le_of_ble_eq_true rfl)) dX0_compare_34 ⟨Nat.le_of_ble_eq_true rfl, Nat.le_of_ble_eq_true rfl⟩) hS (fun rv_2 locs hrv_2 hS => ?_)
              subst hrv_2
              refine m_top (show ((ix ((nI j) - 1) k).elim (-1) g) = if j = 0 then -1 else g (j - 1) from atm1 hjk hk8) ?_
              refine lv_icmp_ne (tgt := 44) hx hb dX0_compare_37 (by decide) (fun c37 => ?_) (fun c37 => ?_)
              · refine lv_iconst (v := 0) hx hb dX0_compare_44 (by decide) ?_
                refine lv_istore (lv' := [(5, .int 0), (0, .ref (adr u)), (1, .ref (adr ra)), (2, .ref (adr rb)), (3, .int (nI i)), (4, .int (nI j))]) hx hb dX0_compare_45 hl (by decide) rfl (fun ls hl => ?_)
                refine lv_aload_n hx hb dX0_compare_47 rfl (lv_at hl 1 rfl) ?_
                refine lv_iload_n hx hb dX0_compare_48 rfl (lv_at hl 4 rfl) ?_
                refine lv_iload hx hb dX0_compare_49 (lv_at hl 5 rfl) ?_
                refine lv_aload_n hx hb dX0_compare_51 rfl (lv_at hl 1 rfl) ?_
                refine lv_iload_n hx hb dX0_compare_52 rfl (lv_at hl 4 rfl) ?_
                refine lv_iload hx hb dX0_compare_53 (lv_at hl 5 rfl) ?_
                refine lv_iload hx hb dX0_compare_55 (lv_at hl 0 rfl) ?_
                refine r_calli (va_runV (As := [.int (nI i), .int (nI j), .int 0]) (rest := [.int (nI j), .int (nI i), .ref (adr u)]) ⟨hx, hb, hml, hown, hts⟩ (k_X0_least l D ac _ (adr u) (adr t) Ty (hM.cel hu fy1) (hM.cel ht fy2) i j (ed f g (i - 1) (j - 1)) (ed f g (i - 1) j) (ed f g i (j - 1)) 0 (by omega) (by omega) (by have := ed_le (f := f) (g := g) (i - 1) (j - 1); omega) (by have := ed_le (f := f) (g := g) (i - 1) j; omega) (by have := ed_le (f := f) (g := g) i (j - 1); omega) (fun q1 q2 => ⟨hU _ _ (by omega), hU _ _ (by omega), hU _ _ (by omega)⟩)) (cwV 3 hts gX0_compare_X0_least rfl rfl rfl (by decide +kernel) ⟨Nat.le_of_ble_eq_true rfl, Nat.le_of_ble_eq_true rfl⟩) (pV hK (ci := 0) rfl (hM.cel hu fy1)) rfl rfl hl.1 rfl (lv_room (Nat.le_of_ble_eq_true rfl)) dX0_compare_57 ⟨Nat.le_of_ble_eq_true rfl, Nat.le_of_ble_eq_true rfl⟩) hS (fun rv_3 locs hrv_3 hS => ?_)
                subst hrv_3
                refine m_top (show (nI (if i = 0 ∨ j = 0 then i + j else min (ed f g (i - 1) (j - 1) + (if 0 = 0 then 1 else 0)) (min (ed f g (i - 1) j + 1) (ed f g i (j - 1) + 1)))) = nI (ed f g i j) from congrArg nI (ed_step (by first | rw [if_pos c37] | rw [if_neg c37]))) ?_
                refine w_callv (va_runV (As := [.int (nI i), .int (nI j), .int (nI (ed f g i j))]) (rest := []) ⟨hx, hb, hml, hown, hts⟩ (k_X0_put l D ac _ A N adr wy hM u t Ty hu ht (by omega) fy1 fy2 i j (by omega) (by omega) (nI (ed f g i j))) (cwV 3 hts gX0_compare_X0_put rfl rfl rfl (by decide +kernel) ⟨Nat.le_of_ble_eq_true rfl, Nat.le_of_ble_eq_true rfl⟩) (pV hK (ci := 0) rfl (hM.cel hu fy1)) rfl rfl hl.1 rfl (lv_room (Nat.le_of_ble_eq_true rfl)) dX0_compare_60 ⟨Nat.le_of_ble_eq_true rfl, Nat.le_of_ble_eq_true rfl⟩) hS (fun w_5 H locs hw_5 hM hS => ?_)
                obtain ⟨T_, eT_⟩ : ∃ z, z = upd Ty (i * 9 + j) (nI (ed f g i j)) := ⟨_, rfl⟩
                rw [← eT_] at hw_5
                have h_6 : w_5 u = .inr (0, [.ref (adr t)]) := by rw [hw_5, va_up_ne _ _ (by omega)]; exact fy1
                have h_7 : w_5 t = .inl (ac 0, 81, .inl T_) := by rw [hw_5]; exact va_up_self _ _ _
                have h_8 : w_5 ra = .inr (4, [.ref (adr va), .int (nI n)]) := by rw [hw_5, va_up_ne _ _ (by omega)]; exact fy3
                have h_9 : w_5 va = .inl (ac 0, 8, .inl f) := by rw [hw_5, va_up_ne _ _ (by omega)]; exact fy4
                have h_10 : w_5 rb = .inr (4, [.ref (adr vb), .int (nI k)]) := by rw [hw_5, va_up_ne _ _ (by omega)]; exact fy5
                have h_11 : w_5 vb = .inl (ac 0, 8, .inl g) := by rw [hw_5, va_up_ne _ _ (by omega)]; exact fy6
                refine lv_iinc (v := nI (j + 1)) (lv' := [(4, .int (nI (j + 1))), (5, .int 0), (0, .ref (adr u)), (1, .ref (adr ra)), (2, .ref (adr rb)), (3, .int (nI i))]) hx hb dX0_compare_63 hl (k := 5) rfl (nI_1 _) (by decide) rfl (fun ls hl => ?_)
                refine lv_goto (tgt := 13) hx hb dX0_compare_66 (by decide) ?_
                exact ih13 (j + 1) T_ (by omega) (by omega) (edT_put hU (by omega) hjk (by omega) eT_) w_5 h_6 h_7 h_8 h_9 h_10 h_11 (fun q q1 => by rw [hw_5, va_up_ne _ _ q1]; exact fy7 q q1) _ _ hM hS ls (lv_sub hl [2, 3, 4, 5, 0] rfl)
              · refine lv_iconst (v := 1) hx hb dX0_compare_40 (by decide) ?_
                refine lv_goto (tgt := 45) hx hb dX0_compare_41 (by decide) ?_
                refine lv_istore (lv' := [(5, .int 1), (0, .ref (adr u)), (1, .ref (adr ra)), (2, .ref (adr rb)), (3, .int (nI i)), (4, .int (nI j))]) hx hb dX0_compare_45 hl (by decide) rfl (fun ls hl => ?_)
                refine lv_aload_n hx hb dX0_compare_47 rfl (lv_at hl 1 rfl) ?_
                refine lv_iload_n hx hb dX0_compare_48 rfl (lv_at hl 4 rfl) ?_
                refine lv_iload hx hb dX0_compare_49 (lv_at hl 5 rfl) ?_
                refine lv_aload_n hx hb dX0_compare_51 rfl (lv_at hl 1 rfl) ?_
                refine lv_iload_n hx hb dX0_compare_52 rfl (lv_at hl 4 rfl) ?_
                refine lv_iload hx hb dX0_compare_53 (lv_at hl 5 rfl) ?_
                refine lv_iload hx hb dX0_compare_55 (lv_at hl 0 rfl) ?_
                refine r_calli (va_runV (As := [.int (nI i), .int (nI j), .int 1]) (rest := [.int (nI j), .int (nI i), .ref (adr u)]) ⟨hx, hb, hml, hown, hts⟩ (k_X0_least l D ac _ (adr u) (adr t) Ty (hM.cel hu fy1) (hM.cel ht fy2) i j (ed f g (i - 1) (j - 1)) (ed f g (i - 1) j) (ed f g i (j - 1)) 1 (by omega) (by omega) (by have := ed_le (f := f) (g := g) (i - 1) (j - 1); omega) (by have := ed_le (f := f) (g := g) (i - 1) j; omega) (by have := ed_le (f := f) (g := g) i (j - 1); omega) (fun q1 q2 => ⟨hU _ _ (by omega), hU _ _ (by omega), hU _ _ (by omega)⟩)) (cwV 3 hts gX0_compare_X0_least rfl rfl rfl (by decide +kernel) ⟨Nat.le_of_ble_eq_true rfl, Nat.le_of_ble_eq_true rfl⟩) (pV hK (ci := 0) rfl (hM.cel hu fy1)) rfl rfl hl.1 rfl (lv_room (Nat.le_of_ble_eq_true rfl)) dX0_compare_57 ⟨Nat.le_of_ble_eq_true rfl, Nat.le_of_ble_eq_true rfl⟩) hS (fun rv_12 locs hrv_12 hS => ?_)
                subst hrv_12
                refine m_top (show (nI (if i = 0 ∨ j = 0 then i + j else min (ed f g (i - 1) (j - 1) + (if 1 = 0 then 1 else 0)) (min (ed f g (i - 1) j + 1) (ed f g i (j - 1) + 1)))) = nI (ed f g i j) from congrArg nI (ed_step (by first | rw [if_pos c37] | rw [if_neg c37]))) ?_
                refine w_callv (va_runV (As := [.int (nI i), .int (nI j), .int (nI (ed f g i j))]) (rest := []) ⟨hx, hb, hml, hown, hts⟩ (k_X0_put l D ac _ A N adr wy hM u t Ty hu ht (by omega) fy1 fy2 i j (by omega) (by omega) (nI (ed f g i j))) (cwV 3 hts gX0_compare_X0_put rfl rfl rfl (by decide +kernel) ⟨Nat.le_of_ble_eq_true rfl, Nat.le_of_ble_eq_true rfl⟩) (pV hK (ci := 0) rfl (hM.cel hu fy1)) rfl rfl hl.1 rfl (lv_room (Nat.le_of_ble_eq_true rfl)) dX0_compare_60 ⟨Nat.le_of_ble_eq_true rfl, Nat.le_of_ble_eq_true rfl⟩) hS (fun w_14 H locs hw_14 hM hS => ?_)
                obtain ⟨T_, eT_⟩ : ∃ z, z = upd Ty (i * 9 + j) (nI (ed f g i j)) := ⟨_, rfl⟩
                rw [← eT_] at hw_14
                have h_15 : w_14 u = .inr (0, [.ref (adr t)]) := by rw [hw_14, va_up_ne _ _ (by omega)]; exact fy1
                have h_16 : w_14 t = .inl (ac 0, 81, .inl T_) := by rw [hw_14]; exact va_up_self _ _ _
                have h_17 : w_14 ra = .inr (4, [.ref (adr va), .int (nI n)]) := by rw [hw_14, va_up_ne _ _ (by omega)]; exact fy3
                have h_18 : w_14 va = .inl (ac 0, 8, .inl f) := by rw [hw_14, va_up_ne _ _ (by omega)]; exact fy4
                have h_19 : w_14 rb = .inr (4, [.ref (adr vb), .int (nI k)]) := by rw [hw_14, va_up_ne _ _ (by omega)]; exact fy5
                have h_20 : w_14 vb = .inl (ac 0, 8, .inl g) := by rw [hw_14, va_up_ne _ _ (by omega)]; exact fy6
                refine lv_iinc (v := nI (j + 1)) (lv' := [(4, .int (nI (j + 1))), (5, .int 1), (0, .ref (adr u)), (1, .ref (adr ra)), (2, .ref (adr rb)), (3, .int (nI i))]) hx hb dX0_compare_63 hl (k := 5) rfl (nI_1 _) (by decide) rfl (fun ls hl => ?_)
                refine lv_goto (tgt := 13) hx hb dX0_compare_66 (by decide) ?_
                exact ih13 (j + 1) T_ (by omega) (by omega) (edT_put hU (by omega) hjk (by omega) eT_) w_14 h_15 h_16 h_17 h_18 h_19 h_20 (fun q q1 => by rw [hw_14, va_up_ne _ _ q1]; exact fy7 q q1) _ _ hM hS ls (lv_sub hl [2, 3, 4, 5, 0] rfl)
        exact L13 _ 0 Tz (Nat.lt_succ_self _) (Nat.zero_le _) hT wz fz1 fz2 fz3 fz4 fz5 fz6 fz7 _ _ hM hS ls (lv_sub hl [1, 2, 3, 4, 0] rfl)
  exact L2 _ 0 T (Nat.lt_succ_self _) (Nat.zero_le _) edT_0 w h1 h2 g1 g2 g3 g4 (fun q _ => rfl) _ _ hM hS ls (lv_sub hl [1, 2, 3, 0] rfl)
set_option maxHeartbeats 4000000 in
set_option maxRecDepth 100000 in
/-- Edits.likenessOf -/
theorem k_X0_likenessOf (l : Launch) (D : va_G) (ac : Nat → ClassId) (H : Heap) (A : Nat → Prop) (N : Nat) (adr : Nat → Nat) (w : Nat → va_E) (hM : MW D A N adr w H) (u t : Nat) (T : Nat → Int32) (hu : u < N) (ht : t < N) (hut : u ≠ t) (h1 : w u = .inr (0, [.ref (adr t)])) (h2 : w t = .inl (ac 0, 81, .inl T)) (ra va rb vb n k : Nat) (f g : Nat → Int32) (hra : ra < N) (hva : va < N) (hrb : rb < N) (hvb : vb < N) (hdd : ra ≠ t ∧ va ≠ t ∧ rb ≠ t ∧ vb ≠ t) (hn : n ≤ 8) (hk8 : k ≤ 8) (g1 : w ra = .inr (4, [.ref (adr va), .int (nI n)])) (g2 : w va = .inl (ac 0, 8, .inl f)) (g3 : w rb = .inr (4, [.ref (adr vb), .int (nI k)])) (g4 : w vb = .inl (ac 0, 8, .inl g)) (hL : 0 < max n k) : WRi l yX0_likenessOf wsX0_likenessOf ({ frames := 3, cells := 0, slots := 0, locals := 74 }) [.ref (adr u), .ref (adr ra), .ref (adr rb)] D ac H A N adr (fun r w1 => r = lik (max n k) (ed f g n k) ∧ ∃ T1 : Nat → Int32, w1 = va_up w t (.inl (ac 0, 81, .inl T1)) ∧ ∀ a b, a ≤ n → b ≤ k → T1 (a * 9 + b) = nI (ed f g a b)) := by
  refine Met.ofW (cc := cX0_likenessOf) (maxL := 5) (ret := (some .int)) (by decide) rfl ?_
  intro p e s m args below meth c s₁ B hml hv
  obtain ⟨hargs, hsz, hK⟩ := hv
  have hx := B.exec
  have hb := B.bytes
  have hr := B.returns
  have hts := atoms_spec (ws := wsX0_likenessOf) B.pre
  have hown : s.vm.findClass RX0 = some m.cls := findClass_of_methodNamed B.named
  have hlocks := B.notSynchronized
  subst hsz
  have inX4_ : ∀ w ∈ wsX40, w ∈ wsX0_likenessOf := by decide +kernel
  have hS : va_S A s.heap s.heap [] := va_S.rf
  have hl := lv_entry ([.ref (adr u), .ref (adr ra), .ref (adr rb)]) (n := 5) (Nat.le_of_ble_eq_true rfl)
  have hen := lg_entry_eq m [.ref (adr u), .ref (adr ra), .ref (adr rb)] 5
  rw [← hargs] at hen
  rw [hen]
  generalize (lg_sl ([.ref (adr u), .ref (adr ra), .ref (adr rb)]) ++ List.replicate (5 - (lg_sl ([.ref (adr u), .ref (adr ra), .ref (adr rb)])).length) Slot.unset).toArray = ls at hl ⊢
  have hl : lv_has ls 5 [(0, .ref (adr u)), (1, .ref (adr ra)), (2, .ref (adr rb))] := hl
  refine lv_aload_n hx hb dX0_likenessOf_0 rfl (lv_at hl 0 rfl) ?_
  refine lv_aload_n hx hb dX0_likenessOf_1 rfl (lv_at hl 1 rfl) ?_
  refine lv_aload_n hx hb dX0_likenessOf_2 rfl (lv_at hl 2 rfl) ?_
  refine w_callv (va_runV (As := [.ref (adr ra), .ref (adr rb)]) (rest := []) ⟨hx, hb, hml, hown, hts⟩ (k_X0_compare l D ac _ A N adr w hM u t T hu ht (by omega) h1 h2 ra va rb vb n k f g hra hva hrb hvb (by omega) (by omega) (by omega) g1 g2 g3 g4) (cwV 2 hts gX0_likenessOf_X0_compare rfl rfl rfl (by decide +kernel) ⟨Nat.le_of_ble_eq_true rfl, Nat.le_of_ble_eq_true rfl⟩) (pV hK (ci := 0) rfl (hM.cel hu h1)) rfl rfl hl.1 rfl (lv_room (Nat.le_of_ble_eq_true rfl)) dX0_likenessOf_3 ⟨Nat.le_of_ble_eq_true rfl, Nat.le_of_ble_eq_true rfl⟩) hS (fun w_2 H locs hw_2 hM hS => ?_)
  obtain ⟨T_3, hw_2, eT_3⟩ := hw_2
  have h_4 : w_2 u = .inr (0, [.ref (adr t)]) := by rw [hw_2, va_up_ne _ _ (by omega)]; exact h1
  have h_5 : w_2 t = .inl (ac 0, 81, .inl T_3) := by rw [hw_2]; exact va_up_self _ _ _
  have h_6 : w_2 ra = .inr (4, [.ref (adr va), .int (nI n)]) := by rw [hw_2, va_up_ne _ _ (by omega)]; exact g1
  have h_7 : w_2 va = .inl (ac 0, 8, .inl f) := by rw [hw_2, va_up_ne _ _ (by omega)]; exact g2
  have h_8 : w_2 rb = .inr (4, [.ref (adr vb), .int (nI k)]) := by rw [hw_2, va_up_ne _ _ (by omega)]; exact g3
  have h_9 : w_2 vb = .inl (ac 0, 8, .inl g) := by rw [hw_2, va_up_ne _ _ (by omega)]; exact g4
  refine lv_aload_n hx hb dX0_likenessOf_6 rfl (lv_at hl 1 rfl) ?_
  refine m_getN (host := RX7) (ci := 4) (C := RX4) (T := TX4) (n := 2) (v := .int (nI n)) hx hb hts inX4_ hown hK rfl (hM.cel hra h_6) 1 (by decide) 2 rfl rfl dX0_likenessOf_7 ?_
  refine lv_aload_n hx hb dX0_likenessOf_10 rfl (lv_at hl 2 rfl) ?_
  refine m_getN (host := RX7) (ci := 4) (C := RX4) (T := TX4) (n := 2) (v := .int (nI k)) hx hb hts inX4_ hown hK rfl (hM.cel hrb h_8) 1 (by decide) 2 rfl rfl dX0_likenessOf_11 ?_
  refine va_mmax hx hb (hml.trans hl.1.symm) hown (hts _ (by decide +kernel)) (hts _ (by decide +kernel)) (hts _ (by decide +kernel)) (hts _ (by decide +kernel)) (Nat.le_of_ble_eq_true rfl) (Nat.le_of_ble_eq_true rfl) (Nat.zero_le _) (Nat.zero_le _) dX0_likenessOf_14 ?_
  refine m_top (show (if (nI n) < (nI k) then nI k else nI n) = nI (max n k) from nmax (by omega) (by omega)) ?_
  refine lv_istore_n (lv' := [(3, .int (nI (max n k))), (0, .ref (adr u)), (1, .ref (adr ra)), (2, .ref (adr rb))]) hx hb dX0_likenessOf_17 rfl hl (by decide) rfl (fun ls hl => ?_)
  refine lv_iload_n hx hb dX0_likenessOf_18 rfl (lv_at hl 0 rfl) ?_
  refine lv_if_gt (tgt := 25) hx hb dX0_likenessOf_19 (by decide) (fun c19 => ?_) (fun c19 => ?_)
  · refine lv_bipush (v := 100) hx hb dX0_likenessOf_25 (by decide) ?_
    refine lv_aload_n hx hb dX0_likenessOf_27 rfl (lv_at hl 1 rfl) ?_
    refine lv_aload_n hx hb dX0_likenessOf_28 rfl (lv_at hl 2 rfl) ?_
    refine m_getN (host := RX7) (ci := 4) (C := RX4) (T := TX4) (n := 2) (v := .int (nI n)) hx hb hts inX4_ hown hK rfl (hM.cel hra h_6) 1 (by decide) 2 rfl rfl dX0_likenessOf_29 ?_
    refine lv_aload_n hx hb dX0_likenessOf_32 rfl (lv_at hl 3 rfl) ?_
    refine m_getN (host := RX7) (ci := 4) (C := RX4) (T := TX4) (n := 2) (v := .int (nI k)) hx hb hts inX4_ hown hK rfl (hM.cel hrb h_8) 1 (by decide) 2 rfl rfl dX0_likenessOf_33 ?_
    refine r_calli (va_runV (As := [.int (nI n), .int (nI k)]) (rest := [.int 100]) ⟨hx, hb, hml, hown, hts⟩ (k_X0_between l D ac _ (adr u) (adr t) T_3 (hM.cel hu h_4) (hM.cel ht h_5) n k (by omega) (by omega)) (cwV 2 hts gX0_likenessOf_X0_between rfl rfl rfl (by decide +kernel) ⟨Nat.le_of_ble_eq_true rfl, Nat.le_of_ble_eq_true rfl⟩) (pV hK (ci := 0) rfl (hM.cel hu h_4)) rfl rfl hl.1 rfl (lv_room (Nat.le_of_ble_eq_true rfl)) dX0_likenessOf_36 ⟨Nat.le_of_ble_eq_true rfl, Nat.le_of_ble_eq_true rfl⟩) hS (fun rv_10 locs hrv_10 hS => ?_)
    subst hrv_10
    refine m_top (show (T_3 (n * 9 + k)) = nI (ed f g n k) from eT_3 n k (Nat.le_refl _) (Nat.le_refl _)) ?_
    refine lv_imul hx hb dX0_likenessOf_39 ?_
    refine lv_istore (lv' := [(4, .int (100 * (nI (ed f g n k)))), (3, .int (nI (max n k))), (0, .ref (adr u)), (1, .ref (adr ra)), (2, .ref (adr rb))]) hx hb dX0_likenessOf_40 hl (by decide) rfl (fun ls hl => ?_)
    refine lv_bipush (v := 100) hx hb dX0_likenessOf_42 (by decide) ?_
    refine lv_iload hx hb dX0_likenessOf_44 (lv_at hl 0 rfl) ?_
    refine lv_iload_n hx hb dX0_likenessOf_46 rfl (lv_at hl 1 rfl) ?_
    refine lv_iadd hx hb dX0_likenessOf_47 ?_
    refine lv_iconst (v := 1) hx hb dX0_likenessOf_48 (by decide) ?_
    refine lv_isub hx hb dX0_likenessOf_49 ?_
    refine lv_iload_n hx hb dX0_likenessOf_50 rfl (lv_at hl 1 rfl) ?_
    refine lv_idiv hx hb dX0_likenessOf_51 (nI_ne0 (by omega) (by omega)) ?_
    refine lv_isub hx hb dX0_likenessOf_52 ?_
    exact e_wi hx hb hlocks hr dX0_likenessOf_53 hM hS (⟨rfl, T_3, hw_2, eT_3⟩)
  · exact absurd (show (0 : Int32) < nI (max n k) from by rw [← nI_0]; exact nI_lt (by omega) (by omega)) c19
