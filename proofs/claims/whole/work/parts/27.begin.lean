set_option maxHeartbeats 4000000 in
set_option maxRecDepth 100000 in
/-- Line.removeFirst -/
theorem k_X1_removeFirst (l : Launch) (D : va_G) (ac : Nat → ClassId) (H : Heap) (A : Nat → Prop) (N : Nat) (adr : Nat → Nat) (w : Nat → va_E) (hM : MW D A N adr w H) (a v n : Nat) (d : Nat → Nat) (ha : a < N) (hv1 : v < N) (hav : a ≠ v) (h1 : w a = .inr (1, [.ref (adr v), .int (nI n)])) (h2 : w v = .inl (ac 0, 60, .inl (fun j => nI (d j)))) (hn : n ≤ 60) (hn0 : 0 < n) : WRv l yX1_removeFirst wsX1_removeFirst ({ frames := 2, cells := 0, slots := 0, locals := 43 }) [.ref (adr a)] D ac H A N adr (fun w1 => ∃ d2 : Nat → Nat, w1 = va_up (va_up w v (.inl (ac 0, 60, .inl (fun j => nI (d2 j))))) a (.inr (1, [.ref (adr v), .int (nI (n - 1))])) ∧ lst (n - 1) d2 = (lst n d).eraseIdx 0) := by
  refine Met.ofW (cc := cX1_removeFirst) (maxL := 1) (ret := none) (by decide) rfl ?_
  intro p e s m args below meth c s₁ B hml hv
  obtain ⟨hargs, hsz, hK⟩ := hv
  have hx := B.exec
  have hb := B.bytes
  have hr := B.returns
  have hts := atoms_spec (ws := wsX1_removeFirst) B.pre
  have hown : s.vm.findClass RX1 = some m.cls := findClass_of_methodNamed B.named
  have hlocks := B.notSynchronized
  subst hsz
  have hS : va_S A s.heap s.heap [] := va_S.rf
  have hl := lv_entry ([.ref (adr a)]) (n := 1) (Nat.le_of_ble_eq_true rfl)
  have hen := lg_entry_eq m [.ref (adr a)] 1
  rw [← hargs] at hen
  rw [hen]
  generalize (lg_sl ([.ref (adr a)]) ++ List.replicate (1 - (lg_sl ([.ref (adr a)])).length) Slot.unset).toArray = ls at hl ⊢
  have hl : lv_has ls 1 [(0, .ref (adr a))] := hl
  refine lv_aload_n hx hb dX1_removeFirst_0 rfl (lv_at hl 0 rfl) ?_
  refine lv_iconst (v := 0) hx hb dX1_removeFirst_1 (by decide) ?_
  refine m_top (show (0 : Int32) = nI 0 from rfl) ?_
  refine w_callv (va_runV (As := [.int (nI 0)]) (rest := []) ⟨hx, hb, hml, hown, hts⟩ (k_X1_removeAt l D ac _ A N adr w hM a v n (fun j => nI (d j)) ha hv1 (by omega) h1 h2 (by omega) 0 (by omega)) (cwV 1 hts gX1_removeFirst_X1_removeAt rfl rfl rfl (by decide +kernel) ⟨Nat.le_of_ble_eq_true rfl, Nat.le_of_ble_eq_true rfl⟩) (pV hK (ci := 1) rfl (hM.cel ha h1)) rfl rfl hl.1 rfl (lv_room (Nat.le_of_ble_eq_true rfl)) dX1_removeFirst_2 ⟨Nat.le_of_ble_eq_true rfl, Nat.le_of_ble_eq_true rfl⟩) hS (fun w_2 H locs hw_2 hM hS => ?_)
  obtain ⟨f_, hw_2, hf_⟩ := hw_2
  obtain ⟨d2_, hd2_, hl2_⟩ := cut_nat (by omega) hf_
  subst hd2_
  have h_3 : w_2 a = .inr (1, [.ref (adr v), .int (nI (n - 1))]) := by rw [hw_2]; exact va_up_self _ _ _
  have h_4 : w_2 v = .inl (ac 0, 60, .inl (fun j => nI (d2_ j))) := by rw [hw_2, va_up_ne _ _ (by omega)]; exact va_up_self _ _ _
  exact e_wv hx hb hlocks hr dX1_removeFirst_5 hM hS (⟨d2_, hw_2, hl2_⟩)
theorem first_nat {n x : Nat} {f1 : Nat → Int32} {d : Nat → Nat} (h : ∀ j, j ≤ n → f1 j = shF (nI x) (fun j => nI (d j)) j) : ∃ d2 : Nat → Nat, f1 = (fun j => nI (d2 j)) ∧ lst (n + 1) d2 = x :: lst n d := by
  refine ⟨fun j => if j ≤ n then (if j = 0 then x else d (j - 1)) else (exI (f1 j)).choose, ?_, ?_⟩
  · funext j
    by_cases q : j ≤ n
    · simp only [if_pos q]
      rw [h j q]
      unfold shF
      by_cases q2 : j = 0 <;> simp [q2]
    · simp only [if_neg q]
      exact (exI (f1 j)).choose_spec
  · apply List.ext_getElem?
    intro j
    cases j with
    | zero =>
      rw [lst_get (by omega)]
      simp
    | succ j =>
      rw [List.getElem?_cons_succ]
      by_cases q : j < n
      · rw [lst_get (show j + 1 < n + 1 by omega), lst_get q, if_pos (by omega), if_neg (by omega)]
        rfl
      · rw [List.getElem?_eq_none (by rw [lst_len]; omega), List.getElem?_eq_none (by rw [lst_len]; omega)]
theorem href_up {adr : Nat → Nat} {hd : Nat → Option Nat} {t o : Nat} : va_up (href adr hd) t (some (adr (22 + 6 * o))) = href adr (va_up hd t (some o)) := by
  funext i
  by_cases h : i = t
  · subst h; rw [va_up_self]; unfold href; rw [va_up_self]; rfl
  · rw [va_up_ne _ _ h]; unfold href; rw [va_up_ne _ _ h]
theorem href_no {adr : Nat → Nat} {hd : Nat → Option Nat} {t : Nat} : va_up (href adr hd) t none = href adr (va_up hd t none) := by
  funext i
  by_cases h : i = t
  · subst h; rw [va_up_self]; unfold href; rw [va_up_self]; rfl
  · rw [va_up_ne _ _ h]; unfold href; rw [va_up_ne _ _ h]
set_option maxHeartbeats 4000000 in
set_option maxRecDepth 100000 in
/-- putInHand n -/
theorem k_X7_putInHand_n (l : Launch) (D : va_G) (ac : Nat → ClassId) (H : Heap) (A : Nat → Prop) (N : Nat) (adr : Nat → Nat) (w : Nat → va_E) (hM : MW D A N adr w H) (hN : 22 ≤ N) (no : Nat) (hd : Nat → Option Nat) (le pr ra : Int32) (h0 : TGW adr w no le pr ra) (h15 : w 15 = .inl (ac 3, 4, .inr (.inr (.inr (.inr (href adr hd)))))) (t : Nat) (ht : t < 4) : WRv l yX7_putInHand wsX7_putInHand ({ frames := 0, cells := 0, slots := 0, locals := 0 }) [.ref (adr 0), .int (nI t), .null] D ac H A N adr (fun w1 => w1 = va_up w 15 (.inl (ac 3, 4, .inr (.inr (.inr (.inr (href adr (va_up hd t none)))))))) := by
  refine Met.ofW (cc := cX7_putInHand) (maxL := 3) (ret := none) (by decide) rfl ?_
  intro p e s m args below meth c s₁ B hml hv
  obtain ⟨hargs, hsz, hK⟩ := hv
  have hx := B.exec
  have hb := B.bytes
  have hr := B.returns
  have hts := atoms_spec (ws := wsX7_putInHand) B.pre
  have hown : s.vm.findClass RX7 = some m.cls := findClass_of_methodNamed B.named
  have hlocks := B.notSynchronized
  subst hsz
  have inX7_ : ∀ w ∈ wsX70, w ∈ wsX7_putInHand := by decide +kernel
  have hS : va_S A s.heap s.heap [] := va_S.rf
  have hl := lv_entry ([.ref (adr 0), .int (nI t), .null]) (n := 3) (Nat.le_of_ble_eq_true rfl)
  have hen := lg_entry_eq m [.ref (adr 0), .int (nI t), .null] 3
  rw [← hargs] at hen
  rw [hen]
  generalize (lg_sl ([.ref (adr 0), .int (nI t), .null]) ++ List.replicate (3 - (lg_sl ([.ref (adr 0), .int (nI t), .null])).length) Slot.unset).toArray = ls at hl ⊢
  have hl : lv_has ls 3 [(0, .ref (adr 0)), (1, .int (nI t)), (2, .null)] := hl
  refine lv_iload_n hx hb dX7_putInHand_0 rfl (lv_at hl 1 rfl) ?_
  refine lv_if_lt (tgt := 20) hx hb dX7_putInHand_1 (by decide) (fun c1 => ?_) (fun c1 => ?_)
  · exact absurd c1 (nI_pos (by omega))
  · refine lv_iload_n hx hb dX7_putInHand_4 rfl (lv_at hl 1 rfl) ?_
    refine lv_aload_n hx hb dX7_putInHand_5 rfl (lv_at hl 0 rfl) ?_
    refine m_get (ci := 7) (C := RX7) (T := TX7) (n := 13) (v := .ref (adr 15)) hx hb hts inX7_ hown hK rfl (hM.cel (by omega) h0) 4 (by decide) (hts _ (by decide +kernel)) rfl dX7_putInHand_6 ?_
    refine m_alen (v := 4) (ty := _) hx hb hK 3 (hM.cel (by omega) h15) rfl (by first | rfl | decide) dX7_putInHand_9 ?_
    refine lv_icmp_ge (tgt := 20) hx hb dX7_putInHand_10 (by decide) (fun c10 => ?_) (fun c10 => ?_)
    · exact absurd (le_le (a := 4) c10 (by omega) (by omega)) (by omega)
    · refine lv_aload_n hx hb dX7_putInHand_13 rfl (lv_at hl 0 rfl) ?_
      refine m_get (ci := 7) (C := RX7) (T := TX7) (n := 13) (v := .ref (adr 15)) hx hb hts inX7_ hown hK rfl (hM.cel (by omega) h0) 4 (by decide) (hts _ (by decide +kernel)) rfl dX7_putInHand_14 ?_
      refine lv_iload_n hx hb dX7_putInHand_17 rfl (lv_at hl 1 rfl) ?_
      refine lv_aload_nN hx hb dX7_putInHand_18 rfl (lv_at hl 2 rfl) ?_
      refine m_astqN hx hb hK hM hS 3 15 (by omega) h15 rfl (vp_in_nI (by omega) (by decide)) dX7_putInHand_19 (fun H locs hM hS => ?_)
      have ef_ : (va_up (href adr hd) (nI t).toNatClampNeg none) = href adr (va_up hd t none) := by rw [nI_clamp (by omega)]; exact href_no
      rw [ef_] at hM
      clear ef_
      obtain ⟨w_1, ew_1⟩ : ∃ z9_, z9_ = va_up w 15 (.inl (ac 3, 4, .inr (.inr (.inr (.inr (href adr (va_up hd t none))))))) := ⟨_, rfl⟩
      rw [← ew_1] at hM
      have h_2 : w_1 0 = .inr (7, [.ref (adr 1), .ref (adr 3), .ref (adr 7), .ref (adr 14), .ref (adr 15), .ref (adr 16), .ref (adr 18), .ref (adr 20), .ref (adr 21), .int (nI no), .int le, .int pr, .int ra]) := by rw [ew_1, va_up_ne _ _ (by omega)]; exact h0
      have h_3 : w_1 15 = .inl (ac 3, 4, .inr (.inr (.inr (.inr (href adr (va_up hd t none)))))) := by rw [ew_1]; exact va_up_self _ _ _
      exact e_wv hx hb hlocks hr dX7_putInHand_20 hM hS (by subst_vars; rfl)
set_option maxHeartbeats 4000000 in
set_option maxRecDepth 100000 in
/-- putInHand r -/
theorem k_X7_putInHand_r (l : Launch) (D : va_G) (ac : Nat → ClassId) (H : Heap) (A : Nat → Prop) (N : Nat) (adr : Nat → Nat) (w : Nat → va_E) (hM : MW D A N adr w H) (hN : 22 ≤ N) (no : Nat) (hd : Nat → Option Nat) (le pr ra : Int32) (h0 : TGW adr w no le pr ra) (h15 : w 15 = .inl (ac 3, 4, .inr (.inr (.inr (.inr (href adr hd)))))) (o : Nat) (y0 y1 y2 y3 y4 y5 y6 : Value) (ho : 22 + 6 * o < N) (hO : w (22 + 6 * o) = .inr (3, [y0, y1, y2, y3, y4, y5, y6])) (t : Nat) (ht : t < 4) : WRv l yX7_putInHand wsX7_putInHand ({ frames := 0, cells := 0, slots := 0, locals := 0 }) [.ref (adr 0), .int (nI t), .ref (adr (22 + 6 * o))] D ac H A N adr (fun w1 => w1 = va_up w 15 (.inl (ac 3, 4, .inr (.inr (.inr (.inr (href adr (va_up hd t (some o))))))))) := by
  refine Met.ofW (cc := cX7_putInHand) (maxL := 3) (ret := none) (by decide) rfl ?_
  intro p e s m args below meth c s₁ B hml hv
  obtain ⟨hargs, hsz, hK⟩ := hv
  have hx := B.exec
  have hb := B.bytes
  have hr := B.returns
  have hts := atoms_spec (ws := wsX7_putInHand) B.pre
  have hown : s.vm.findClass RX7 = some m.cls := findClass_of_methodNamed B.named
  have hlocks := B.notSynchronized
  subst hsz
  have inX7_ : ∀ w ∈ wsX70, w ∈ wsX7_putInHand := by decide +kernel
  have hS : va_S A s.heap s.heap [] := va_S.rf
  have hl := lv_entry ([.ref (adr 0), .int (nI t), .ref (adr (22 + 6 * o))]) (n := 3) (Nat.le_of_ble_eq_true rfl)
  have hen := lg_entry_eq m [.ref (adr 0), .int (nI t), .ref (adr (22 + 6 * o))] 3
  rw [← hargs] at hen
  rw [hen]
  generalize (lg_sl ([.ref (adr 0), .int (nI t), .ref (adr (22 + 6 * o))]) ++ List.replicate (3 - (lg_sl ([.ref (adr 0), .int (nI t), .ref (adr (22 + 6 * o))])).length) Slot.unset).toArray = ls at hl ⊢
  have hl : lv_has ls 3 [(0, .ref (adr 0)), (1, .int (nI t)), (2, .ref (adr (22 + 6 * o)))] := hl
  refine lv_iload_n hx hb dX7_putInHand_0 rfl (lv_at hl 1 rfl) ?_
  refine lv_if_lt (tgt := 20) hx hb dX7_putInHand_1 (by decide) (fun c1 => ?_) (fun c1 => ?_)
  · exact absurd c1 (nI_pos (by omega))
  · refine lv_iload_n hx hb dX7_putInHand_4 rfl (lv_at hl 1 rfl) ?_
    refine lv_aload_n hx hb dX7_putInHand_5 rfl (lv_at hl 0 rfl) ?_
    refine m_get (ci := 7) (C := RX7) (T := TX7) (n := 13) (v := .ref (adr 15)) hx hb hts inX7_ hown hK rfl (hM.cel (by omega) h0) 4 (by decide) (hts _ (by decide +kernel)) rfl dX7_putInHand_6 ?_
    refine m_alen (v := 4) (ty := _) hx hb hK 3 (hM.cel (by omega) h15) rfl (by first | rfl | decide) dX7_putInHand_9 ?_
    refine lv_icmp_ge (tgt := 20) hx hb dX7_putInHand_10 (by decide) (fun c10 => ?_) (fun c10 => ?_)
    · exact absurd (le_le (a := 4) c10 (by omega) (by omega)) (by omega)
    · refine lv_aload_n hx hb dX7_putInHand_13 rfl (lv_at hl 0 rfl) ?_
      refine m_get (ci := 7) (C := RX7) (T := TX7) (n := 13) (v := .ref (adr 15)) hx hb hts inX7_ hown hK rfl (hM.cel (by omega) h0) 4 (by decide) (hts _ (by decide +kernel)) rfl dX7_putInHand_14 ?_
      refine lv_iload_n hx hb dX7_putInHand_17 rfl (lv_at hl 1 rfl) ?_
      refine lv_aload_n hx hb dX7_putInHand_18 rfl (lv_at hl 2 rfl) ?_
      refine m_astq hx hb hK hM hS 3 15 (by omega) h15 (22 + 6 * o) 3 ho hO rfl rfl (vp_in_nI (by omega) (by decide)) dX7_putInHand_19 (fun H locs hM hS => ?_)
      have ef_ : (va_up (href adr hd) (nI t).toNatClampNeg (some (adr (22 + 6 * o)))) = href adr (va_up hd t (some o)) := by rw [nI_clamp (by omega)]; exact href_up
      rw [ef_] at hM
      clear ef_
      obtain ⟨w_1, ew_1⟩ : ∃ z9_, z9_ = va_up w 15 (.inl (ac 3, 4, .inr (.inr (.inr (.inr (href adr (va_up hd t (some o)))))))) := ⟨_, rfl⟩
      rw [← ew_1] at hM
      have h_2 : w_1 0 = .inr (7, [.ref (adr 1), .ref (adr 3), .ref (adr 7), .ref (adr 14), .ref (adr 15), .ref (adr 16), .ref (adr 18), .ref (adr 20), .ref (adr 21), .int (nI no), .int le, .int pr, .int ra]) := by rw [ew_1, va_up_ne _ _ (by omega)]; exact h0
      have h_3 : w_1 15 = .inl (ac 3, 4, .inr (.inr (.inr (.inr (href adr (va_up hd t (some o))))))) := by rw [ew_1]; exact va_up_self _ _ _
      have h_4 : w_1 (22 + 6 * o) = .inr (3, [y0, y1, y2, y3, y4, y5, y6]) := by rw [ew_1, va_up_ne _ _ (by omega)]; exact hO
      exact e_wv hx hb hlocks hr dX7_putInHand_20 hM hS (by subst_vars; rfl)
theorem beg_end {w : Nat → va_E} {k j : Nat} {a1 a2 a3 b1 b2 b3 c : va_E} (h : k ≠ 13) : va_up (va_up (va_up (va_up (va_up (va_up (va_up w 13 a1) k b1) 13 a2) k b2) k b3) 13 a3) j c = va_up (va_up (va_up w 13 a3) k b3) j c := by
  congr 1
  funext q
  by_cases q1 : q = 13
  · subst q1; rw [va_up_self, va_up_ne _ _ (Ne.symm h), va_up_self]
  · rw [va_up_ne _ _ q1]
    by_cases q2 : q = k
    · subst q2; rw [va_up_self, va_up_self]
    · rw [va_up_ne _ _ q2, va_up_ne _ _ q2, va_up_ne _ _ q1, va_up_ne _ _ q2, va_up_ne _ _ q1, va_up_ne _ _ q2, va_up_ne _ _ q1]
set_option maxHeartbeats 4000000 in
set_option maxRecDepth 100000 in
/-- begin -/
theorem k_X7_begin (l : Launch) (D : va_G) (ac : Nat → ClassId) (H : Heap) (A : Nat → Prop) (N : Nat) (adr : Nat → Nat) (w : Nat → va_E) (hM : MW D A N adr w H) (no : Nat) (oc on_ : Nat → Nat) (owd : Nat → Nat → Nat) (obf : Nat → Nat → Int32) (ns : Nat) (so : Nat → Nat) (hv : Nat → Int64) (nd : Nat) (du : Nat → Nat) (T : Nat → Int32) (hN : 22 + 6 * no ≤ N) (hS1 : SenF ac adr w no oc on_ owd obf) (hm : MemW ac adr w ns so hv nd du T) (hso : ∀ i, i < ns → so i < no) (le pr ra : Int32) (h0 : TGW adr w no le pr ra) (o : Nat) (b x3 x4 x5 x6 : Int32) (ho : o < no) (hlo : ∀ i, i < ns → so i ≠ o) (h9 : w (22 + 6 * o) = .inr (3, [.int (nI o), .int b, .ref (adr (23 + 6 * o)), .int x3, .int x4, .int x5, .int x6])) : WRv l yX7_begin wsX7_begin ({ frames := 6, cells := 0, slots := 0, locals := 153 }) [.ref (adr 0), .ref (adr (22 + 6 * o))] D ac H A N adr (fun w1 => ∃ T1 : Nat → Int32, w1 = va_up (va_up (va_up w 13 (.inl (ac 0, 81, .inl T1))) (22 + 6 * o) (.inr (3, [.int (nI o), .int b, .ref (adr (23 + 6 * o)), .int x3, .int (bstV nd du on_ owd so oc ns (shw hv (owd o) (on_ o)) (on_ o) (fun j => nI (owd o j)) (nI (oc o)) le), .int (cstI (nI (on_ o)) pr (shO (on_ o) (fun j => nI (owd o j)) on_ owd ns so (bstV nd du on_ owd so oc ns (shw hv (owd o) (on_ o)) (on_ o) (fun j => nI (owd o j)) (nI (oc o)) le)) b), .int (nI (on_ o) * ra * (shO (on_ o) (fun j => nI (owd o j)) on_ owd ns so (bstV nd du on_ owd so oc ns (shw hv (owd o) (on_ o)) (on_ o) (fun j => nI (owd o j)) (nI (oc o)) le)) / 100)]))) (23 + 6 * o + 4) (.inl (ac 0, 8, .inl (lndO on_ owd obf ns so o (bstV nd du on_ owd so oc ns (shw hv (owd o) (on_ o)) (on_ o) (fun j => nI (owd o j)) (nI (oc o)) le))))) := by
  refine Met.ofW (cc := cX7_begin) (maxL := 5) (ret := none) (by decide) rfl ?_
  intro p e s m args below meth c s₁ B hml hv
  obtain ⟨hargs, hsz, hK⟩ := hv
  have hx := B.exec
  have hb := B.bytes
  have hr := B.returns
  have hts := atoms_spec (ws := wsX7_begin) B.pre
  have hown : s.vm.findClass RX7 = some m.cls := findClass_of_methodNamed B.named
  have hlocks := B.notSynchronized
  subst hsz
  have inX3_ : ∀ w ∈ wsX30, w ∈ wsX7_begin := by decide +kernel
  have inX4_ : ∀ w ∈ wsX40, w ∈ wsX7_begin := by decide +kernel
  have inX6_ : ∀ w ∈ wsX60, w ∈ wsX7_begin := by decide +kernel
  have inX7_ : ∀ w ∈ wsX70, w ∈ wsX7_begin := by decide +kernel
  have hS : va_S A s.heap s.heap [] := va_S.rf
  have hl := lv_entry ([.ref (adr 0), .ref (adr (22 + 6 * o))]) (n := 5) (Nat.le_of_ble_eq_true rfl)
  have hen := lg_entry_eq m [.ref (adr 0), .ref (adr (22 + 6 * o))] 5
  rw [← hargs] at hen
  rw [hen]
  generalize (lg_sl ([.ref (adr 0), .ref (adr (22 + 6 * o))]) ++ List.replicate (5 - (lg_sl ([.ref (adr 0), .ref (adr (22 + 6 * o))])).length) Slot.unset).toArray = ls at hl ⊢
  have hl : lv_has ls 5 [(0, .ref (adr 0)), (1, .ref (adr (22 + 6 * o)))] := hl
  obtain ⟨hns, hnd⟩ := hm.2.2.2.2.2.2.2
  have ho_ := ho
  have hsn_ := hS1 o ho
  obtain ⟨hn0_, hn8_, hcl_, hwd_⟩ := hsn_.2.2.2.2.2
  refine lv_aload_n hx hb dX7_begin_0 rfl (lv_at hl 1 rfl) ?_
  refine m_getN (host := RX7) (ci := 3) (C := RX3) (T := TX3) (n := 7) (v := .ref (adr (23 + 6 * o))) hx hb hts inX3_ hown hK rfl (hM.cel (by have := ho; omega) h9) 2 (by decide) 23 rfl rfl dX7_begin_1 ?_
  refine lv_astore_n (lv' := [(2, .ref (adr (23 + 6 * o))), (0, .ref (adr 0)), (1, .ref (adr (22 + 6 * o)))]) hx hb dX7_begin_4 rfl hl (by decide) rfl (fun ls hl => ?_)
  refine lv_aload_n hx hb dX7_begin_5 rfl (lv_at hl 0 rfl) ?_
  refine m_getN (host := RX7) (ci := 6) (C := RX6) (T := TX6) (n := 3) (v := .ref (adr (23 + 6 * o + 1))) hx hb hts inX6_ hown hK rfl (hM.cel (by have := ho_; omega) hsn_.1) 1 (by decide) 18 rfl rfl dX7_begin_6 ?_
  refine m_getN (host := RX7) (ci := 4) (C := RX4) (T := TX4) (n := 2) (v := .int (nI (on_ o))) hx hb hts inX4_ hown hK rfl (hM.cel (by have := ho_; omega) hsn_.2.1) 1 (by decide) 3 rfl rfl dX7_begin_9 ?_
  refine lv_istore_n (lv' := [(3, .int (nI (on_ o))), (2, .ref (adr (23 + 6 * o))), (0, .ref (adr 0)), (1, .ref (adr (22 + 6 * o)))]) hx hb dX7_begin_12 rfl hl (by decide) rfl (fun ls hl => ?_)
  refine lv_aload_n hx hb dX7_begin_13 rfl (lv_at hl 3 rfl) ?_
  refine lv_aload_n hx hb dX7_begin_14 rfl (lv_at hl 2 rfl) ?_
  refine lv_aload_n hx hb dX7_begin_15 rfl (lv_at hl 1 rfl) ?_
  refine m_getN (host := RX7) (ci := 6) (C := RX6) (T := TX6) (n := 3) (v := .int (nI (oc o))) hx hb hts inX6_ hown hK rfl (hM.cel (by have := ho_; omega) hsn_.1) 0 (by decide) 16 rfl rfl dX7_begin_16 ?_
  refine lv_aload_n hx hb dX7_begin_19 rfl (lv_at hl 1 rfl) ?_
  refine m_getN (host := RX7) (ci := 6) (C := RX6) (T := TX6) (n := 3) (v := .ref (adr (23 + 6 * o + 1))) hx hb hts inX6_ hown hK rfl (hM.cel (by have := ho_; omega) hsn_.1) 1 (by decide) 18 rfl rfl dX7_begin_20 ?_
  refine w_calli (va_runV (As := [.int (nI (oc o)), .ref (adr (23 + 6 * o + 1))]) (rest := [.ref (adr (22 + 6 * o))]) ⟨hx, hb, hml, hown, hts⟩ (k_X7_bestFor l D ac _ A N adr w hM no oc on_ owd obf ns so hv nd du T (by omega) hS1 ⟨hm.1, hm.2.1, hm.2.2.1, hm.2.2.2.1, hm.2.2.2.2.1, hm.2.2.2.2.2.1, hm.2.2.2.2.2.2.1, hm.2.2.2.2.2.2.2⟩ hso le pr ra h0 (23 + 6 * o + 1) (23 + 6 * o + 2) ((on_ o)) (owd o) (by have := ho_; omega) (by have := ho_; omega) (by omega) (by omega) (by omega) hwd_ hsn_.2.1 hsn_.2.2.1 (nI (oc o))) (cwV 2 hts gX7_begin_X7_bestFor rfl rfl rfl (by decide +kernel) ⟨Nat.le_of_ble_eq_true rfl, Nat.le_of_ble_eq_true rfl⟩) (pV hK (ci := 7) rfl (hM.cel (by omega) h0)) rfl rfl hl.1 rfl (lv_room (Nat.le_of_ble_eq_true rfl)) dX7_begin_23 ⟨Nat.le_of_ble_eq_true rfl, Nat.le_of_ble_eq_true rfl⟩) hS (fun rv_1 w_2 H locs hw_2 hM hS => ?_)
  obtain ⟨hrv_1, hw_2⟩ := hw_2
  obtain ⟨T_3, hw_2⟩ := hw_2
  have h_4 : w_2 7 = .inr (2, [.ref (adr 8), .ref (adr 9), .ref (adr 10), .ref (adr 12), .int (nI ns)]) := by rw [hw_2, va_up_ne _ _ (by omega)]; exact hm.1
  have h_5 : w_2 8 = .inl (ac 4, 40, .inr (.inr (.inr (.inr (sref adr ns so))))) := by rw [hw_2, va_up_ne _ _ (by omega)]; exact hm.2.1
  have h_6 : w_2 9 = .inl (ac 1, 50, .inr (.inl hv)) := by rw [hw_2, va_up_ne _ _ (by omega)]; exact hm.2.2.1
  have h_7 : w_2 10 = .inr (1, [.ref (adr 11), .int (nI nd)]) := by rw [hw_2, va_up_ne _ _ (by omega)]; exact hm.2.2.2.1
  have h_8 : w_2 11 = .inl (ac 0, 60, .inl (fun j => nI (du j))) := by rw [hw_2, va_up_ne _ _ (by omega)]; exact hm.2.2.2.2.1
  have h_9 : w_2 12 = .inr (0, [.ref (adr 13)]) := by rw [hw_2, va_up_ne _ _ (by omega)]; exact hm.2.2.2.2.2.1
  have h_10 : w_2 13 = .inl (ac 0, 81, .inl T_3) := by rw [hw_2]; exact va_up_self _ _ _
  have h_11 : w_2 0 = .inr (7, [.ref (adr 1), .ref (adr 3), .ref (adr 7), .ref (adr 14), .ref (adr 15), .ref (adr 16), .ref (adr 18), .ref (adr 20), .ref (adr 21), .int (nI no), .int le, .int pr, .int ra]) := by rw [hw_2, va_up_ne _ _ (by omega)]; exact h0
  have h_12 : w_2 (22 + 6 * o) = .inr (3, [.int (nI o), .int b, .ref (adr (23 + 6 * o)), .int x3, .int x4, .int x5, .int x6]) := by rw [hw_2, va_up_ne _ _ (by omega)]; exact h9
  have h_13 : w_2 (23 + 6 * o) = .inr (6, [.int (nI (oc o)), .ref (adr (23 + 6 * o + 1)), .ref (adr (23 + 6 * o + 3))]) := by rw [hw_2, va_up_ne _ _ (by omega)]; exact hsn_.1
  have h_14 : w_2 (23 + 6 * o + 1) = .inr (4, [.ref (adr (23 + 6 * o + 2)), .int (nI (on_ o))]) := by rw [hw_2, va_up_ne _ _ (by omega)]; exact hsn_.2.1
  have h_15 : w_2 (23 + 6 * o + 2) = .inl (ac 0, 8, .inl (fun j => nI (owd o j))) := by rw [hw_2, va_up_ne _ _ (by omega)]; exact hsn_.2.2.1
  have h_16 : w_2 (23 + 6 * o + 3) = .inr (4, [.ref (adr (23 + 6 * o + 4)), .int (nI (on_ o))]) := by rw [hw_2, va_up_ne _ _ (by omega)]; exact hsn_.2.2.2.1
  have h_17 : w_2 (23 + 6 * o + 4) = .inl (ac 0, 8, .inl (obf o)) := by rw [hw_2, va_up_ne _ _ (by omega)]; exact hsn_.2.2.2.2.1
  have h_18 : SenF ac adr w_2 no oc on_ owd obf := by rw [hw_2]; exact (SenF.up (by omega) hS1)
  subst hrv_1
  refine m_putN (host := RX7) (ci := 3) (C := RX3) (T := TX3) (n := 7) (v := .int (bstV nd du on_ owd so oc ns (shw hv (owd o) ((on_ o))) ((on_ o)) (fun j => nI (owd o j)) (nI (oc o)) le)) (ty := tyX3 4) hx hb hts inX3_ tyX3 tyX3_ok nmX3 hown hK hM hS rfl (22 + 6 * o) (by have := ho; omega) h_12 4 (by decide) 25 rfl rfl (by decide +kernel) rfl rfl (Nat.le_of_ble_eq_true rfl) dX7_begin_26 (fun H locs hM hS => ?_)
  have hM : MW D A N adr (va_up w_2 (22 + 6 * o) (.inr (3, [.int (nI o), .int b, .ref (adr (23 + 6 * o)), .int x3, .int (bstV nd du on_ owd so oc ns (shw hv (owd o) ((on_ o))) ((on_ o)) (fun j => nI (owd o j)) (nI (oc o)) le), .int x5, .int x6]))) H := hM
  obtain ⟨w_19, ew_19⟩ : ∃ z9_, z9_ = va_up w_2 (22 + 6 * o) (.inr (3, [.int (nI o), .int b, .ref (adr (23 + 6 * o)), .int x3, .int (bstV nd du on_ owd so oc ns (shw hv (owd o) ((on_ o))) ((on_ o)) (fun j => nI (owd o j)) (nI (oc o)) le), .int x5, .int x6])) := ⟨_, rfl⟩
  rw [← ew_19] at hM
  have h_20 : w_19 7 = .inr (2, [.ref (adr 8), .ref (adr 9), .ref (adr 10), .ref (adr 12), .int (nI ns)]) := by rw [ew_19, va_up_ne _ _ (by omega)]; exact h_4
  have h_21 : w_19 8 = .inl (ac 4, 40, .inr (.inr (.inr (.inr (sref adr ns so))))) := by rw [ew_19, va_up_ne _ _ (by omega)]; exact h_5
  have h_22 : w_19 9 = .inl (ac 1, 50, .inr (.inl hv)) := by rw [ew_19, va_up_ne _ _ (by omega)]; exact h_6
  have h_23 : w_19 10 = .inr (1, [.ref (adr 11), .int (nI nd)]) := by rw [ew_19, va_up_ne _ _ (by omega)]; exact h_7
  have h_24 : w_19 11 = .inl (ac 0, 60, .inl (fun j => nI (du j))) := by rw [ew_19, va_up_ne _ _ (by omega)]; exact h_8
  have h_25 : w_19 12 = .inr (0, [.ref (adr 13)]) := by rw [ew_19, va_up_ne _ _ (by omega)]; exact h_9
  have h_26 : w_19 13 = .inl (ac 0, 81, .inl T_3) := by rw [ew_19, va_up_ne _ _ (by omega)]; exact h_10
  have h_27 : w_19 0 = .inr (7, [.ref (adr 1), .ref (adr 3), .ref (adr 7), .ref (adr 14), .ref (adr 15), .ref (adr 16), .ref (adr 18), .ref (adr 20), .ref (adr 21), .int (nI no), .int le, .int pr, .int ra]) := by rw [ew_19, va_up_ne _ _ (by omega)]; exact h_11
  have h_28 : w_19 (22 + 6 * o) = .inr (3, [.int (nI o), .int b, .ref (adr (23 + 6 * o)), .int x3, .int (bstV nd du on_ owd so oc ns (shw hv (owd o) ((on_ o))) ((on_ o)) (fun j => nI (owd o j)) (nI (oc o)) le), .int x5, .int x6]) := by rw [ew_19]; exact va_up_self _ _ _
  have h_29 : w_19 (23 + 6 * o) = .inr (6, [.int (nI (oc o)), .ref (adr (23 + 6 * o + 1)), .ref (adr (23 + 6 * o + 3))]) := by rw [ew_19, va_up_ne _ _ (by omega)]; exact h_13
  have h_30 : w_19 (23 + 6 * o + 1) = .inr (4, [.ref (adr (23 + 6 * o + 2)), .int (nI (on_ o))]) := by rw [ew_19, va_up_ne _ _ (by omega)]; exact h_14
  have h_31 : w_19 (23 + 6 * o + 2) = .inl (ac 0, 8, .inl (fun j => nI (owd o j))) := by rw [ew_19, va_up_ne _ _ (by omega)]; exact h_15
  have h_32 : w_19 (23 + 6 * o + 3) = .inr (4, [.ref (adr (23 + 6 * o + 4)), .int (nI (on_ o))]) := by rw [ew_19, va_up_ne _ _ (by omega)]; exact h_16
  have h_33 : w_19 (23 + 6 * o + 4) = .inl (ac 0, 8, .inl (obf o)) := by rw [ew_19, va_up_ne _ _ (by omega)]; exact h_17
  have h_34 : SenF ac adr w_19 no oc on_ owd obf := by rw [ew_19]; exact SenF.up (by omega) h_18
  refine lv_aload_n hx hb dX7_begin_29 rfl (lv_at hl 2 rfl) ?_
  refine m_get (ci := 7) (C := RX7) (T := TX7) (n := 13) (v := .ref (adr 7)) hx hb hts inX7_ hown hK rfl (hM.cel (by omega) h_27) 2 (by decide) (hts _ (by decide +kernel)) rfl dX7_begin_30 ?_
  refine lv_aload_n hx hb dX7_begin_33 rfl (lv_at hl 1 rfl) ?_
  refine m_getN (host := RX7) (ci := 6) (C := RX6) (T := TX6) (n := 3) (v := .ref (adr (23 + 6 * o + 1))) hx hb hts inX6_ hown hK rfl (hM.cel (by have := ho_; omega) h_29) 1 (by decide) 18 rfl rfl dX7_begin_34 ?_
  refine lv_aload_n hx hb dX7_begin_37 rfl (lv_at hl 3 rfl) ?_
  refine m_getN (host := RX7) (ci := 3) (C := RX3) (T := TX3) (n := 7) (v := .int (bstV nd du on_ owd so oc ns (shw hv (owd o) ((on_ o))) ((on_ o)) (fun j => nI (owd o j)) (nI (oc o)) le)) hx hb hts inX3_ hown hK rfl (hM.cel (by have := ho; omega) h_28) 4 (by decide) 25 rfl rfl dX7_begin_38 ?_
  refine w_calli (va_runV (As := [.ref (adr (23 + 6 * o + 1)), .int (bstV nd du on_ owd so oc ns (shw hv (owd o) ((on_ o))) ((on_ o)) (fun j => nI (owd o j)) (nI (oc o)) le)]) (rest := []) ⟨hx, hb, hml, hown, hts⟩ (k_X2_shareOf l D ac _ A N adr w_19 hM no oc on_ owd obf ns so hv nd du T_3 (by omega) h_34 ⟨h_20, h_21, h_22, h_23, h_24, h_25, h_26, hm.2.2.2.2.2.2.2⟩ hso (23 + 6 * o + 1) (23 + 6 * o + 2) ((on_ o)) (fun j => nI (owd o j)) (by have := ho_; omega) (by have := ho_; omega) (by omega) (by omega) (by omega) h_30 h_31 (bstV nd du on_ owd so oc ns (shw hv (owd o) ((on_ o))) ((on_ o)) (fun j => nI (owd o j)) (nI (oc o)) le)) (cwV 2 hts gX7_begin_X2_shareOf rfl rfl rfl (by decide +kernel) ⟨Nat.le_of_ble_eq_true rfl, Nat.le_of_ble_eq_true rfl⟩) (pV hK (ci := 2) rfl (hM.cel (by omega) h_20)) rfl rfl hl.1 rfl (lv_room (Nat.le_of_ble_eq_true rfl)) dX7_begin_41 ⟨Nat.le_of_ble_eq_true rfl, Nat.le_of_ble_eq_true rfl⟩) hS (fun rv_35 w_36 H locs hw_36 hM hS => ?_)
  obtain ⟨hrv_35, hw_36⟩ := hw_36
  obtain ⟨T_37, hw_36⟩ := hw_36
  have h_38 : w_36 7 = .inr (2, [.ref (adr 8), .ref (adr 9), .ref (adr 10), .ref (adr 12), .int (nI ns)]) := by rw [hw_36, va_up_ne _ _ (by omega)]; exact h_20
  have h_39 : w_36 8 = .inl (ac 4, 40, .inr (.inr (.inr (.inr (sref adr ns so))))) := by rw [hw_36, va_up_ne _ _ (by omega)]; exact h_21
  have h_40 : w_36 9 = .inl (ac 1, 50, .inr (.inl hv)) := by rw [hw_36, va_up_ne _ _ (by omega)]; exact h_22
  have h_41 : w_36 10 = .inr (1, [.ref (adr 11), .int (nI nd)]) := by rw [hw_36, va_up_ne _ _ (by omega)]; exact h_23
  have h_42 : w_36 11 = .inl (ac 0, 60, .inl (fun j => nI (du j))) := by rw [hw_36, va_up_ne _ _ (by omega)]; exact h_24
  have h_43 : w_36 12 = .inr (0, [.ref (adr 13)]) := by rw [hw_36, va_up_ne _ _ (by omega)]; exact h_25
  have h_44 : w_36 13 = .inl (ac 0, 81, .inl T_37) := by rw [hw_36]; exact va_up_self _ _ _
  have h_45 : w_36 0 = .inr (7, [.ref (adr 1), .ref (adr 3), .ref (adr 7), .ref (adr 14), .ref (adr 15), .ref (adr 16), .ref (adr 18), .ref (adr 20), .ref (adr 21), .int (nI no), .int le, .int pr, .int ra]) := by rw [hw_36, va_up_ne _ _ (by omega)]; exact h_27
  have h_46 : w_36 (22 + 6 * o) = .inr (3, [.int (nI o), .int b, .ref (adr (23 + 6 * o)), .int x3, .int (bstV nd du on_ owd so oc ns (shw hv (owd o) ((on_ o))) ((on_ o)) (fun j => nI (owd o j)) (nI (oc o)) le), .int x5, .int x6]) := by rw [hw_36, va_up_ne _ _ (by omega)]; exact h_28
  have h_47 : w_36 (23 + 6 * o) = .inr (6, [.int (nI (oc o)), .ref (adr (23 + 6 * o + 1)), .ref (adr (23 + 6 * o + 3))]) := by rw [hw_36, va_up_ne _ _ (by omega)]; exact h_29
  have h_48 : w_36 (23 + 6 * o + 1) = .inr (4, [.ref (adr (23 + 6 * o + 2)), .int (nI (on_ o))]) := by rw [hw_36, va_up_ne _ _ (by omega)]; exact h_30
  have h_49 : w_36 (23 + 6 * o + 2) = .inl (ac 0, 8, .inl (fun j => nI (owd o j))) := by rw [hw_36, va_up_ne _ _ (by omega)]; exact h_31
  have h_50 : w_36 (23 + 6 * o + 3) = .inr (4, [.ref (adr (23 + 6 * o + 4)), .int (nI (on_ o))]) := by rw [hw_36, va_up_ne _ _ (by omega)]; exact h_32
  have h_51 : w_36 (23 + 6 * o + 4) = .inl (ac 0, 8, .inl (obf o)) := by rw [hw_36, va_up_ne _ _ (by omega)]; exact h_33
  have h_52 : SenF ac adr w_36 no oc on_ owd obf := by rw [hw_36]; exact (SenF.up (by omega) h_34)
  subst hrv_35
  refine lv_istore (lv' := [(4, .int (shO ((on_ o)) (fun j => nI (owd o j)) on_ owd ns so (bstV nd du on_ owd so oc ns (shw hv (owd o) ((on_ o))) ((on_ o)) (fun j => nI (owd o j)) (nI (oc o)) le))), (3, .int (nI (on_ o))), (2, .ref (adr (23 + 6 * o))), (0, .ref (adr 0)), (1, .ref (adr (22 + 6 * o)))]) hx hb dX7_begin_44 hl (by decide) rfl (fun ls hl => ?_)
  refine lv_aload_n hx hb dX7_begin_46 rfl (lv_at hl 4 rfl) ?_
  refine lv_aload_n hx hb dX7_begin_47 rfl (lv_at hl 3 rfl) ?_
  refine lv_iload_n hx hb dX7_begin_48 rfl (lv_at hl 1 rfl) ?_
  refine lv_iload hx hb dX7_begin_49 (lv_at hl 0 rfl) ?_
  refine lv_aload_n hx hb dX7_begin_51 rfl (lv_at hl 4 rfl) ?_
  refine m_getN (host := RX7) (ci := 3) (C := RX3) (T := TX3) (n := 7) (v := .int b) hx hb hts inX3_ hown hK rfl (hM.cel (by have := ho; omega) h_46) 1 (by decide) 22 rfl rfl dX7_begin_52 ?_
  refine r_calli (va_runV (As := [.int (nI (on_ o)), .int (shO ((on_ o)) (fun j => nI (owd o j)) on_ owd ns so (bstV nd du on_ owd so oc ns (shw hv (owd o) ((on_ o))) ((on_ o)) (fun j => nI (owd o j)) (nI (oc o)) le)), .int b]) (rest := [.ref (adr (22 + 6 * o))]) ⟨hx, hb, hml, hown, hts⟩ (k_X7_costOf l D ac _ (adr 0) (.ref (adr 1)) (.ref (adr 3)) (.ref (adr 7)) (.ref (adr 14)) (.ref (adr 15)) (.ref (adr 16)) (.ref (adr 18)) (.ref (adr 20)) (.ref (adr 21)) (.int (nI no)) (.int le) (.int ra) pr (hM.cel (by omega) h_45) (nI (on_ o)) (shO ((on_ o)) (fun j => nI (owd o j)) on_ owd ns so (bstV nd du on_ owd so oc ns (shw hv (owd o) ((on_ o))) ((on_ o)) (fun j => nI (owd o j)) (nI (oc o)) le)) b) (cwV 3 hts gX7_begin_X7_costOf rfl rfl rfl (by decide +kernel) ⟨Nat.le_of_ble_eq_true rfl, Nat.le_of_ble_eq_true rfl⟩) (pV hK (ci := 7) rfl (hM.cel (by omega) h_45)) rfl rfl hl.1 rfl (lv_room (Nat.le_of_ble_eq_true rfl)) dX7_begin_55 ⟨Nat.le_of_ble_eq_true rfl, Nat.le_of_ble_eq_true rfl⟩) hS (fun rv_53 locs hrv_53 hS => ?_)
  subst hrv_53
  refine m_putN (host := RX7) (ci := 3) (C := RX3) (T := TX3) (n := 7) (v := .int (cstI (nI (on_ o)) pr (shO ((on_ o)) (fun j => nI (owd o j)) on_ owd ns so (bstV nd du on_ owd so oc ns (shw hv (owd o) ((on_ o))) ((on_ o)) (fun j => nI (owd o j)) (nI (oc o)) le)) b)) (ty := tyX3 5) hx hb hts inX3_ tyX3 tyX3_ok nmX3 hown hK hM hS rfl (22 + 6 * o) (by have := ho; omega) h_46 5 (by decide) 26 rfl rfl (by decide +kernel) rfl rfl (Nat.le_of_ble_eq_true rfl) dX7_begin_58 (fun H locs hM hS => ?_)
  have hM : MW D A N adr (va_up w_36 (22 + 6 * o) (.inr (3, [.int (nI o), .int b, .ref (adr (23 + 6 * o)), .int x3, .int (bstV nd du on_ owd so oc ns (shw hv (owd o) ((on_ o))) ((on_ o)) (fun j => nI (owd o j)) (nI (oc o)) le), .int (cstI (nI (on_ o)) pr (shO ((on_ o)) (fun j => nI (owd o j)) on_ owd ns so (bstV nd du on_ owd so oc ns (shw hv (owd o) ((on_ o))) ((on_ o)) (fun j => nI (owd o j)) (nI (oc o)) le)) b), .int x6]))) H := hM
  obtain ⟨w_54, ew_54⟩ : ∃ z9_, z9_ = va_up w_36 (22 + 6 * o) (.inr (3, [.int (nI o), .int b, .ref (adr (23 + 6 * o)), .int x3, .int (bstV nd du on_ owd so oc ns (shw hv (owd o) ((on_ o))) ((on_ o)) (fun j => nI (owd o j)) (nI (oc o)) le), .int (cstI (nI (on_ o)) pr (shO ((on_ o)) (fun j => nI (owd o j)) on_ owd ns so (bstV nd du on_ owd so oc ns (shw hv (owd o) ((on_ o))) ((on_ o)) (fun j => nI (owd o j)) (nI (oc o)) le)) b), .int x6])) := ⟨_, rfl⟩
  rw [← ew_54] at hM
  have h_55 : w_54 7 = .inr (2, [.ref (adr 8), .ref (adr 9), .ref (adr 10), .ref (adr 12), .int (nI ns)]) := by rw [ew_54, va_up_ne _ _ (by omega)]; exact h_38
  have h_56 : w_54 8 = .inl (ac 4, 40, .inr (.inr (.inr (.inr (sref adr ns so))))) := by rw [ew_54, va_up_ne _ _ (by omega)]; exact h_39
  have h_57 : w_54 9 = .inl (ac 1, 50, .inr (.inl hv)) := by rw [ew_54, va_up_ne _ _ (by omega)]; exact h_40
  have h_58 : w_54 10 = .inr (1, [.ref (adr 11), .int (nI nd)]) := by rw [ew_54, va_up_ne _ _ (by omega)]; exact h_41
  have h_59 : w_54 11 = .inl (ac 0, 60, .inl (fun j => nI (du j))) := by rw [ew_54, va_up_ne _ _ (by omega)]; exact h_42
  have h_60 : w_54 12 = .inr (0, [.ref (adr 13)]) := by rw [ew_54, va_up_ne _ _ (by omega)]; exact h_43
  have h_61 : w_54 13 = .inl (ac 0, 81, .inl T_37) := by rw [ew_54, va_up_ne _ _ (by omega)]; exact h_44
  have h_62 : w_54 0 = .inr (7, [.ref (adr 1), .ref (adr 3), .ref (adr 7), .ref (adr 14), .ref (adr 15), .ref (adr 16), .ref (adr 18), .ref (adr 20), .ref (adr 21), .int (nI no), .int le, .int pr, .int ra]) := by rw [ew_54, va_up_ne _ _ (by omega)]; exact h_45
  have h_63 : w_54 (22 + 6 * o) = .inr (3, [.int (nI o), .int b, .ref (adr (23 + 6 * o)), .int x3, .int (bstV nd du on_ owd so oc ns (shw hv (owd o) ((on_ o))) ((on_ o)) (fun j => nI (owd o j)) (nI (oc o)) le), .int (cstI (nI (on_ o)) pr (shO ((on_ o)) (fun j => nI (owd o j)) on_ owd ns so (bstV nd du on_ owd so oc ns (shw hv (owd o) ((on_ o))) ((on_ o)) (fun j => nI (owd o j)) (nI (oc o)) le)) b), .int x6]) := by rw [ew_54]; exact va_up_self _ _ _
  have h_64 : w_54 (23 + 6 * o) = .inr (6, [.int (nI (oc o)), .ref (adr (23 + 6 * o + 1)), .ref (adr (23 + 6 * o + 3))]) := by rw [ew_54, va_up_ne _ _ (by omega)]; exact h_47
  have h_65 : w_54 (23 + 6 * o + 1) = .inr (4, [.ref (adr (23 + 6 * o + 2)), .int (nI (on_ o))]) := by rw [ew_54, va_up_ne _ _ (by omega)]; exact h_48
  have h_66 : w_54 (23 + 6 * o + 2) = .inl (ac 0, 8, .inl (fun j => nI (owd o j))) := by rw [ew_54, va_up_ne _ _ (by omega)]; exact h_49
  have h_67 : w_54 (23 + 6 * o + 3) = .inr (4, [.ref (adr (23 + 6 * o + 4)), .int (nI (on_ o))]) := by rw [ew_54, va_up_ne _ _ (by omega)]; exact h_50
  have h_68 : w_54 (23 + 6 * o + 4) = .inl (ac 0, 8, .inl (obf o)) := by rw [ew_54, va_up_ne _ _ (by omega)]; exact h_51
  have h_69 : SenF ac adr w_54 no oc on_ owd obf := by rw [ew_54]; exact SenF.up (by omega) h_52
  refine lv_aload_n hx hb dX7_begin_61 rfl (lv_at hl 4 rfl) ?_
  refine lv_iload_n hx hb dX7_begin_62 rfl (lv_at hl 1 rfl) ?_
  refine lv_aload_n hx hb dX7_begin_63 rfl (lv_at hl 3 rfl) ?_
  refine m_get (ci := 7) (C := RX7) (T := TX7) (n := 13) (v := .int ra) hx hb hts inX7_ hown hK rfl (hM.cel (by omega) h_62) 12 (by decide) (hts _ (by decide +kernel)) rfl dX7_begin_64 ?_
  refine lv_imul hx hb dX7_begin_67 ?_
  refine lv_iload hx hb dX7_begin_68 (lv_at hl 0 rfl) ?_
  refine lv_imul hx hb dX7_begin_70 ?_
  refine lv_bipush (v := 100) hx hb dX7_begin_71 (by decide) ?_
  refine lv_idiv hx hb dX7_begin_73 (by decide) ?_
  refine m_putN (host := RX7) (ci := 3) (C := RX3) (T := TX3) (n := 7) (v := .int ((((nI (on_ o)) * ra) * (shO ((on_ o)) (fun j => nI (owd o j)) on_ owd ns so (bstV nd du on_ owd so oc ns (shw hv (owd o) ((on_ o))) ((on_ o)) (fun j => nI (owd o j)) (nI (oc o)) le))) / 100)) (ty := tyX3 6) hx hb hts inX3_ tyX3 tyX3_ok nmX3 hown hK hM hS rfl (22 + 6 * o) (by have := ho; omega) h_63 6 (by decide) 27 rfl rfl (by decide +kernel) rfl rfl (Nat.le_of_ble_eq_true rfl) dX7_begin_74 (fun H locs hM hS => ?_)
  have hM : MW D A N adr (va_up w_54 (22 + 6 * o) (.inr (3, [.int (nI o), .int b, .ref (adr (23 + 6 * o)), .int x3, .int (bstV nd du on_ owd so oc ns (shw hv (owd o) ((on_ o))) ((on_ o)) (fun j => nI (owd o j)) (nI (oc o)) le), .int (cstI (nI (on_ o)) pr (shO ((on_ o)) (fun j => nI (owd o j)) on_ owd ns so (bstV nd du on_ owd so oc ns (shw hv (owd o) ((on_ o))) ((on_ o)) (fun j => nI (owd o j)) (nI (oc o)) le)) b), .int ((((nI (on_ o)) * ra) * (shO ((on_ o)) (fun j => nI (owd o j)) on_ owd ns so (bstV nd du on_ owd so oc ns (shw hv (owd o) ((on_ o))) ((on_ o)) (fun j => nI (owd o j)) (nI (oc o)) le))) / 100)]))) H := hM
  obtain ⟨w_70, ew_70⟩ : ∃ z9_, z9_ = va_up w_54 (22 + 6 * o) (.inr (3, [.int (nI o), .int b, .ref (adr (23 + 6 * o)), .int x3, .int (bstV nd du on_ owd so oc ns (shw hv (owd o) ((on_ o))) ((on_ o)) (fun j => nI (owd o j)) (nI (oc o)) le), .int (cstI (nI (on_ o)) pr (shO ((on_ o)) (fun j => nI (owd o j)) on_ owd ns so (bstV nd du on_ owd so oc ns (shw hv (owd o) ((on_ o))) ((on_ o)) (fun j => nI (owd o j)) (nI (oc o)) le)) b), .int ((((nI (on_ o)) * ra) * (shO ((on_ o)) (fun j => nI (owd o j)) on_ owd ns so (bstV nd du on_ owd so oc ns (shw hv (owd o) ((on_ o))) ((on_ o)) (fun j => nI (owd o j)) (nI (oc o)) le))) / 100)])) := ⟨_, rfl⟩
  rw [← ew_70] at hM
  have h_71 : w_70 7 = .inr (2, [.ref (adr 8), .ref (adr 9), .ref (adr 10), .ref (adr 12), .int (nI ns)]) := by rw [ew_70, va_up_ne _ _ (by omega)]; exact h_55
  have h_72 : w_70 8 = .inl (ac 4, 40, .inr (.inr (.inr (.inr (sref adr ns so))))) := by rw [ew_70, va_up_ne _ _ (by omega)]; exact h_56
  have h_73 : w_70 9 = .inl (ac 1, 50, .inr (.inl hv)) := by rw [ew_70, va_up_ne _ _ (by omega)]; exact h_57
  have h_74 : w_70 10 = .inr (1, [.ref (adr 11), .int (nI nd)]) := by rw [ew_70, va_up_ne _ _ (by omega)]; exact h_58
  have h_75 : w_70 11 = .inl (ac 0, 60, .inl (fun j => nI (du j))) := by rw [ew_70, va_up_ne _ _ (by omega)]; exact h_59
  have h_76 : w_70 12 = .inr (0, [.ref (adr 13)]) := by rw [ew_70, va_up_ne _ _ (by omega)]; exact h_60
  have h_77 : w_70 13 = .inl (ac 0, 81, .inl T_37) := by rw [ew_70, va_up_ne _ _ (by omega)]; exact h_61
  have h_78 : w_70 0 = .inr (7, [.ref (adr 1), .ref (adr 3), .ref (adr 7), .ref (adr 14), .ref (adr 15), .ref (adr 16), .ref (adr 18), .ref (adr 20), .ref (adr 21), .int (nI no), .int le, .int pr, .int ra]) := by rw [ew_70, va_up_ne _ _ (by omega)]; exact h_62
  have h_79 : w_70 (22 + 6 * o) = .inr (3, [.int (nI o), .int b, .ref (adr (23 + 6 * o)), .int x3, .int (bstV nd du on_ owd so oc ns (shw hv (owd o) ((on_ o))) ((on_ o)) (fun j => nI (owd o j)) (nI (oc o)) le), .int (cstI (nI (on_ o)) pr (shO ((on_ o)) (fun j => nI (owd o j)) on_ owd ns so (bstV nd du on_ owd so oc ns (shw hv (owd o) ((on_ o))) ((on_ o)) (fun j => nI (owd o j)) (nI (oc o)) le)) b), .int ((((nI (on_ o)) * ra) * (shO ((on_ o)) (fun j => nI (owd o j)) on_ owd ns so (bstV nd du on_ owd so oc ns (shw hv (owd o) ((on_ o))) ((on_ o)) (fun j => nI (owd o j)) (nI (oc o)) le))) / 100)]) := by rw [ew_70]; exact va_up_self _ _ _
  have h_80 : w_70 (23 + 6 * o) = .inr (6, [.int (nI (oc o)), .ref (adr (23 + 6 * o + 1)), .ref (adr (23 + 6 * o + 3))]) := by rw [ew_70, va_up_ne _ _ (by omega)]; exact h_64
  have h_81 : w_70 (23 + 6 * o + 1) = .inr (4, [.ref (adr (23 + 6 * o + 2)), .int (nI (on_ o))]) := by rw [ew_70, va_up_ne _ _ (by omega)]; exact h_65
  have h_82 : w_70 (23 + 6 * o + 2) = .inl (ac 0, 8, .inl (fun j => nI (owd o j))) := by rw [ew_70, va_up_ne _ _ (by omega)]; exact h_66
  have h_83 : w_70 (23 + 6 * o + 3) = .inr (4, [.ref (adr (23 + 6 * o + 4)), .int (nI (on_ o))]) := by rw [ew_70, va_up_ne _ _ (by omega)]; exact h_67
  have h_84 : w_70 (23 + 6 * o + 4) = .inl (ac 0, 8, .inl (obf o)) := by rw [ew_70, va_up_ne _ _ (by omega)]; exact h_68
  have h_85 : SenF ac adr w_70 no oc on_ owd obf := by rw [ew_70]; exact SenF.up (by omega) h_69
  refine lv_aload_n hx hb dX7_begin_77 rfl (lv_at hl 3 rfl) ?_
  refine m_get (ci := 7) (C := RX7) (T := TX7) (n := 13) (v := .ref (adr 7)) hx hb hts inX7_ hown hK rfl (hM.cel (by omega) h_78) 2 (by decide) (hts _ (by decide +kernel)) rfl dX7_begin_78 ?_
  refine lv_aload_n hx hb dX7_begin_81 rfl (lv_at hl 2 rfl) ?_
  refine lv_aload_n hx hb dX7_begin_82 rfl (lv_at hl 4 rfl) ?_
  refine m_getN (host := RX7) (ci := 3) (C := RX3) (T := TX3) (n := 7) (v := .int (bstV nd du on_ owd so oc ns (shw hv (owd o) ((on_ o))) ((on_ o)) (fun j => nI (owd o j)) (nI (oc o)) le)) hx hb hts inX3_ hown hK rfl (hM.cel (by have := ho; omega) h_79) 4 (by decide) 25 rfl rfl dX7_begin_83 ?_
  refine w_callv (va_runV (As := [.ref (adr (23 + 6 * o)), .int (bstV nd du on_ owd so oc ns (shw hv (owd o) ((on_ o))) ((on_ o)) (fun j => nI (owd o j)) (nI (oc o)) le)]) (rest := []) ⟨hx, hb, hml, hown, hts⟩ (k_X2_lendTo l D ac _ A N adr w_70 hM no oc on_ owd obf ns so hv nd du T_37 (by omega) h_85 ⟨h_71, h_72, h_73, h_74, h_75, h_76, h_77, hm.2.2.2.2.2.2.2⟩ hso o ho_ hlo (bstV nd du on_ owd so oc ns (shw hv (owd o) ((on_ o))) ((on_ o)) (fun j => nI (owd o j)) (nI (oc o)) le)) (cwV 2 hts gX7_begin_X2_lendTo rfl rfl rfl (by decide +kernel) ⟨Nat.le_of_ble_eq_true rfl, Nat.le_of_ble_eq_true rfl⟩) (pV hK (ci := 2) rfl (hM.cel (by omega) h_71)) rfl rfl hl.1 rfl (lv_room (Nat.le_of_ble_eq_true rfl)) dX7_begin_86 ⟨Nat.le_of_ble_eq_true rfl, Nat.le_of_ble_eq_true rfl⟩) hS (fun w_87 H locs hw_87 hM hS => ?_)
  obtain ⟨T_88, hw_87⟩ := hw_87
  exact e_wv hx hb hlocks hr dX7_begin_89 hM hS (⟨_, by rw [hw_87, ew_70, ew_54, hw_36, ew_19, hw_2]; exact beg_end (by omega)⟩)
