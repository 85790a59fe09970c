set_option maxHeartbeats 4000000 in
set_option maxRecDepth 100000 in
/-- Row.has -/
theorem k_X4_has (l : Launch) (D : va_G) (ac : Nat → ClassId) (H : Heap) (a v n : Nat) (f : Nat → Int32) (h1 : Cel D H a (.inr (4, [.ref v, .int (nI n)]))) (h2 : Cel D H v (.inl (ac 0, 8, .inl f))) (hn : n ≤ 8) (x : Int32) : ROi l yX4_has wsX4_has ({ frames := 0, cells := 0, slots := 0, locals := 0 }) [.ref a, .int x] D ac H (fun r => r = if (ix x n).isSome then 1 else 0) := by
  refine Met.ofW (cc := cX4_has) (maxL := 2) (ret := (some .boolean)) (by decide) rfl ?_
  intro p e s m args below meth c s₁ B hml hv
  obtain ⟨hargs, hsz, hK⟩ := hv
  have hx := B.exec
  have hb := B.bytes
  have hr := B.returns
  have hts := atoms_spec (ws := wsX4_has) B.pre
  have hown : s.vm.findClass RX4 = some m.cls := findClass_of_methodNamed B.named
  have hlocks := B.notSynchronized
  subst hsz
  have inX4_ : ∀ w ∈ wsX40, w ∈ wsX4_has := by decide +kernel
  have hS : va_S (fun _ => False) s.heap s.heap [] := va_S.rf
  have hl := lv_entry ([.ref a, .int x]) (n := 2) (Nat.le_of_ble_eq_true rfl)
  have hen := lg_entry_eq m [.ref a, .int x] 2
  rw [← hargs] at hen
  rw [hen]
  generalize (lg_sl ([.ref a, .int x]) ++ List.replicate (2 - (lg_sl ([.ref a, .int x])).length) Slot.unset).toArray = ls at hl ⊢
  have hl : lv_has ls 2 [(0, .ref a), (1, .int x)] := hl
  refine lv_iload_n hx hb dX4_has_0 rfl (lv_at hl 1 rfl) ?_
  refine lv_if_lt (tgt := 25) hx hb dX4_has_1 (by decide) (fun c1 => ?_) (fun c1 => ?_)
  · refine lv_iconst (v := 0) hx hb dX4_has_25 (by decide) ?_
    exact e_z hx hb hlocks hr dX4_has_26 (by decide) hS (by simp [ix, *])
  · refine lv_iload_n hx hb dX4_has_4 rfl (lv_at hl 1 rfl) ?_
    refine lv_aload_n hx hb dX4_has_5 rfl (lv_at hl 0 rfl) ?_
    refine m_get (ci := 4) (C := RX4) (T := TX4) (n := 2) (v := .int (nI n)) hx hb hts inX4_ hown hK rfl h1 1 (by decide) (hts _ (by decide +kernel)) rfl dX4_has_6 ?_
    refine lv_icmp_ge (tgt := 25) hx hb dX4_has_9 (by decide) (fun c9 => ?_) (fun c9 => ?_)
    · refine lv_iconst (v := 0) hx hb dX4_has_25 (by decide) ?_
      exact e_z hx hb hlocks hr dX4_has_26 (by decide) hS (by simp [ix, *])
    · refine lv_iload_n hx hb dX4_has_12 rfl (lv_at hl 1 rfl) ?_
      refine lv_aload_n hx hb dX4_has_13 rfl (lv_at hl 0 rfl) ?_
      refine m_get (ci := 4) (C := RX4) (T := TX4) (n := 2) (v := .ref v) hx hb hts inX4_ hown hK rfl h1 0 (by decide) (hts _ (by decide +kernel)) rfl dX4_has_14 ?_
      refine m_alen (v := 8) (ty := _) hx hb hK 0 h2 rfl (by first | rfl | decide) dX4_has_17 ?_
      refine lv_icmp_ge (tgt := 25) hx hb dX4_has_18 (by decide) (fun c18 => ?_) (fun c18 => ?_)
      · exact (nle_dead c9 c18 hn (by decide)).elim
      · refine lv_iconst (v := 1) hx hb dX4_has_21 (by decide) ?_
        refine lv_goto (tgt := 26) hx hb dX4_has_22 (by decide) ?_
        exact e_z hx hb hlocks hr dX4_has_26 (by decide) hS (by simp [ix, *])
set_option maxHeartbeats 4000000 in
set_option maxRecDepth 100000 in
/-- Row.at -/
theorem k_X4_at (l : Launch) (D : va_G) (ac : Nat → ClassId) (H : Heap) (a v n : Nat) (f : Nat → Int32) (h1 : Cel D H a (.inr (4, [.ref v, .int (nI n)]))) (h2 : Cel D H v (.inl (ac 0, 8, .inl f))) (hn : n ≤ 8) (x : Int32) : ROi l yX4_at wsX4_at ({ frames := 0, cells := 0, slots := 0, locals := 0 }) [.ref a, .int x] D ac H (fun r => r = (ix x n).elim (-1) f) := by
  refine Met.ofW (cc := cX4_at) (maxL := 2) (ret := (some .int)) (by decide) rfl ?_
  intro p e s m args below meth c s₁ B hml hv
  obtain ⟨hargs, hsz, hK⟩ := hv
  have hx := B.exec
  have hb := B.bytes
  have hr := B.returns
  have hts := atoms_spec (ws := wsX4_at) B.pre
  have hown : s.vm.findClass RX4 = some m.cls := findClass_of_methodNamed B.named
  have hlocks := B.notSynchronized
  subst hsz
  have inX4_ : ∀ w ∈ wsX40, w ∈ wsX4_at := by decide +kernel
  have hS : va_S (fun _ => False) s.heap s.heap [] := va_S.rf
  have hl := lv_entry ([.ref a, .int x]) (n := 2) (Nat.le_of_ble_eq_true rfl)
  have hen := lg_entry_eq m [.ref a, .int x] 2
  rw [← hargs] at hen
  rw [hen]
  generalize (lg_sl ([.ref a, .int x]) ++ List.replicate (2 - (lg_sl ([.ref a, .int x])).length) Slot.unset).toArray = ls at hl ⊢
  have hl : lv_has ls 2 [(0, .ref a), (1, .int x)] := hl
  refine lv_iload_n hx hb dX4_at_0 rfl (lv_at hl 1 rfl) ?_
  refine lv_if_lt (tgt := 30) hx hb dX4_at_1 (by decide) (fun c1 => ?_) (fun c1 => ?_)
  · refine lv_iconst (v := (-1)) hx hb dX4_at_30 (by decide) ?_
    exact e_i hx hb hlocks hr dX4_at_31 hS (by simp [ix, *])
  · refine lv_iload_n hx hb dX4_at_4 rfl (lv_at hl 1 rfl) ?_
    refine lv_aload_n hx hb dX4_at_5 rfl (lv_at hl 0 rfl) ?_
    refine m_get (ci := 4) (C := RX4) (T := TX4) (n := 2) (v := .int (nI n)) hx hb hts inX4_ hown hK rfl h1 1 (by decide) (hts _ (by decide +kernel)) rfl dX4_at_6 ?_
    refine lv_icmp_ge (tgt := 30) hx hb dX4_at_9 (by decide) (fun c9 => ?_) (fun c9 => ?_)
    · refine lv_iconst (v := (-1)) hx hb dX4_at_30 (by decide) ?_
      exact e_i hx hb hlocks hr dX4_at_31 hS (by simp [ix, *])
    · refine lv_iload_n hx hb dX4_at_12 rfl (lv_at hl 1 rfl) ?_
      refine lv_aload_n hx hb dX4_at_13 rfl (lv_at hl 0 rfl) ?_
      refine m_get (ci := 4) (C := RX4) (T := TX4) (n := 2) (v := .ref v) hx hb hts inX4_ hown hK rfl h1 0 (by decide) (hts _ (by decide +kernel)) rfl dX4_at_14 ?_
      refine m_alen (v := 8) (ty := _) hx hb hK 0 h2 rfl (by first | rfl | decide) dX4_at_17 ?_
      refine lv_icmp_ge (tgt := 30) hx hb dX4_at_18 (by decide) (fun c18 => ?_) (fun c18 => ?_)
      · exact (nle_dead c9 c18 hn (by decide)).elim
      · refine lv_aload_n hx hb dX4_at_21 rfl (lv_at hl 0 rfl) ?_
        refine m_get (ci := 4) (C := RX4) (T := TX4) (n := 2) (v := .ref v) hx hb hts inX4_ hown hK rfl h1 0 (by decide) (hts _ (by decide +kernel)) rfl dX4_at_22 ?_
        refine lv_iload_n hx hb dX4_at_25 rfl (lv_at hl 1 rfl) ?_
        refine m_iald hx hb hK h2 (by first | exact vin_a (by assumption) (by assumption) (by decide) | exact vin_b (by assumption) (by assumption) (by decide)) dX4_at_26 ?_
        refine lv_goto (tgt := 31) hx hb dX4_at_27 (by decide) ?_
        exact e_i hx hb hlocks hr dX4_at_31 hS (by simp [ix, *])
set_option maxHeartbeats 4000000 in
set_option maxRecDepth 100000 in
/-- Row.put, at a place that is there -/
theorem k_X4_put (l : Launch) (D : va_G) (ac : Nat → ClassId) (H : Heap) (A : Nat → Prop) (N : Nat) (adr : Nat → Nat) (w : Nat → va_E) (hM : MW D A N adr w H) (a v n : Nat) (f : Nat → Int32) (ha : a < N) (hv1 : v < N) (hav : a ≠ v) (h1 : w a = .inr (4, [.ref (adr v), .int (nI n)])) (h2 : w v = .inl (ac 0, 8, .inl f)) (hn : n ≤ 8) (k : Nat) (hk : k < n) (y : Int32) : WRv l yX4_put wsX4_put ({ frames := 1, cells := 0, slots := 0, locals := 21 }) [.ref (adr a), .int (nI k), .int y] D ac H A N adr (fun w1 => w1 = va_up w v (.inl (ac 0, 8, .inl (upd f k y)))) := by
  refine Met.ofW (cc := cX4_put) (maxL := 3) (ret := none) (by decide) rfl ?_
  intro p e s m args below meth c s₁ B hml hv
  obtain ⟨hargs, hsz, hK⟩ := hv
  have hx := B.exec
  have hb := B.bytes
  have hr := B.returns
  have hts := atoms_spec (ws := wsX4_put) B.pre
  have hown : s.vm.findClass RX4 = some m.cls := findClass_of_methodNamed B.named
  have hlocks := B.notSynchronized
  subst hsz
  have inX4_ : ∀ w ∈ wsX40, w ∈ wsX4_put := by decide +kernel
  have hS : va_S A s.heap s.heap [] := va_S.rf
  have hl := lv_entry ([.ref (adr a), .int (nI k), .int y]) (n := 3) (Nat.le_of_ble_eq_true rfl)
  have hen := lg_entry_eq m [.ref (adr a), .int (nI k), .int y] 3
  rw [← hargs] at hen
  rw [hen]
  generalize (lg_sl ([.ref (adr a), .int (nI k), .int y]) ++ List.replicate (3 - (lg_sl ([.ref (adr a), .int (nI k), .int y])).length) Slot.unset).toArray = ls at hl ⊢
  have hl : lv_has ls 3 [(0, .ref (adr a)), (1, .int (nI k)), (2, .int y)] := hl
  refine lv_aload_n hx hb dX4_put_0 rfl (lv_at hl 0 rfl) ?_
  refine lv_iload_n hx hb dX4_put_1 rfl (lv_at hl 1 rfl) ?_
  refine r_calli (va_runV (As := [.int (nI k)]) (rest := []) ⟨hx, hb, hml, hown, hts⟩ (k_X4_has l D ac _ (adr a) (adr v) n f (hM.cel ha h1) (hM.cel hv1 h2) (by omega) (nI k)) (cwV 1 hts gX4_put_X4_has rfl rfl rfl (by decide +kernel) ⟨Nat.le_of_ble_eq_true rfl, Nat.le_of_ble_eq_true rfl⟩) (pV hK (ci := 4) rfl (hM.cel ha h1)) rfl rfl hl.1 rfl (lv_room (Nat.le_of_ble_eq_true rfl)) dX4_put_2 ⟨Nat.le_of_ble_eq_true rfl, Nat.le_of_ble_eq_true rfl⟩) hS (fun rv_1 locs hrv_1 hS => ?_)
  subst hrv_1
  rcases hi : ix (nI k) n with _ | jhi
  · exact absurd (ix_nI hk (by omega)) (by rw [hi]; exact fun h => nomatch h)
  · refine m_top (show _ = (1 : Int32) from rfl) ?_
    refine lv_if_eq (tgt := 15) hx hb dX4_put_5 (by decide) (fun c5 => ?_) (fun c5 => ?_)
    · exact absurd c5 (by decide)
    · refine lv_aload_n hx hb dX4_put_8 rfl (lv_at hl 0 rfl) ?_
      refine m_get (ci := 4) (C := RX4) (T := TX4) (n := 2) (v := .ref (adr v)) hx hb hts inX4_ hown hK rfl (hM.cel ha h1) 0 (by decide) (hts _ (by decide +kernel)) rfl dX4_put_9 ?_
      refine lv_iload_n hx hb dX4_put_12 rfl (lv_at hl 1 rfl) ?_
      refine lv_iload_n hx hb dX4_put_13 rfl (lv_at hl 2 rfl) ?_
      refine m_iast hx hb hK hM hS v hv1 h2 (vp_in_nI (by omega) (by decide)) dX4_put_14 (fun H locs hM hS => ?_)
      have ef_ : (upd f (nI k).toNatClampNeg y) = upd f k y := by rw [nI_clamp (by omega)]
      rw [ef_] at hM
      clear ef_
      obtain ⟨w_3, ew_3⟩ : ∃ z, z = va_up w v (.inl (ac 0, 8, .inl (upd f k y))) := ⟨_, rfl⟩
      rw [← ew_3] at hM
      have h_4 : w_3 a = .inr (4, [.ref (adr v), .int (nI n)]) := by rw [ew_3, va_up_ne _ _ hav]; exact h1
      have h_5 : w_3 v = .inl (ac 0, 8, .inl (upd f k y)) := by rw [ew_3]; exact va_up_self _ _ _
      exact e_wv hx hb hlocks hr dX4_put_15 hM hS (by subst_vars; rfl)
set_option maxHeartbeats 4000000 in
set_option maxRecDepth 100000 in
/-- Row.append -/
theorem k_X4_append (l : Launch) (D : va_G) (ac : Nat → ClassId) (H : Heap) (A : Nat → Prop) (N : Nat) (adr : Nat → Nat) (w : Nat → va_E) (hM : MW D A N adr w H) (a v n : Nat) (f : Nat → Int32) (ha : a < N) (hv1 : v < N) (hav : a ≠ v) (h1 : w a = .inr (4, [.ref (adr v), .int (nI n)])) (h2 : w v = .inl (ac 0, 8, .inl f)) (hn : n < 8) (x : Int32) : WRv l yX4_append wsX4_append ({ frames := 0, cells := 0, slots := 0, locals := 0 }) [.ref (adr a), .int x] D ac H A N adr (fun w1 => w1 = va_up (va_up w v (.inl (ac 0, 8, .inl (upd f n x)))) a (.inr (4, [.ref (adr v), .int (nI (n + 1))]))) := by
  refine Met.ofW (cc := cX4_append) (maxL := 3) (ret := none) (by decide) rfl ?_
  intro p e s m args below meth c s₁ B hml hv
  obtain ⟨hargs, hsz, hK⟩ := hv
  have hx := B.exec
  have hb := B.bytes
  have hr := B.returns
  have hts := atoms_spec (ws := wsX4_append) B.pre
  have hown : s.vm.findClass RX4 = some m.cls := findClass_of_methodNamed B.named
  have hlocks := B.notSynchronized
  subst hsz
  have inX4_ : ∀ w ∈ wsX40, w ∈ wsX4_append := by decide +kernel
  have hS : va_S A s.heap s.heap [] := va_S.rf
  have hl := lv_entry ([.ref (adr a), .int x]) (n := 3) (Nat.le_of_ble_eq_true rfl)
  have hen := lg_entry_eq m [.ref (adr a), .int x] 3
  rw [← hargs] at hen
  rw [hen]
  generalize (lg_sl ([.ref (adr a), .int x]) ++ List.replicate (3 - (lg_sl ([.ref (adr a), .int x])).length) Slot.unset).toArray = ls at hl ⊢
  have hl : lv_has ls 3 [(0, .ref (adr a)), (1, .int x)] := hl
  refine lv_aload_n hx hb dX4_append_0 rfl (lv_at hl 0 rfl) ?_
  refine m_get (ci := 4) (C := RX4) (T := TX4) (n := 2) (v := .int (nI n)) hx hb hts inX4_ hown hK rfl (hM.cel ha h1) 1 (by decide) (hts _ (by decide +kernel)) rfl dX4_append_1 ?_
  refine lv_istore_n (lv' := [(2, .int (nI n)), (0, .ref (adr a)), (1, .int x)]) hx hb dX4_append_4 rfl hl (by decide) rfl (fun ls hl => ?_)
  refine lv_iload_n hx hb dX4_append_5 rfl (lv_at hl 0 rfl) ?_
  refine lv_if_lt (tgt := 32) hx hb dX4_append_6 (by decide) (fun c6 => ?_) (fun c6 => ?_)
  · exact absurd c6 (nI_pos (by omega))
  · refine lv_iload_n hx hb dX4_append_9 rfl (lv_at hl 0 rfl) ?_
    refine lv_aload_n hx hb dX4_append_10 rfl (lv_at hl 1 rfl) ?_
    refine m_get (ci := 4) (C := RX4) (T := TX4) (n := 2) (v := .ref (adr v)) hx hb hts inX4_ hown hK rfl (hM.cel ha h1) 0 (by decide) (hts _ (by decide +kernel)) rfl dX4_append_11 ?_
    refine m_alen (v := 8) (ty := _) hx hb hK 0 (hM.cel hv1 h2) rfl (by first | rfl | decide) dX4_append_14 ?_
    refine lv_icmp_ge (tgt := 32) hx hb dX4_append_15 (by decide) (fun c15 => ?_) (fun c15 => ?_)
    · exact absurd (le_le (a := 8) (b := n) c15 (by omega) (by omega)) (by omega)
    · refine lv_aload_n hx hb dX4_append_18 rfl (lv_at hl 1 rfl) ?_
      refine m_get (ci := 4) (C := RX4) (T := TX4) (n := 2) (v := .ref (adr v)) hx hb hts inX4_ hown hK rfl (hM.cel ha h1) 0 (by decide) (hts _ (by decide +kernel)) rfl dX4_append_19 ?_
      refine lv_iload_n hx hb dX4_append_22 rfl (lv_at hl 0 rfl) ?_
      refine lv_iload_n hx hb dX4_append_23 rfl (lv_at hl 2 rfl) ?_
      refine m_iast hx hb hK hM hS v hv1 h2 (vp_in_nI (by omega) (by decide)) dX4_append_24 (fun H locs hM hS => ?_)
      have ef_ : (upd f (nI n).toNatClampNeg x) = upd f n x := by rw [nI_clamp (by omega)]
      rw [ef_] at hM
      clear ef_
      obtain ⟨w_2, ew_2⟩ : ∃ z, z = va_up w v (.inl (ac 0, 8, .inl (upd f n x))) := ⟨_, rfl⟩
      rw [← ew_2] at hM
      have h_3 : w_2 a = .inr (4, [.ref (adr v), .int (nI n)]) := by rw [ew_2, va_up_ne _ _ hav]; exact h1
      have h_4 : w_2 v = .inl (ac 0, 8, .inl (upd f n x)) := by rw [ew_2]; exact va_up_self _ _ _
      refine lv_aload_n hx hb dX4_append_25 rfl (lv_at hl 1 rfl) ?_
      refine lv_iload_n hx hb dX4_append_26 rfl (lv_at hl 0 rfl) ?_
      refine lv_iconst (v := 1) hx hb dX4_append_27 (by decide) ?_
      refine lv_iadd hx hb dX4_append_28 ?_
      refine m_top (show ((nI n) + 1) = nI (n + 1) from nI_1 n) ?_
      refine m_put (ci := 4) (C := RX4) (T := TX4) (n := 2) (v := .int (nI (n + 1))) (ty := tyX4 1) hx hb hts inX4_ tyX4 tyX4_ok nmX4 hown hK hM hS rfl a ha h_3 1 (by decide) (hts _ (by decide +kernel)) rfl (by decide +kernel) rfl rfl (Nat.le_of_ble_eq_true rfl) dX4_append_29 (fun H locs hM hS => ?_)
      have hM : MW D A N adr (va_up w_2 a (.inr (4, [.ref (adr v), .int (nI (n + 1))]))) H := hM
      obtain ⟨w_5, ew_5⟩ : ∃ z, z = va_up w_2 a (.inr (4, [.ref (adr v), .int (nI (n + 1))])) := ⟨_, rfl⟩
      rw [← ew_5] at hM
      have h_6 : w_5 a = .inr (4, [.ref (adr v), .int (nI (n + 1))]) := by rw [ew_5]; exact va_up_self _ _ _
      have h_7 : w_5 v = .inl (ac 0, 8, .inl (upd f n x)) := by rw [ew_5, va_up_ne _ _ (Ne.symm hav)]; exact h_4
      exact e_wv hx hb hlocks hr dX4_append_32 hM hS (by subst_vars; rfl)
