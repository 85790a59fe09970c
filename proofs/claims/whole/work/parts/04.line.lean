set_option maxHeartbeats 4000000 in
set_option maxRecDepth 100000 in
/-- Line.hasPlace -/
theorem k_X1_hasPlace (l : Launch) (D : va_G) (ac : Nat → ClassId) (H : Heap) (a v n : Nat) (f : Nat → Int32) (h1 : Cel D H a (.inr (1, [.ref v, .int (nI n)]))) (h2 : Cel D H v (.inl (ac 0, 60, .inl f))) (hn : n ≤ 60) (x : Int32) : ROi l yX1_hasPlace wsX1_hasPlace ({ frames := 0, cells := 0, slots := 0, locals := 0 }) [.ref a, .int x] D ac H (fun r => r = if (ix x n).isSome then 1 else 0) := by
  refine Met.ofW (cc := cX1_hasPlace) (maxL := 2) (ret := (some .boolean)) (by decide) rfl ?_
  intro p e s m args below meth c s₁ B hml hv
  obtain ⟨hargs, hsz, hK⟩ := hv
  have hx := B.exec
  have hb := B.bytes
  have hr := B.returns
  have hts := atoms_spec (ws := wsX1_hasPlace) B.pre
  have hown : s.vm.findClass RX1 = some m.cls := findClass_of_methodNamed B.named
  have hlocks := B.notSynchronized
  subst hsz
  have inX1_ : ∀ w ∈ wsX10, w ∈ wsX1_hasPlace := by decide +kernel
  have hS : va_S (fun _ => False) s.heap s.heap [] := va_S.rf
  have hl := lv_entry ([.ref a, .int x]) (n := 2) (Nat.le_of_ble_eq_true rfl)
  have hen := lg_entry_eq m [.ref a, .int x] 2
  rw [← hargs] at hen
  rw [hen]
  generalize (lg_sl ([.ref a, .int x]) ++ List.replicate (2 - (lg_sl ([.ref a, .int x])).length) Slot.unset).toArray = ls at hl ⊢
  have hl : lv_has ls 2 [(0, .ref a), (1, .int x)] := hl
  refine lv_iload_n hx hb dX1_hasPlace_0 rfl (lv_at hl 1 rfl) ?_
  refine lv_if_lt (tgt := 25) hx hb dX1_hasPlace_1 (by decide) (fun c1 => ?_) (fun c1 => ?_)
  · refine lv_iconst (v := 0) hx hb dX1_hasPlace_25 (by decide) ?_
    exact e_z hx hb hlocks hr dX1_hasPlace_26 (by decide) hS (by simp [ix, *])
  · refine lv_iload_n hx hb dX1_hasPlace_4 rfl (lv_at hl 1 rfl) ?_
    refine lv_aload_n hx hb dX1_hasPlace_5 rfl (lv_at hl 0 rfl) ?_
    refine m_get (ci := 1) (C := RX1) (T := TX1) (n := 2) (v := .int (nI n)) hx hb hts inX1_ hown hK rfl h1 1 (by decide) (hts _ (by decide +kernel)) rfl dX1_hasPlace_6 ?_
    refine lv_icmp_ge (tgt := 25) hx hb dX1_hasPlace_9 (by decide) (fun c9 => ?_) (fun c9 => ?_)
    · refine lv_iconst (v := 0) hx hb dX1_hasPlace_25 (by decide) ?_
      exact e_z hx hb hlocks hr dX1_hasPlace_26 (by decide) hS (by simp [ix, *])
    · refine lv_iload_n hx hb dX1_hasPlace_12 rfl (lv_at hl 1 rfl) ?_
      refine lv_aload_n hx hb dX1_hasPlace_13 rfl (lv_at hl 0 rfl) ?_
      refine m_get (ci := 1) (C := RX1) (T := TX1) (n := 2) (v := .ref v) hx hb hts inX1_ hown hK rfl h1 0 (by decide) (hts _ (by decide +kernel)) rfl dX1_hasPlace_14 ?_
      refine m_alen (v := 60) (ty := _) hx hb hK 0 h2 rfl (by first | rfl | decide) dX1_hasPlace_17 ?_
      refine lv_icmp_ge (tgt := 25) hx hb dX1_hasPlace_18 (by decide) (fun c18 => ?_) (fun c18 => ?_)
      · exact (nle_dead c9 c18 hn (by decide)).elim
      · refine lv_iconst (v := 1) hx hb dX1_hasPlace_21 (by decide) ?_
        refine lv_goto (tgt := 26) hx hb dX1_hasPlace_22 (by decide) ?_
        exact e_z hx hb hlocks hr dX1_hasPlace_26 (by decide) hS (by simp [ix, *])
set_option maxHeartbeats 4000000 in
set_option maxRecDepth 100000 in
/-- Line.at -/
theorem k_X1_at (l : Launch) (D : va_G) (ac : Nat → ClassId) (H : Heap) (a v n : Nat) (f : Nat → Int32) (h1 : Cel D H a (.inr (1, [.ref v, .int (nI n)]))) (h2 : Cel D H v (.inl (ac 0, 60, .inl f))) (hn : n ≤ 60) (x : Int32) : ROi l yX1_at wsX1_at ({ frames := 1, cells := 0, slots := 0, locals := 21 }) [.ref a, .int x] D ac H (fun r => r = (ix x n).elim (-1) f) := by
  refine Met.ofW (cc := cX1_at) (maxL := 2) (ret := (some .int)) (by decide) rfl ?_
  intro p e s m args below meth c s₁ B hml hv
  obtain ⟨hargs, hsz, hK⟩ := hv
  have hx := B.exec
  have hb := B.bytes
  have hr := B.returns
  have hts := atoms_spec (ws := wsX1_at) B.pre
  have hown : s.vm.findClass RX1 = some m.cls := findClass_of_methodNamed B.named
  have hlocks := B.notSynchronized
  subst hsz
  have inX1_ : ∀ w ∈ wsX10, w ∈ wsX1_at := by decide +kernel
  have hS : va_S (fun _ => False) s.heap s.heap [] := va_S.rf
  have hl := lv_entry ([.ref a, .int x]) (n := 2) (Nat.le_of_ble_eq_true rfl)
  have hen := lg_entry_eq m [.ref a, .int x] 2
  rw [← hargs] at hen
  rw [hen]
  generalize (lg_sl ([.ref a, .int x]) ++ List.replicate (2 - (lg_sl ([.ref a, .int x])).length) Slot.unset).toArray = ls at hl ⊢
  have hl : lv_has ls 2 [(0, .ref a), (1, .int x)] := hl
  refine lv_aload_n hx hb dX1_at_0 rfl (lv_at hl 0 rfl) ?_
  refine lv_iload_n hx hb dX1_at_1 rfl (lv_at hl 1 rfl) ?_
  refine r_calli (va_runV (As := [.int x]) (rest := []) ⟨hx, hb, hml, hown, hts⟩ (k_X1_hasPlace l D ac _ a v n f h1 h2 (by omega) x) (cwV 1 hts gX1_at_X1_hasPlace rfl rfl rfl (by decide +kernel) ⟨Nat.le_of_ble_eq_true rfl, Nat.le_of_ble_eq_true rfl⟩) (pV hK (ci := 1) rfl h1) rfl rfl hl.1 rfl (lv_room (Nat.le_of_ble_eq_true rfl)) dX1_at_2 ⟨Nat.le_of_ble_eq_true rfl, Nat.le_of_ble_eq_true rfl⟩) hS (fun rv_1 locs hrv_1 hS => ?_)
  subst hrv_1
  rcases hi : ix x n with _ | jhi
  · refine m_top (show _ = (0 : Int32) from rfl) ?_
    refine lv_if_eq (tgt := 17) hx hb dX1_at_5 (by decide) (fun c5 => ?_) (fun c5 => ?_)
    · refine lv_iconst (v := (-1)) hx hb dX1_at_17 (by decide) ?_
      exact e_i hx hb hlocks hr dX1_at_18 hS (by first | rfl | (rw [he_, nI_clamp (by omega)]; rfl))
    · exact absurd c5 (by decide)
  · obtain ⟨hl_, he_⟩ := ix_of hi (by omega)
    refine m_top (show _ = (1 : Int32) from rfl) ?_
    refine lv_if_eq (tgt := 17) hx hb dX1_at_5 (by decide) (fun c5 => ?_) (fun c5 => ?_)
    · exact absurd c5 (by decide)
    · refine lv_aload_n hx hb dX1_at_8 rfl (lv_at hl 0 rfl) ?_
      refine m_get (ci := 1) (C := RX1) (T := TX1) (n := 2) (v := .ref v) hx hb hts inX1_ hown hK rfl h1 0 (by decide) (hts _ (by decide +kernel)) rfl dX1_at_9 ?_
      refine lv_iload_n hx hb dX1_at_12 rfl (lv_at hl 1 rfl) ?_
      refine m_iald hx hb hK h2 (by rw [he_]; exact vp_in_nI (by omega) (by decide)) dX1_at_13 ?_
      refine m_top (show (f x.toNatClampNeg) = f jhi from by rw [he_, nI_clamp (by omega)]) ?_
      refine lv_goto (tgt := 18) hx hb dX1_at_14 (by decide) ?_
      exact e_i hx hb hlocks hr dX1_at_18 hS (by first | rfl | (rw [he_, nI_clamp (by omega)]; rfl))
def HoP (n : Nat) (f : Nat → Int32) (x r : Int32) : Prop := (r = 1 ∧ ∃ j, j < n ∧ f j = x) ∨ (r = 0 ∧ ∀ j, j < n → f j ≠ x)
set_option maxHeartbeats 4000000 in
set_option maxRecDepth 100000 in
/-- Line.holds -/
theorem k_X1_holds (l : Launch) (D : va_G) (ac : Nat → ClassId) (H : Heap) (a v n : Nat) (f : Nat → Int32) (h1 : Cel D H a (.inr (1, [.ref v, .int (nI n)]))) (h2 : Cel D H v (.inl (ac 0, 60, .inl f))) (hn : n ≤ 60) (x : Int32) : ROi l yX1_holds wsX1_holds ({ frames := 2, cells := 0, slots := 0, locals := 42 }) [.ref a, .int x] D ac H (HoP n f x) := by
  refine Met.ofW (cc := cX1_holds) (maxL := 3) (ret := (some .boolean)) (by decide) rfl ?_
  intro p e s m args below meth c s₁ B hml hv
  obtain ⟨hargs, hsz, hK⟩ := hv
  have hx := B.exec
  have hb := B.bytes
  have hr := B.returns
  have hts := atoms_spec (ws := wsX1_holds) B.pre
  have hown : s.vm.findClass RX1 = some m.cls := findClass_of_methodNamed B.named
  have hlocks := B.notSynchronized
  subst hsz
  have inX1_ : ∀ w ∈ wsX10, w ∈ wsX1_holds := by decide +kernel
  have hS : va_S (fun _ => False) s.heap s.heap [] := va_S.rf
  have hl := lv_entry ([.ref a, .int x]) (n := 3) (Nat.le_of_ble_eq_true rfl)
  have hen := lg_entry_eq m [.ref a, .int x] 3
  rw [← hargs] at hen
  rw [hen]
  generalize (lg_sl ([.ref a, .int x]) ++ List.replicate (3 - (lg_sl ([.ref a, .int x])).length) Slot.unset).toArray = ls at hl ⊢
  have hl : lv_has ls 3 [(0, .ref a), (1, .int x)] := hl
  obtain ⟨Q0, hQ0⟩ : ∃ z, z = MQ below (va_Qi (fun r (_ : Unit) => (HoP n f x) r) (fun _ t => t.heap = s.heap) (fun _ => False)) args s 0 0 (fun _ => False) := ⟨_, rfl⟩
  rw [← hQ0]
  refine lv_iconst (v := 0) hx hb dX1_holds_0 (by decide) ?_
  refine lv_istore_n (lv' := [(2, .int 0), (0, .ref a), (1, .int x)]) hx hb dX1_holds_1 rfl hl (by decide) rfl (fun ls hl => ?_)
  have L2 : ∀ (k9 : Nat) (i : Nat) (hk : n - i < k9) (hi : i ≤ n) (hall : ∀ j, j < i → f j ≠ x) (locs : List Loc) (hS : va_S (fun _ => False) s.heap s.heap locs) (ls : Array Slot) (hl : lv_has ls 3 [(0, .ref a), (1, .int x), (2, .int (nI i))]), W p l e (headSpec wsX1_holds ({ frames := 2, cells := 0, slots := 0, locals := 42 })).room s m args below meth c s.heap locs 0 0 Q0 (F0 m 2 ls []) := by
    intro k9
    induction k9 with
    | zero => intro i hk hi hall locs hS ls hl; exact absurd hk (Nat.not_lt_zero _)
    | succ k9 ih2 =>
      intro i hk hi hall locs hS ls hl
      refine lv_iload_n hx hb dX1_holds_2 rfl (lv_at hl 2 rfl) ?_
      refine lv_aload_n hx hb dX1_holds_3 rfl (lv_at hl 0 rfl) ?_
      refine m_get (ci := 1) (C := RX1) (T := TX1) (n := 2) (v := .int (nI n)) hx hb hts inX1_ hown hK rfl h1 1 (by decide) (hts _ (by decide +kernel)) rfl dX1_holds_4 ?_
      refine lv_icmp_ge (tgt := 27) hx hb dX1_holds_7 (by decide) (fun c7 => ?_) (fun c7 => ?_)
      · refine lv_iconst (v := 0) hx hb dX1_holds_27 (by decide) ?_
        rw [hQ0]
        exact e_z hx hb hlocks hr dX1_holds_28 (by decide) hS (Or.inr ⟨rfl, fun j hj => hall j (by have := le_le c7 (by omega) (by omega); omega)⟩)
      · have hin : i < n := nle_lt c7 (by omega) (by omega)
        refine lv_aload_n hx hb dX1_holds_10 rfl (lv_at hl 0 rfl) ?_
        refine lv_iload_n hx hb dX1_holds_11 rfl (lv_at hl 2 rfl) ?_
        refine r_calli (va_runV (As := [.int (nI i)]) (rest := []) ⟨hx, hb, hml, hown, hts⟩ (k_X1_at l D ac _ a v n f h1 h2 (by omega) (nI i)) (cwV 1 hts gX1_holds_X1_at rfl rfl rfl (by decide +kernel) ⟨Nat.le_of_ble_eq_true rfl, Nat.le_of_ble_eq_true rfl⟩) (pV hK (ci := 1) rfl h1) rfl rfl hl.1 rfl (lv_room (Nat.le_of_ble_eq_true rfl)) dX1_holds_12 ⟨Nat.le_of_ble_eq_true rfl, Nat.le_of_ble_eq_true rfl⟩) hS (fun rv_1 locs hrv_1 hS => ?_)
        subst hrv_1
        refine m_top (show ((ix (nI i) n).elim (-1) f) = f i from by rw [ix_nI hin (by omega)]; rfl) ?_
        refine lv_iload_n hx hb dX1_holds_15 rfl (lv_at hl 1 rfl) ?_
        refine lv_icmp_ne (tgt := 21) hx hb dX1_holds_16 (by decide) (fun c16 => ?_) (fun c16 => ?_)
        · refine lv_iinc (v := nI (i + 1)) (lv' := [(2, .int (nI (i + 1))), (0, .ref a), (1, .int x)]) hx hb dX1_holds_21 hl (k := 2) rfl (nI_1 _) (by decide) rfl (fun ls hl => ?_)
          refine lv_goto (tgt := 2) hx hb dX1_holds_24 (by decide) ?_
          exact ih2 (i + 1) (by omega) (by omega) (fun j hj => by rcases Nat.lt_succ_iff_lt_or_eq.mp hj with q | q; exact hall j q; rw [q]; exact c16) _ hS ls (lv_sub hl [1, 2, 0] rfl)
        · refine lv_iconst (v := 1) hx hb dX1_holds_19 (by decide) ?_
          rw [hQ0]
          exact e_z hx hb hlocks hr dX1_holds_20 (by decide) hS (Or.inl ⟨rfl, i, hin, by simpa using c16⟩)
  exact L2 _ 0 (Nat.lt_succ_self _) (Nat.zero_le _) (fun j h => absurd h (Nat.not_lt_zero j)) _ hS ls (lv_sub hl [1, 2, 0] rfl)
set_option maxHeartbeats 4000000 in
set_option maxRecDepth 100000 in
/-- Line.addLast -/
theorem k_X1_addLast (l : Launch) (D : va_G) (ac : Nat → ClassId) (H : Heap) (A : Nat → Prop) (N : Nat) (adr : Nat → Nat) (w : Nat → va_E) (hM : MW D A N adr w H) (a v n : Nat) (f : Nat → Int32) (ha : a < N) (hv1 : v < N) (hav : a ≠ v) (h1 : w a = .inr (1, [.ref (adr v), .int (nI n)])) (h2 : w v = .inl (ac 0, 60, .inl f)) (hn : n < 60) (x : Int32) : WRv l yX1_addLast wsX1_addLast ({ frames := 0, cells := 0, slots := 0, locals := 0 }) [.ref (adr a), .int x] D ac H A N adr (fun w1 => w1 = va_up (va_up w v (.inl (ac 0, 60, .inl (upd f n x)))) a (.inr (1, [.ref (adr v), .int (nI (n + 1))]))) := by
  refine Met.ofW (cc := cX1_addLast) (maxL := 3) (ret := none) (by decide) rfl ?_
  intro p e s m args below meth c s₁ B hml hv
  obtain ⟨hargs, hsz, hK⟩ := hv
  have hx := B.exec
  have hb := B.bytes
  have hr := B.returns
  have hts := atoms_spec (ws := wsX1_addLast) B.pre
  have hown : s.vm.findClass RX1 = some m.cls := findClass_of_methodNamed B.named
  have hlocks := B.notSynchronized
  subst hsz
  have inX1_ : ∀ w ∈ wsX10, w ∈ wsX1_addLast := by decide +kernel
  have hS : va_S A s.heap s.heap [] := va_S.rf
  have hl := lv_entry ([.ref (adr a), .int x]) (n := 3) (Nat.le_of_ble_eq_true rfl)
  have hen := lg_entry_eq m [.ref (adr a), .int x] 3
  rw [← hargs] at hen
  rw [hen]
  generalize (lg_sl ([.ref (adr a), .int x]) ++ List.replicate (3 - (lg_sl ([.ref (adr a), .int x])).length) Slot.unset).toArray = ls at hl ⊢
  have hl : lv_has ls 3 [(0, .ref (adr a)), (1, .int x)] := hl
  refine lv_aload_n hx hb dX1_addLast_0 rfl (lv_at hl 0 rfl) ?_
  refine m_get (ci := 1) (C := RX1) (T := TX1) (n := 2) (v := .int (nI n)) hx hb hts inX1_ hown hK rfl (hM.cel ha h1) 1 (by decide) (hts _ (by decide +kernel)) rfl dX1_addLast_1 ?_
  refine lv_istore_n (lv' := [(2, .int (nI n)), (0, .ref (adr a)), (1, .int x)]) hx hb dX1_addLast_4 rfl hl (by decide) rfl (fun ls hl => ?_)
  refine lv_iload_n hx hb dX1_addLast_5 rfl (lv_at hl 0 rfl) ?_
  refine lv_if_lt (tgt := 32) hx hb dX1_addLast_6 (by decide) (fun c6 => ?_) (fun c6 => ?_)
  · exact absurd c6 (nI_pos (by omega))
  · refine lv_iload_n hx hb dX1_addLast_9 rfl (lv_at hl 0 rfl) ?_
    refine lv_aload_n hx hb dX1_addLast_10 rfl (lv_at hl 1 rfl) ?_
    refine m_get (ci := 1) (C := RX1) (T := TX1) (n := 2) (v := .ref (adr v)) hx hb hts inX1_ hown hK rfl (hM.cel ha h1) 0 (by decide) (hts _ (by decide +kernel)) rfl dX1_addLast_11 ?_
    refine m_alen (v := 60) (ty := _) hx hb hK 0 (hM.cel hv1 h2) rfl (by first | rfl | decide) dX1_addLast_14 ?_
    refine lv_icmp_ge (tgt := 32) hx hb dX1_addLast_15 (by decide) (fun c15 => ?_) (fun c15 => ?_)
    · exact absurd (le_le (a := 60) (b := n) c15 (by omega) (by omega)) (by omega)
    · refine lv_aload_n hx hb dX1_addLast_18 rfl (lv_at hl 1 rfl) ?_
      refine m_get (ci := 1) (C := RX1) (T := TX1) (n := 2) (v := .ref (adr v)) hx hb hts inX1_ hown hK rfl (hM.cel ha h1) 0 (by decide) (hts _ (by decide +kernel)) rfl dX1_addLast_19 ?_
      refine lv_iload_n hx hb dX1_addLast_22 rfl (lv_at hl 0 rfl) ?_
      refine lv_iload_n hx hb dX1_addLast_23 rfl (lv_at hl 2 rfl) ?_
      refine m_iast hx hb hK hM hS v hv1 h2 (vp_in_nI (by omega) (by decide)) dX1_addLast_24 (fun H locs hM hS => ?_)
      have ef_ : (upd f (nI n).toNatClampNeg x) = upd f n x := by rw [nI_clamp (by omega)]
      rw [ef_] at hM
      clear ef_
      obtain ⟨w_2, ew_2⟩ : ∃ z, z = va_up w v (.inl (ac 0, 60, .inl (upd f n x))) := ⟨_, rfl⟩
      rw [← ew_2] at hM
      have h_3 : w_2 a = .inr (1, [.ref (adr v), .int (nI n)]) := by rw [ew_2, va_up_ne _ _ hav]; exact h1
      have h_4 : w_2 v = .inl (ac 0, 60, .inl (upd f n x)) := by rw [ew_2]; exact va_up_self _ _ _
      refine lv_aload_n hx hb dX1_addLast_25 rfl (lv_at hl 1 rfl) ?_
      refine lv_iload_n hx hb dX1_addLast_26 rfl (lv_at hl 0 rfl) ?_
      refine lv_iconst (v := 1) hx hb dX1_addLast_27 (by decide) ?_
      refine lv_iadd hx hb dX1_addLast_28 ?_
      refine m_top (show ((nI n) + 1) = nI (n + 1) from nI_1 n) ?_
      refine m_put (ci := 1) (C := RX1) (T := TX1) (n := 2) (v := .int (nI (n + 1))) (ty := tyX1 1) hx hb hts inX1_ tyX1 tyX1_ok nmX1 hown hK hM hS rfl a ha h_3 1 (by decide) (hts _ (by decide +kernel)) rfl (by decide +kernel) rfl rfl (Nat.le_of_ble_eq_true rfl) dX1_addLast_29 (fun H locs hM hS => ?_)
      have hM : MW D A N adr (va_up w_2 a (.inr (1, [.ref (adr v), .int (nI (n + 1))]))) H := hM
      obtain ⟨w_5, ew_5⟩ : ∃ z, z = va_up w_2 a (.inr (1, [.ref (adr v), .int (nI (n + 1))])) := ⟨_, rfl⟩
      rw [← ew_5] at hM
      have h_6 : w_5 a = .inr (1, [.ref (adr v), .int (nI (n + 1))]) := by rw [ew_5]; exact va_up_self _ _ _
      have h_7 : w_5 v = .inl (ac 0, 60, .inl (upd f n x)) := by rw [ew_5, va_up_ne _ _ (Ne.symm hav)]; exact h_4
      exact e_wv hx hb hlocks hr dX1_addLast_32 hM hS (by subst_vars; rfl)
theorem afp {w w1 w2 : Nat → va_E} {a v n i : Nat} {x : Int32} {f : Nat → Int32} {e1 : va_E} {F : (Nat → Int32) → va_E} (h : w2 = va_up (va_up w1 v (F (upd (mixF i (shF x f) f) n (shF x f i)))) a e1) (g3 : ∀ q, q ≠ a → q ≠ v → w1 q = w q) (hin : i = n) : ∃ f1, w2 = va_up (va_up w v (F f1)) a e1 ∧ ∀ j, j ≤ n → f1 j = shF x f j := by
  refine ⟨upd (mixF i (shF x f) f) n (shF x f i), ?_, fun j hj => ?_⟩
  · rw [h]
    funext q
    by_cases q1 : q = a
    · subst q1; simp [va_up]
    · by_cases q2 : q = v
      · subst q2; simp [va_up, q1]
      · simp [va_up, q1, q2, g3 q q1 q2]
  · subst hin
    by_cases h8 : j = i
    · subst h8; simp [upd]
    · simp only [upd, if_neg h8, mixF]
      rw [if_pos (by omega)]
set_option maxHeartbeats 4000000 in
set_option maxRecDepth 100000 in
/-- Line.addFirst -/
theorem k_X1_addFirst (l : Launch) (D : va_G) (ac : Nat → ClassId) (H : Heap) (A : Nat → Prop) (N : Nat) (adr : Nat → Nat) (w : Nat → va_E) (hM : MW D A N adr w H) (a v n : Nat) (f : Nat → Int32) (ha : a < N) (hv1 : v < N) (hav : a ≠ v) (h1 : w a = .inr (1, [.ref (adr v), .int (nI n)])) (h2 : w v = .inl (ac 0, 60, .inl f)) (hn : n < 60) (x : Int32) : WRv l yX1_addFirst wsX1_addFirst ({ frames := 1, cells := 0, slots := 0, locals := 22 }) [.ref (adr a), .int x] D ac H A N adr (fun w1 => ∃ f1 : Nat → Int32, w1 = va_up (va_up w v (.inl (ac 0, 60, .inl f1))) a (.inr (1, [.ref (adr v), .int (nI (n + 1))])) ∧ ∀ j, j ≤ n → f1 j = shF x f j) := by
  refine Met.ofW (cc := cX1_addFirst) (maxL := 5) (ret := none) (by decide) rfl ?_
  intro p e s m args below meth c s₁ B hml hv
  obtain ⟨hargs, hsz, hK⟩ := hv
  have hx := B.exec
  have hb := B.bytes
  have hr := B.returns
  have hts := atoms_spec (ws := wsX1_addFirst) B.pre
  have hown : s.vm.findClass RX1 = some m.cls := findClass_of_methodNamed B.named
  have hlocks := B.notSynchronized
  subst hsz
  have inX1_ : ∀ w ∈ wsX10, w ∈ wsX1_addFirst := by decide +kernel
  have hS : va_S A s.heap s.heap [] := va_S.rf
  have hl := lv_entry ([.ref (adr a), .int x]) (n := 5) (Nat.le_of_ble_eq_true rfl)
  have hen := lg_entry_eq m [.ref (adr a), .int x] 5
  rw [← hargs] at hen
  rw [hen]
  generalize (lg_sl ([.ref (adr a), .int x]) ++ List.replicate (5 - (lg_sl ([.ref (adr a), .int x])).length) Slot.unset).toArray = ls at hl ⊢
  have hl : lv_has ls 5 [(0, .ref (adr a)), (1, .int x)] := hl
  obtain ⟨Q0, hQ0⟩ : ∃ z, z = MQ below (va_Qv (fun w1 => ∃ f1 : Nat → Int32, w1 = va_up (va_up w v (.inl (ac 0, 60, .inl f1))) a (.inr (1, [.ref (adr v), .int (nI (n + 1))])) ∧ ∀ j, j ≤ n → f1 j = shF x f j) (fun c t => MW D A N adr c t.heap) A) args s 0 0 A := ⟨_, rfl⟩
  rw [← hQ0]
  refine lv_iload_n hx hb dX1_addFirst_0 rfl (lv_at hl 1 rfl) ?_
  refine lv_istore_n (lv' := [(2, .int x), (0, .ref (adr a)), (1, .int x)]) hx hb dX1_addFirst_1 rfl hl (by decide) rfl (fun ls hl => ?_)
  refine lv_iconst (v := 0) hx hb dX1_addFirst_2 (by decide) ?_
  refine lv_istore_n (lv' := [(3, .int 0), (2, .int x), (0, .ref (adr a)), (1, .int x)]) hx hb dX1_addFirst_3 rfl hl (by decide) rfl (fun ls hl => ?_)
  have L4 : ∀ (k9 : Nat) (i : Nat) (hk : n - i < k9) (hi : i ≤ n) (w1 : Nat → va_E) (g1 : w1 a = .inr (1, [.ref (adr v), .int (nI n)])) (g2 : w1 v = .inl (ac 0, 60, .inl (mixF i (shF x f) f))) (g3 : ∀ q, q ≠ a → q ≠ v → w1 q = w q) (H : Heap) (locs : List Loc) (hM : MW D A N adr w1 H) (hS : va_S A s.heap H locs) (ls : Array Slot) (hl : lv_has ls 5 [(0, .ref (adr a)), (1, .int x), (2, .int (shF x f i)), (3, .int (nI i))]), W p l e (headSpec wsX1_addFirst ({ frames := 1, cells := 0, slots := 0, locals := 22 })).room s m args below meth c H locs 0 0 Q0 (F0 m 4 ls []) := by
    intro k9
    induction k9 with
    | zero => intro i hk hi w1 g1 g2 g3 H locs hM hS ls hl; exact absurd hk (Nat.not_lt_zero _)
    | succ k9 ih4 =>
      intro i hk hi w1 g1 g2 g3 H locs hM hS ls hl
      refine lv_iload_n hx hb dX1_addFirst_4 rfl (lv_at hl 3 rfl) ?_
      refine lv_aload_n hx hb dX1_addFirst_5 rfl (lv_at hl 0 rfl) ?_
      refine m_get (ci := 1) (C := RX1) (T := TX1) (n := 2) (v := .int (nI n)) hx hb hts inX1_ hown hK rfl (hM.cel ha g1) 1 (by decide) (hts _ (by decide +kernel)) rfl dX1_addFirst_6 ?_
      refine lv_icmp_ge (tgt := 45) hx hb dX1_addFirst_9 (by decide) (fun c9 => ?_) (fun c9 => ?_)
      · have hin : i = n := by have := le_le (b := i) c9 (by omega) (by omega); omega
        refine lv_aload_n hx hb dX1_addFirst_45 rfl (lv_at hl 0 rfl) ?_
        refine lv_iload_n hx hb dX1_addFirst_46 rfl (lv_at hl 2 rfl) ?_
        refine w_callv (va_runV (As := [.int (shF x f i)]) (rest := []) ⟨hx, hb, hml, hown, hts⟩ (k_X1_addLast l D ac _ A N adr w1 hM a v n (mixF i (shF x f) f) ha hv1 hav g1 g2 (by omega) (shF x f i)) (cwV 1 hts gX1_addFirst_X1_addLast rfl rfl rfl (by decide +kernel) ⟨Nat.le_of_ble_eq_true rfl, Nat.le_of_ble_eq_true rfl⟩) (pV hK (ci := 1) rfl (hM.cel ha g1)) rfl rfl hl.1 rfl (lv_room (Nat.le_of_ble_eq_true rfl)) dX1_addFirst_47 ⟨Nat.le_of_ble_eq_true rfl, Nat.le_of_ble_eq_true rfl⟩) hS (fun w_2 H locs hw_2 hM hS => ?_)
        have h_3 : w_2 a = .inr (1, [.ref (adr v), .int (nI (n + 1))]) := by rw [hw_2]; exact va_up_self _ _ _
        have h_4 : w_2 v = .inl (ac 0, 60, .inl (upd (mixF i (shF x f) f) n (shF x f i))) := by rw [hw_2, va_up_ne _ _ (Ne.symm hav)]; exact va_up_self _ _ _
        rw [hQ0]
        exact e_wv hx hb hlocks hr dX1_addFirst_50 hM hS (afp hw_2 g3 hin)
      · have hin : i < n := nle_lt c9 (by omega) (by omega)
        refine lv_iload_n hx hb dX1_addFirst_12 rfl (lv_at hl 3 rfl) ?_
        refine lv_aload_n hx hb dX1_addFirst_13 rfl (lv_at hl 0 rfl) ?_
        refine m_get (ci := 1) (C := RX1) (T := TX1) (n := 2) (v := .ref (adr v)) hx hb hts inX1_ hown hK rfl (hM.cel ha g1) 0 (by decide) (hts _ (by decide +kernel)) rfl dX1_addFirst_14 ?_
        refine m_alen (v := 60) (ty := _) hx hb hK 0 (hM.cel hv1 g2) rfl (by first | rfl | decide) dX1_addFirst_17 ?_
        refine lv_icmp_ge (tgt := 45) hx hb dX1_addFirst_18 (by decide) (fun c18 => ?_) (fun c18 => ?_)
        · exact absurd (le_le (a := 60) (b := i) c18 (by omega) (by omega)) (by omega)
        · refine lv_aload_n hx hb dX1_addFirst_21 rfl (lv_at hl 0 rfl) ?_
          refine m_get (ci := 1) (C := RX1) (T := TX1) (n := 2) (v := .ref (adr v)) hx hb hts inX1_ hown hK rfl (hM.cel ha g1) 0 (by decide) (hts _ (by decide +kernel)) rfl dX1_addFirst_22 ?_
          refine lv_iload_n hx hb dX1_addFirst_25 rfl (lv_at hl 3 rfl) ?_
          refine m_iald hx hb hK (hM.cel hv1 g2) (vp_in_nI (by omega) (by decide)) dX1_addFirst_26 ?_
          refine m_top (show ((mixF i (shF x f) f) (nI i).toNatClampNeg) = shF x f (i + 1) from by rw [nI_clamp (by omega)]; simp [mixF, shF]) ?_
          refine lv_istore (lv' := [(4, .int (shF x f (i + 1))), (0, .ref (adr a)), (1, .int x), (2, .int (shF x f i)), (3, .int (nI i))]) hx hb dX1_addFirst_27 hl (by decide) rfl (fun ls hl => ?_)
          refine lv_aload_n hx hb dX1_addFirst_29 rfl (lv_at hl 1 rfl) ?_
          refine m_get (ci := 1) (C := RX1) (T := TX1) (n := 2) (v := .ref (adr v)) hx hb hts inX1_ hown hK rfl (hM.cel ha g1) 0 (by decide) (hts _ (by decide +kernel)) rfl dX1_addFirst_30 ?_
          refine lv_iload_n hx hb dX1_addFirst_33 rfl (lv_at hl 4 rfl) ?_
          refine lv_iload_n hx hb dX1_addFirst_34 rfl (lv_at hl 3 rfl) ?_
          refine m_iast hx hb hK hM hS v hv1 g2 (vp_in_nI (by omega) (by decide)) dX1_addFirst_35 (fun H locs hM hS => ?_)
          have ef_ : (upd (mixF i (shF x f) f) (nI i).toNatClampNeg (shF x f i)) = mixF (i + 1) (shF x f) f := by rw [nI_clamp (by omega)]; exact mixF_s
          rw [ef_] at hM
          clear ef_
          obtain ⟨w_6, ew_6⟩ : ∃ z, z = va_up w1 v (.inl (ac 0, 60, .inl (mixF (i + 1) (shF x f) f))) := ⟨_, rfl⟩
          rw [← ew_6] at hM
          have h_7 : w_6 a = .inr (1, [.ref (adr v), .int (nI n)]) := by rw [ew_6, va_up_ne _ _ hav]; exact g1
          have h_8 : w_6 v = .inl (ac 0, 60, .inl (mixF (i + 1) (shF x f) f)) := by rw [ew_6]; exact va_up_self _ _ _
          refine lv_iload hx hb dX1_addFirst_36 (lv_at hl 0 rfl) ?_
          refine lv_istore_n (lv' := [(2, .int (shF x f (i + 1))), (4, .int (shF x f (i + 1))), (0, .ref (adr a)), (1, .int x), (3, .int (nI i))]) hx hb dX1_addFirst_38 rfl hl (by decide) rfl (fun ls hl => ?_)
          refine lv_iinc (v := nI (i + 1)) (lv' := [(3, .int (nI (i + 1))), (2, .int (shF x f (i + 1))), (4, .int (shF x f (i + 1))), (0, .ref (adr a)), (1, .int x)]) hx hb dX1_addFirst_39 hl (k := 4) rfl (nI_1 _) (by decide) rfl (fun ls hl => ?_)
          refine lv_goto (tgt := 4) hx hb dX1_addFirst_42 (by decide) ?_
          exact ih4 (i + 1) (by omega) (by omega) w_6 h_7 h_8 (fun q q1 q2 => by rw [ew_6, va_up_ne _ _ q2]; exact g3 q q1 q2) _ _ hM hS ls (lv_sub hl [3, 4, 1, 0] rfl)
  exact L4 _ 0 (Nat.lt_succ_self _) (Nat.zero_le _) w h1 (by rw [mixF_0]; exact h2) (fun q _ _ => rfl) _ _ hM hS ls (lv_sub hl [2, 3, 1, 0] rfl)
theorem rap {w w1 w2 : Nat → va_E} {a v n i k : Nat} {f : Nat → Int32} {e1 : va_E} {F : (Nat → Int32) → va_E} (h : w2 = va_up w1 a e1) (g2 : w1 v = F (cutT k i f)) (g3 : ∀ q, q ≠ a → q ≠ v → w1 q = w q) (hin : i + 1 = n) : ∃ f1, w2 = va_up (va_up w v (F f1)) a e1 ∧ ∀ j, j + 1 < n → f1 j = cutF k f j := by
  refine ⟨cutT k i f, ?_, fun j hj => ?_⟩
  · rw [h]
    funext q
    by_cases q1 : q = a
    · subst q1; simp [va_up]
    · by_cases q2 : q = v
      · subst q2; simp [va_up, q1, g2]
      · simp [va_up, q1, q2, g3 q q1 q2]
  · unfold cutT
    rw [if_pos (by omega)]
set_option maxHeartbeats 4000000 in
set_option maxRecDepth 100000 in
/-- Line.removeAt -/
theorem k_X1_removeAt (l : Launch) (D : va_G) (ac : Nat → ClassId) (H : Heap) (A : Nat → Prop) (N : Nat) (adr : Nat → Nat) (w : Nat → va_E) (hM : MW D A N adr w H) (a v n : Nat) (f : Nat → Int32) (ha : a < N) (hv1 : v < N) (hav : a ≠ v) (h1 : w a = .inr (1, [.ref (adr v), .int (nI n)])) (h2 : w v = .inl (ac 0, 60, .inl f)) (hn : n ≤ 60) (k : Nat) (hgn : k < n) : WRv l yX1_removeAt wsX1_removeAt ({ frames := 1, cells := 0, slots := 0, locals := 21 }) [.ref (adr a), .int (nI k)] D ac H A N adr (fun w1 => ∃ f1 : Nat → Int32, w1 = va_up (va_up w v (.inl (ac 0, 60, .inl f1))) a (.inr (1, [.ref (adr v), .int (nI (n - 1))])) ∧ ∀ j, j + 1 < n → f1 j = cutF k f j) := by
  refine Met.ofW (cc := cX1_removeAt) (maxL := 3) (ret := none) (by decide) rfl ?_
  intro p e s m args below meth c s₁ B hml hv
  obtain ⟨hargs, hsz, hK⟩ := hv
  have hx := B.exec
  have hb := B.bytes
  have hr := B.returns
  have hts := atoms_spec (ws := wsX1_removeAt) B.pre
  have hown : s.vm.findClass RX1 = some m.cls := findClass_of_methodNamed B.named
  have hlocks := B.notSynchronized
  subst hsz
  have inX1_ : ∀ w ∈ wsX10, w ∈ wsX1_removeAt := by decide +kernel
  have hS : va_S A s.heap s.heap [] := va_S.rf
  have hl := lv_entry ([.ref (adr a), .int (nI k)]) (n := 3) (Nat.le_of_ble_eq_true rfl)
  have hen := lg_entry_eq m [.ref (adr a), .int (nI k)] 3
  rw [← hargs] at hen
  rw [hen]
  generalize (lg_sl ([.ref (adr a), .int (nI k)]) ++ List.replicate (3 - (lg_sl ([.ref (adr a), .int (nI k)])).length) Slot.unset).toArray = ls at hl ⊢
  have hl : lv_has ls 3 [(0, .ref (adr a)), (1, .int (nI k))] := hl
  obtain ⟨Q0, hQ0⟩ : ∃ z, z = MQ below (va_Qv (fun w1 => ∃ f1 : Nat → Int32, w1 = va_up (va_up w v (.inl (ac 0, 60, .inl f1))) a (.inr (1, [.ref (adr v), .int (nI (n - 1))])) ∧ ∀ j, j + 1 < n → f1 j = cutF k f j) (fun c t => MW D A N adr c t.heap) A) args s 0 0 A := ⟨_, rfl⟩
  rw [← hQ0]
  refine lv_aload_n hx hb dX1_removeAt_0 rfl (lv_at hl 0 rfl) ?_
  refine lv_iload_n hx hb dX1_removeAt_1 rfl (lv_at hl 1 rfl) ?_
  refine r_calli (va_runV (As := [.int (nI k)]) (rest := []) ⟨hx, hb, hml, hown, hts⟩ (k_X1_hasPlace l D ac _ (adr a) (adr v) n f (hM.cel ha h1) (hM.cel hv1 h2) (by omega) (nI k)) (cwV 1 hts gX1_removeAt_X1_hasPlace rfl rfl rfl (by decide +kernel) ⟨Nat.le_of_ble_eq_true rfl, Nat.le_of_ble_eq_true rfl⟩) (pV hK (ci := 1) rfl (hM.cel ha h1)) rfl rfl hl.1 rfl (lv_room (Nat.le_of_ble_eq_true rfl)) dX1_removeAt_2 ⟨Nat.le_of_ble_eq_true rfl, Nat.le_of_ble_eq_true rfl⟩) hS (fun rv_1 locs hrv_1 hS => ?_)
  subst hrv_1
  rcases hi : ix (nI k) n with _ | jhi
  · exact absurd (ix_nI hgn (by omega)) (by rw [hi]; exact fun h => nomatch h)
  · refine m_top (show _ = (1 : Int32) from rfl) ?_
    refine lv_if_ne (tgt := 9) hx hb dX1_removeAt_5 (by decide) (fun c5 => ?_) (fun c5 => ?_)
    · refine lv_iload_n hx hb dX1_removeAt_9 rfl (lv_at hl 1 rfl) ?_
      refine lv_iconst (v := 1) hx hb dX1_removeAt_10 (by decide) ?_
      refine lv_iadd hx hb dX1_removeAt_11 ?_
      refine m_top (show ((nI k) + 1) = nI (k + 1) from nI_1 k) ?_
      refine lv_istore_n (lv' := [(2, .int (nI (k + 1))), (0, .ref (adr a)), (1, .int (nI k))]) hx hb dX1_removeAt_12 rfl hl (by decide) rfl (fun ls hl => ?_)
      have L13 : ∀ (k9 : Nat) (i : Nat) (hk : n - i < k9) (hi8 : i + 1 ≤ n) (hki : k ≤ i) (w1 : Nat → va_E) (g1 : w1 a = .inr (1, [.ref (adr v), .int (nI n)])) (g2 : w1 v = .inl (ac 0, 60, .inl (cutT k i f))) (g3 : ∀ q, q ≠ a → q ≠ v → w1 q = w q) (H : Heap) (locs : List Loc) (hM : MW D A N adr w1 H) (hS : va_S A s.heap H locs) (ls : Array Slot) (hl : lv_has ls 3 [(0, .ref (adr a)), (1, .int (nI k)), (2, .int (nI (i + 1)))]), W p l e (headSpec wsX1_removeAt ({ frames := 1, cells := 0, slots := 0, locals := 21 })).room s m args below meth c H locs 0 0 Q0 (F0 m 13 ls []) := by
        intro k9
        induction k9 with
        | zero => intro i hk hi8 hki w1 g1 g2 g3 H locs hM hS ls hl; exact absurd hk (Nat.not_lt_zero _)
        | succ k9 ih13 =>
          intro i hk hi8 hki w1 g1 g2 g3 H locs hM hS ls hl
          refine lv_iload_n hx hb dX1_removeAt_13 rfl (lv_at hl 2 rfl) ?_
          refine lv_aload_n hx hb dX1_removeAt_14 rfl (lv_at hl 0 rfl) ?_
          refine m_get (ci := 1) (C := RX1) (T := TX1) (n := 2) (v := .int (nI n)) hx hb hts inX1_ hown hK rfl (hM.cel ha g1) 1 (by decide) (hts _ (by decide +kernel)) rfl dX1_removeAt_15 ?_
          refine lv_icmp_ge (tgt := 50) hx hb dX1_removeAt_18 (by decide) (fun c18 => ?_) (fun c18 => ?_)
          · have hin : i + 1 = n := by have := le_le (b := i + 1) c18 (by omega) (by omega); omega
            refine lv_aload_n hx hb dX1_removeAt_50 rfl (lv_at hl 0 rfl) ?_
            refine lv_dup hx hb dX1_removeAt_51 rfl ?_
            refine m_get (ci := 1) (C := RX1) (T := TX1) (n := 2) (v := .int (nI n)) hx hb hts inX1_ hown hK rfl (hM.cel ha g1) 1 (by decide) (hts _ (by decide +kernel)) rfl dX1_removeAt_52 ?_
            refine lv_iconst (v := 1) hx hb dX1_removeAt_55 (by decide) ?_
            refine lv_isub hx hb dX1_removeAt_56 ?_
            refine m_top (show ((nI n) - 1) = nI (n - 1) from pk_sub (a := n) (b := 1) (by omega)) ?_
            refine m_put (ci := 1) (C := RX1) (T := TX1) (n := 2) (v := .int (nI (n - 1))) (ty := tyX1 1) hx hb hts inX1_ tyX1 tyX1_ok nmX1 hown hK hM hS rfl a ha g1 1 (by decide) (hts _ (by decide +kernel)) rfl (by decide +kernel) rfl rfl (Nat.le_of_ble_eq_true rfl) dX1_removeAt_57 (fun H locs hM hS => ?_)
            have hM : MW D A N adr (va_up w1 a (.inr (1, [.ref (adr v), .int (nI (n - 1))]))) H := hM
            obtain ⟨w_2, ew_2⟩ : ∃ z, z = va_up w1 a (.inr (1, [.ref (adr v), .int (nI (n - 1))])) := ⟨_, rfl⟩
            rw [← ew_2] at hM
            have h_3 : w_2 a = .inr (1, [.ref (adr v), .int (nI (n - 1))]) := by rw [ew_2]; exact va_up_self _ _ _
            have h_4 : w_2 v = .inl (ac 0, 60, .inl (cutT k i f)) := by rw [ew_2, va_up_ne _ _ (Ne.symm hav)]; exact g2
            rw [hQ0]
            exact e_wv hx hb hlocks hr dX1_removeAt_60 hM hS (rap (F := fun z => .inl (ac 0, 60, .inl z)) ew_2 g2 g3 hin)
          · have hin : i + 1 < n := nle_lt c18 (by omega) (by omega)
            refine lv_iload_n hx hb dX1_removeAt_21 rfl (lv_at hl 2 rfl) ?_
            refine lv_aload_n hx hb dX1_removeAt_22 rfl (lv_at hl 0 rfl) ?_
            refine m_get (ci := 1) (C := RX1) (T := TX1) (n := 2) (v := .ref (adr v)) hx hb hts inX1_ hown hK rfl (hM.cel ha g1) 0 (by decide) (hts _ (by decide +kernel)) rfl dX1_removeAt_23 ?_
            refine m_alen (v := 60) (ty := _) hx hb hK 0 (hM.cel hv1 g2) rfl (by first | rfl | decide) dX1_removeAt_26 ?_
            refine lv_icmp_ge (tgt := 50) hx hb dX1_removeAt_27 (by decide) (fun c27 => ?_) (fun c27 => ?_)
            · exact absurd (le_le (a := 60) (b := i + 1) c27 (by omega) (by omega)) (by omega)
            · refine lv_aload_n hx hb dX1_removeAt_30 rfl (lv_at hl 0 rfl) ?_
              refine m_get (ci := 1) (C := RX1) (T := TX1) (n := 2) (v := .ref (adr v)) hx hb hts inX1_ hown hK rfl (hM.cel ha g1) 0 (by decide) (hts _ (by decide +kernel)) rfl dX1_removeAt_31 ?_
              refine lv_iload_n hx hb dX1_removeAt_34 rfl (lv_at hl 2 rfl) ?_
              refine lv_iconst (v := 1) hx hb dX1_removeAt_35 (by decide) ?_
              refine lv_isub hx hb dX1_removeAt_36 ?_
              refine m_top (show ((nI (i + 1)) - 1) = nI i from by rw [← nI_1]; exact Int32.add_sub_cancel _ _) ?_
              refine lv_aload_n hx hb dX1_removeAt_37 rfl (lv_at hl 0 rfl) ?_
              refine m_get (ci := 1) (C := RX1) (T := TX1) (n := 2) (v := .ref (adr v)) hx hb hts inX1_ hown hK rfl (hM.cel ha g1) 0 (by decide) (hts _ (by decide +kernel)) rfl dX1_removeAt_38 ?_
              refine lv_iload_n hx hb dX1_removeAt_41 rfl (lv_at hl 2 rfl) ?_
              refine m_iald hx hb hK (hM.cel hv1 g2) (vp_in_nI (by omega) (by decide)) dX1_removeAt_42 ?_
              refine m_top (show ((cutT k i f) (nI (i + 1)).toNatClampNeg) = f (i + 1) from by rw [nI_clamp (by omega)]; unfold cutT; rw [if_neg (by omega)]) ?_
              refine m_iast hx hb hK hM hS v hv1 g2 (vp_in_nI (by omega) (by decide)) dX1_removeAt_43 (fun H locs hM hS => ?_)
              have ef_ : (upd (cutT k i f) (nI i).toNatClampNeg (f (i + 1))) = cutT k (i + 1) f := by rw [nI_clamp (by omega)]; exact cutT_s hki
              rw [ef_] at hM
              clear ef_
              obtain ⟨w_6, ew_6⟩ : ∃ z, z = va_up w1 v (.inl (ac 0, 60, .inl (cutT k (i + 1) f))) := ⟨_, rfl⟩
              rw [← ew_6] at hM
              have h_7 : w_6 a = .inr (1, [.ref (adr v), .int (nI n)]) := by rw [ew_6, va_up_ne _ _ hav]; exact g1
              have h_8 : w_6 v = .inl (ac 0, 60, .inl (cutT k (i + 1) f)) := by rw [ew_6]; exact va_up_self _ _ _
              refine lv_iinc (v := nI ((i + 1) + 1)) (lv' := [(2, .int (nI ((i + 1) + 1))), (0, .ref (adr a)), (1, .int (nI k))]) hx hb dX1_removeAt_44 hl (k := 2) rfl (nI_1 _) (by decide) rfl (fun ls hl => ?_)
              refine lv_goto (tgt := 13) hx hb dX1_removeAt_47 (by decide) ?_
              exact ih13 (i + 1) (by omega) (by omega) (by omega) w_6 h_7 h_8 (fun q q1 q2 => by rw [ew_6, va_up_ne _ _ q2]; exact g3 q q1 q2) _ _ hM hS ls (lv_sub hl [1, 2, 0] rfl)
      exact L13 _ k (Nat.lt_succ_self _) (by omega) (Nat.le_refl _) w h1 (by rw [cutT_0]; exact h2) (fun q _ _ => rfl) _ _ hM hS ls (lv_sub hl [1, 2, 0] rfl)
    · exact absurd c5 (by decide)
