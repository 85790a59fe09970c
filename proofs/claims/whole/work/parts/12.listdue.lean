theorem ho_t {n : Nat} {d : Nat → Nat} {i : Nat} {r : Int32} (h : HoP n (fun j => nI (d j)) (nI i) r) (c : ¬ r = 0) (hd : ∀ j, j < n → d j < 2 ^ 31) (hi : i < 2 ^ 31) : i ∈ lst n d := by
  rcases h with ⟨_, j, h1, h2⟩ | ⟨h1, _⟩
  · have := (nI_eq (hd j h1) hi).mp h2
    exact List.mem_map.mpr ⟨j, List.mem_range.mpr h1, this⟩
  · exact absurd h1 c
theorem ho_f {n : Nat} {d : Nat → Nat} {i : Nat} {r : Int32} (h : HoP n (fun j => nI (d j)) (nI i) r) (c : r = 0) : ¬ i ∈ lst n d := by
  rcases h with ⟨h1, _⟩ | ⟨_, h1⟩
  · rw [h1] at c; exact absurd c (by decide)
  · intro q
    obtain ⟨j, h2, h3⟩ := List.mem_map.mp q
    exact h1 j (List.mem_range.mp h2) (congrArg nI h3)
theorem two_up {w w1 : Nat → va_E} {e10 e11 : va_E} (h1 : w1 11 = e11) (h0 : w1 10 = e10) (h : ∀ q, q ≠ 10 → q ≠ 11 → w1 q = w q) : w1 = va_up (va_up w 11 e11) 10 e10 := by
  funext q
  by_cases q1 : q = 10
  · subst q1; rw [va_up_self, h0]
  · rw [va_up_ne _ _ q1]
    by_cases q2 : q = 11
    · subst q2; rw [va_up_self, h1]
    · rw [va_up_ne _ _ q2, h q q1 q2]
set_option maxHeartbeats 4000000 in
set_option maxRecDepth 100000 in
/-- Memory.listDue -/
theorem k_X2_listDue (l : Launch) (D : va_G) (ac : Nat → ClassId) (H : Heap) (A : Nat → Prop) (N : Nat) (adr : Nat → Nat) (w : Nat → va_E) (hM : MW D A N adr w H) (no : Nat) (oc on_ : Nat → Nat) (owd : Nat → Nat → Nat) (obf : Nat → Nat → Int32) (ns : Nat) (so : Nat → Nat) (hv : Nat → Int64) (nd : Nat) (du : Nat → Nat) (T : Nat → Int32) (hN : 22 + 6 * no ≤ N) (hS1 : SenF ac adr w no oc on_ owd obf) (hm : MemW ac adr w ns so hv nd du T) (hso : ∀ i, i < ns → so i < no) (fs fr : Nat → Int32) (ft : Nat → Nat) (hru : RulW ac adr w fs fr ft) (hdn : (lst nd du).Nodup) (hdu : ∀ x ∈ lst nd du, x < ns) : WRv l yX2_listDue wsX2_listDue ({ frames := 4, cells := 0, slots := 0, locals := 90 }) [.ref (adr 7), .ref (adr 3)] D ac H A N adr (fun w1 => ∃ (n2 : Nat) (d2 : Nat → Nat), w1 = va_up (va_up w 11 (.inl (ac 0, 60, .inl (fun j => nI (d2 j))))) 10 (.inr (1, [.ref (adr 11), .int (nI n2)])) ∧ lst n2 d2 = LD2 (fun i => asB fr (oc (so i)) (on_ (so i)) (owd (so i)) (obf (so i))) ((lst nd du).filter (fun i => asB fr (oc (so i)) (on_ (so i)) (owd (so i)) (obf (so i)))) ns) := by
  refine Met.ofW (cc := cX2_listDue) (maxL := 4) (ret := none) (by decide) rfl ?_
  intro p e s m args below meth c s₁ B hml hv
  obtain ⟨hargs, hsz, hK⟩ := hv
  have hx := B.exec
  have hb := B.bytes
  have hr := B.returns
  have hts := atoms_spec (ws := wsX2_listDue) B.pre
  have hown : s.vm.findClass RX2 = some m.cls := findClass_of_methodNamed B.named
  have hlocks := B.notSynchronized
  subst hsz
  have inX1_ : ∀ w ∈ wsX10, w ∈ wsX2_listDue := by decide +kernel
  have inX2_ : ∀ w ∈ wsX20, w ∈ wsX2_listDue := by decide +kernel
  have hS : va_S A s.heap s.heap [] := va_S.rf
  have hl := lv_entry ([.ref (adr 7), .ref (adr 3)]) (n := 4) (Nat.le_of_ble_eq_true rfl)
  have hen := lg_entry_eq m [.ref (adr 7), .ref (adr 3)] 4
  rw [← hargs] at hen
  rw [hen]
  generalize (lg_sl ([.ref (adr 7), .ref (adr 3)]) ++ List.replicate (4 - (lg_sl ([.ref (adr 7), .ref (adr 3)])).length) Slot.unset).toArray = ls at hl ⊢
  have hl : lv_has ls 4 [(0, .ref (adr 7)), (1, .ref (adr 3))] := hl
  obtain ⟨Q0, hQ0⟩ : ∃ z, z = MQ below (va_Qv (fun w1 => ∃ (n2 : Nat) (d2 : Nat → Nat), w1 = va_up (va_up w 11 (.inl (ac 0, 60, .inl (fun j => nI (d2 j))))) 10 (.inr (1, [.ref (adr 11), .int (nI n2)])) ∧ lst n2 d2 = LD2 (fun i => asB fr (oc (so i)) (on_ (so i)) (owd (so i)) (obf (so i))) ((lst nd du).filter (fun i => asB fr (oc (so i)) (on_ (so i)) (owd (so i)) (obf (so i)))) ns) (fun c t => MW D A N adr c t.heap) A) args s 0 0 A := ⟨_, rfl⟩
  rw [← hQ0]
  obtain ⟨hns, hnd⟩ := hm.2.2.2.2.2.2.2
  obtain ⟨P0, hP0⟩ : ∃ z : Nat → Bool, z = (fun i => asB fr (oc (so i)) (on_ (so i)) (owd (so i)) (obf (so i))) := ⟨_, rfl⟩
  refine lv_aload_n hx hb dX2_listDue_0 rfl (lv_at hl 0 rfl) ?_
  refine m_get (ci := 2) (C := RX2) (T := TX2) (n := 5) (v := .ref (adr 10)) hx hb hts inX2_ hown hK rfl (hM.cel (by omega) hm.1) 2 (by decide) (hts _ (by decide +kernel)) rfl dX2_listDue_1 ?_
  refine m_getN (host := RX7) (ci := 1) (C := RX1) (T := TX1) (n := 2) (v := .int (nI nd)) hx hb hts inX1_ hown hK rfl (hM.cel (by omega) hm.2.2.2.1) 1 (by decide) 7 rfl rfl dX2_listDue_4 ?_
  refine lv_iconst (v := 1) hx hb dX2_listDue_7 (by decide) ?_
  refine lv_isub hx hb dX2_listDue_8 ?_
  refine lv_istore_n (lv' := [(2, .int ((nI nd) - 1)), (0, .ref (adr 7)), (1, .ref (adr 3))]) hx hb dX2_listDue_9 rfl hl (by decide) rfl (fun ls hl => ?_)
  have L10 : ∀ (k9 : Nat) (k : Nat) (n1 : Nat) (d1 : Nat → Nat) (hk : k < k9) (hk8 : k ≤ nd) (hkn : k ≤ n1) (hn1 : n1 ≤ 40) (hL1 : lst n1 d1 = LD1 P0 (lst nd du) k) (wz : Nat → va_E) (z0wz : wz 7 = .inr (2, [.ref (adr 8), .ref (adr 9), .ref (adr 10), .ref (adr 12), .int (nI ns)])) (z1wz : wz 8 = .inl (ac 4, 40, .inr (.inr (.inr (.inr (sref adr ns so)))))) (z2wz : wz 10 = .inr (1, [.ref (adr 11), .int (nI n1)])) (z3wz : wz 11 = .inl (ac 0, 60, .inl (fun j => nI (d1 j)))) (z4wz : wz 3 = .inr (5, [.ref (adr 4), .ref (adr 5), .ref (adr 6)])) (z5wz : wz 4 = .inl (ac 0, 600, .inl fs)) (z6wz : wz 5 = .inl (ac 0, 200, .inl fr)) (z7wz : wz 6 = .inl (ac 0, 200, .inl (fun j => nI (ft j)))) (zSwz : SenF ac adr wz no oc on_ owd obf) (zrwz : ∀ q, q ≠ 10 → q ≠ 11 → wz q = w q) (H : Heap) (locs : List Loc) (hM : MW D A N adr wz H) (hS : va_S A s.heap H locs) (ls : Array Slot) (hl : lv_has ls 4 [(0, .ref (adr 7)), (1, .ref (adr 3)), (2, .int (nI k - 1))]), W p l e (headSpec wsX2_listDue ({ frames := 4, cells := 0, slots := 0, locals := 90 })).room s m args below meth c H locs 0 0 Q0 (F0 m 10 ls []) := by
    intro k9
    induction k9 with
    | zero => intro k n1 d1 hk hk8 hkn hn1 hL1 wz z0wz z1wz z2wz z3wz z4wz z5wz z6wz z7wz zSwz zrwz H locs hM hS ls hl; exact absurd hk (Nat.not_lt_zero _)
    | succ k9 ih10 =>
      intro k n1 d1 hk hk8 hkn hn1 hL1 wz z0wz z1wz z2wz z3wz z4wz z5wz z6wz z7wz zSwz zrwz H locs hM hS ls hl
      refine lv_iload_n hx hb dX2_listDue_10 rfl (lv_at hl 2 rfl) ?_
      refine lv_if_lt (tgt := 54) hx hb dX2_listDue_11 (by decide) (fun c11 => ?_) (fun c11 => ?_)
      · have hk0 : k = 0 := Classical.byContradiction (fun e => absurd c11 (by rw [show nI k - 1 = nI (k - 1) from pk_sub (a := k) (b := 1) (by omega)]; exact nI_pos (by omega)))
        refine lv_iconst (v := 0) hx hb dX2_listDue_54 (by decide) ?_
        refine lv_istore_n (lv' := [(2, .int 0), (0, .ref (adr 7)), (1, .ref (adr 3))]) hx hb dX2_listDue_55 rfl hl (by decide) rfl (fun ls hl => ?_)
        have L56 : ∀ (k9 : Nat) (i : Nat) (n2 : Nat) (d2 : Nat → Nat) (hk2 : ns - i < k9) (hi9 : i ≤ ns) (hn2 : n2 ≤ 40) (hL2 : lst n2 d2 = LD2 P0 ((lst nd du).filter P0) i) (wy : Nat → va_E) (z0wy : wy 7 = .inr (2, [.ref (adr 8), .ref (adr 9), .ref (adr 10), .ref (adr 12), .int (nI ns)])) (z1wy : wy 8 = .inl (ac 4, 40, .inr (.inr (.inr (.inr (sref adr ns so)))))) (z2wy : wy 10 = .inr (1, [.ref (adr 11), .int (nI n2)])) (z3wy : wy 11 = .inl (ac 0, 60, .inl (fun j => nI (d2 j)))) (z4wy : wy 3 = .inr (5, [.ref (adr 4), .ref (adr 5), .ref (adr 6)])) (z5wy : wy 4 = .inl (ac 0, 600, .inl fs)) (z6wy : wy 5 = .inl (ac 0, 200, .inl fr)) (z7wy : wy 6 = .inl (ac 0, 200, .inl (fun j => nI (ft j)))) (zSwy : SenF ac adr wy no oc on_ owd obf) (zrwy : ∀ q, q ≠ 10 → q ≠ 11 → wy q = w q) (H : Heap) (locs : List Loc) (hM : MW D A N adr wy H) (hS : va_S A s.heap H locs) (ls : Array Slot) (hl : lv_has ls 4 [(0, .ref (adr 7)), (1, .ref (adr 3)), (2, .int (nI i))]), W p l e (headSpec wsX2_listDue ({ frames := 4, cells := 0, slots := 0, locals := 90 })).room s m args below meth c H locs 0 0 Q0 (F0 m 56 ls []) := by
          intro k9
          induction k9 with
          | zero => intro i n2 d2 hk2 hi9 hn2 hL2 wy z0wy z1wy z2wy z3wy z4wy z5wy z6wy z7wy zSwy zrwy H locs hM hS ls hl; exact absurd hk2 (Nat.not_lt_zero _)
          | succ k9 ih56 =>
            intro i n2 d2 hk2 hi9 hn2 hL2 wy z0wy z1wy z2wy z3wy z4wy z5wy z6wy z7wy zSwy zrwy H locs hM hS ls hl
            refine lv_iload_n hx hb dX2_listDue_56 rfl (lv_at hl 2 rfl) ?_
            refine lv_aload_n hx hb dX2_listDue_57 rfl (lv_at hl 0 rfl) ?_
            refine m_get (ci := 2) (C := RX2) (T := TX2) (n := 5) (v := .int (nI ns)) hx hb hts inX2_ hown hK rfl (hM.cel (by omega) z0wy) 4 (by decide) (hts _ (by decide +kernel)) rfl dX2_listDue_58 ?_
            refine lv_icmp_ge (tgt := 108) hx hb dX2_listDue_61 (by decide) (fun c61 => ?_) (fun c61 => ?_)
            · have hin : i = ns := by have := le_le (b := i) c61 (by omega) (by omega); omega
              rw [hQ0]
              exact e_wv hx hb hlocks hr dX2_listDue_108 hM hS (⟨n2, d2, two_up z3wy z2wy zrwy, by rw [hL2, hin, hP0]⟩)
            · have hin : i < ns := nle_lt c61 (by omega) (by omega)
              refine lv_aload_n hx hb dX2_listDue_64 rfl (lv_at hl 0 rfl) ?_
              refine lv_iload_n hx hb dX2_listDue_65 rfl (lv_at hl 2 rfl) ?_
              refine r_callq (va_runV (As := [.int (nI i)]) (rest := []) ⟨hx, hb, hml, hown, hts⟩ (k_X2_sentenceAt l D ac _ (adr 7) (adr 8) (sref adr ns so) (.ref (adr 9)) (.ref (adr 10)) (.ref (adr 12)) (.int (nI ns)) (hM.cel (by omega) z0wy) (hM.cel (by omega) z1wy) (nI i)) (cwV 1 hts gX2_listDue_X2_sentenceAt rfl rfl rfl (by decide +kernel) ⟨Nat.le_of_ble_eq_true rfl, Nat.le_of_ble_eq_true rfl⟩) (pV hK (ci := 2) rfl (hM.cel (by omega) z0wy)) rfl rfl hl.1 rfl (lv_room (Nat.le_of_ble_eq_true rfl)) dX2_listDue_66 ⟨Nat.le_of_ble_eq_true rfl, Nat.le_of_ble_eq_true rfl⟩) hS (fun rv_1 locs hrv_1 hS => ?_)
              subst hrv_1
              refine m_topq (show (ix (nI i) 40).bind (sref adr ns so) = (ix (nI i) ns).map (fun i => adr (23 + 6 * so i)) from sat_eq (by omega)) ?_
              rcases hi : ix (nI i) ns with _ | jhi
              · exact absurd (ix_nI hin (by omega)) (by rw [hi]; exact fun h => nomatch h)
              · obtain ⟨hj_, he_⟩ := ix_of hi (by omega)
                have hji : i = jhi := (nI_eq (by omega) (by omega)).mp he_
                subst hji
                have ho_ : so i < no := hso i hj_
                have hsn_ := zSwy (so i) ho_
                obtain ⟨hn0_, hn8_, hcl_, hwd_⟩ := hsn_.2.2.2.2.2
                refine m_topr ?_
                refine lv_astore_n (lv' := [(3, .ref (adr (23 + 6 * so i))), (0, .ref (adr 7)), (1, .ref (adr 3)), (2, .int (nI i))]) hx hb dX2_listDue_69 rfl hl (by decide) rfl (fun ls hl => ?_)
                refine lv_aload_n hx hb dX2_listDue_70 rfl (lv_at hl 0 rfl) ?_
                refine lv_ifnull hx hb dX2_listDue_71 ?_
                refine lv_aload_n hx hb dX2_listDue_74 rfl (lv_at hl 0 rfl) ?_
                refine lv_aload_n hx hb dX2_listDue_75 rfl (lv_at hl 2 rfl) ?_
                refine r_calli (va_runV (As := [.ref (adr 3)]) (rest := []) ⟨hx, hb, hml, hown, hts⟩ (k_X6_firstAstray l D ac _ (adr (23 + 6 * so i)) (adr (23 + 6 * so i + 1)) (adr (23 + 6 * so i + 2)) (adr (23 + 6 * so i + 3)) (adr (23 + 6 * so i + 4)) ((oc (so i))) ((on_ (so i))) (fun j => nI (owd (so i) j)) (obf (so i)) (owd (so i)) ⟨(hM.cel (by have := ho_; omega) hsn_.1), (hM.cel (by have := ho_; omega) hsn_.2.1), (hM.cel (by have := ho_; omega) hsn_.2.2.1), (hM.cel (by have := ho_; omega) hsn_.2.2.2.1), (hM.cel (by have := ho_; omega) hsn_.2.2.2.2.1), ⟨hn8_, hcl_, fun j hj => ⟨rfl, hwd_ j hj⟩⟩⟩ (adr 3) (adr 4) (adr 5) (adr 6) fs fr (fun j => nI (ft j)) ⟨(hM.cel (by omega) z4wy), (hM.cel (by omega) z5wy), (hM.cel (by omega) z6wy), (hM.cel (by omega) z7wy)⟩) (cwV 1 hts gX2_listDue_X6_firstAstray rfl rfl rfl (by decide +kernel) ⟨Nat.le_of_ble_eq_true rfl, Nat.le_of_ble_eq_true rfl⟩) (pV hK (ci := 6) rfl (hM.cel (by have := ho_; omega) hsn_.1)) rfl rfl hl.1 rfl (lv_room (Nat.le_of_ble_eq_true rfl)) dX2_listDue_76 ⟨Nat.le_of_ble_eq_true rfl, Nat.le_of_ble_eq_true rfl⟩) hS (fun rv_2 locs hrv_2 hS => ?_)
                refine lv_iconst (v := (-1)) hx hb dX2_listDue_79 (by decide) ?_
                refine lv_icmp_eq (tgt := 102) hx hb dX2_listDue_80 (by decide) (fun c80 => ?_) (fun c80 => ?_)
                · have hP_ : P0 i = false := by rw [hP0]; exact asB_f (by omega) hrv_2 c80
                  have hX_ := LD2_skip (P := P0) (E := (lst nd du).filter P0) (i := i) (Or.inl hP_)
                  refine lv_iinc (v := nI (i + 1)) (lv' := [(2, .int (nI (i + 1))), (3, .ref (adr (23 + 6 * so i))), (0, .ref (adr 7)), (1, .ref (adr 3))]) hx hb dX2_listDue_102 hl (k := 3) rfl (nI_1 _) (by decide) rfl (fun ls hl => ?_)
                  refine lv_goto (tgt := 56) hx hb dX2_listDue_105 (by decide) ?_
                  exact ih56 (i + 1) n2 d2 (by omega) (by omega) hn2 (hL2.trans hX_.symm) wy z0wy z1wy z2wy z3wy z4wy z5wy z6wy z7wy zSwy zrwy _ _ hM hS ls (lv_sub hl [2, 3, 0] rfl)
                · have hP_ : P0 i = true := by rw [hP0]; exact asB_t hrv_2 c80
                  refine lv_aload_n hx hb dX2_listDue_83 rfl (lv_at hl 1 rfl) ?_
                  refine m_get (ci := 2) (C := RX2) (T := TX2) (n := 5) (v := .ref (adr 10)) hx hb hts inX2_ hown hK rfl (hM.cel (by omega) z0wy) 2 (by decide) (hts _ (by decide +kernel)) rfl dX2_listDue_84 ?_
                  refine lv_iload_n hx hb dX2_listDue_87 rfl (lv_at hl 3 rfl) ?_
                  refine r_calli (va_runV (As := [.int (nI i)]) (rest := []) ⟨hx, hb, hml, hown, hts⟩ (k_X1_holds l D ac _ (adr 10) (adr 11) n2 (fun j => nI (d2 j)) (hM.cel (by omega) z2wy) (hM.cel (by omega) z3wy) (by omega) (nI i)) (cwV 1 hts gX2_listDue_X1_holds rfl rfl rfl (by decide +kernel) ⟨Nat.le_of_ble_eq_true rfl, Nat.le_of_ble_eq_true rfl⟩) (pV hK (ci := 1) rfl (hM.cel (by omega) z2wy)) rfl rfl hl.1 rfl (lv_room (Nat.le_of_ble_eq_true rfl)) dX2_listDue_88 ⟨Nat.le_of_ble_eq_true rfl, Nat.le_of_ble_eq_true rfl⟩) hS (fun rv_3 locs hrv_3 hS => ?_)
                  refine lv_if_ne (tgt := 102) hx hb dX2_listDue_91 (by decide) (fun c91 => ?_) (fun c91 => ?_)
                  · have hX_ := LD2_skip (P := P0) (E := (lst nd du).filter P0) (i := i) (Or.inr (by rw [← hL2]; exact ho_t hrv_3 c91 (fun j hj => by have := (LD2_ok (P := P0) (hdn.filter P0) (fun x hx => hdu x (List.mem_filter.mp hx).1) i (by omega)).2 (d2 j) (by rw [← hL2]; exact List.mem_map.mpr ⟨j, List.mem_range.mpr hj, rfl⟩); omega) (by omega)))
                    refine lv_iinc (v := nI (i + 1)) (lv' := [(2, .int (nI (i + 1))), (3, .ref (adr (23 + 6 * so i))), (0, .ref (adr 7)), (1, .ref (adr 3))]) hx hb dX2_listDue_102 hl (k := 3) rfl (nI_1 _) (by decide) rfl (fun ls hl => ?_)
                    refine lv_goto (tgt := 56) hx hb dX2_listDue_105 (by decide) ?_
                    exact ih56 (i + 1) n2 d2 (by omega) (by omega) hn2 (hL2.trans hX_.symm) wy z0wy z1wy z2wy z3wy z4wy z5wy z6wy z7wy zSwy zrwy _ _ hM hS ls (lv_sub hl [2, 3, 0] rfl)
                  · have hX_ := LD2_add (P := P0) (E := (lst nd du).filter P0) (i := i) hP_ (by rw [← hL2]; exact ho_f hrv_3 c91)
                    have hn2x : n2 + 1 ≤ 40 := by have q_ := LD2_ok (P := P0) (hdn.filter P0) (fun x hx => hdu x (List.mem_filter.mp hx).1) (i + 1) (by omega); have := nodup_len ns _ q_.1 q_.2; rw [hX_, List.length_append, ← hL2, lst_len] at this; simp at this; omega
                    refine lv_aload_n hx hb dX2_listDue_94 rfl (lv_at hl 1 rfl) ?_
                    refine m_get (ci := 2) (C := RX2) (T := TX2) (n := 5) (v := .ref (adr 10)) hx hb hts inX2_ hown hK rfl (hM.cel (by omega) z0wy) 2 (by decide) (hts _ (by decide +kernel)) rfl dX2_listDue_95 ?_
                    refine lv_iload_n hx hb dX2_listDue_98 rfl (lv_at hl 3 rfl) ?_
                    refine w_callv (va_runV (As := [.int (nI i)]) (rest := []) ⟨hx, hb, hml, hown, hts⟩ (k_X1_addLast l D ac _ A N adr wy hM 10 11 n2 (fun j => nI (d2 j)) (by omega) (by omega) (by omega) z2wy z3wy (by omega) (nI i)) (cwV 1 hts gX2_listDue_X1_addLast rfl rfl rfl (by decide +kernel) ⟨Nat.le_of_ble_eq_true rfl, Nat.le_of_ble_eq_true rfl⟩) (pV hK (ci := 1) rfl (hM.cel (by omega) z2wy)) rfl rfl hl.1 rfl (lv_room (Nat.le_of_ble_eq_true rfl)) dX2_listDue_99 ⟨Nat.le_of_ble_eq_true rfl, Nat.le_of_ble_eq_true rfl⟩) hS (fun w_5 H locs hw_5 hM hS => ?_)
                    rw [upd_nI] at hw_5
                    have h_6 : w_5 7 = .inr (2, [.ref (adr 8), .ref (adr 9), .ref (adr 10), .ref (adr 12), .int (nI ns)]) := by rw [hw_5, va_up_ne _ _ (by omega), va_up_ne _ _ (by omega)]; exact z0wy
                    have h_7 : w_5 8 = .inl (ac 4, 40, .inr (.inr (.inr (.inr (sref adr ns so))))) := by rw [hw_5, va_up_ne _ _ (by omega), va_up_ne _ _ (by omega)]; exact z1wy
                    have h_8 : w_5 10 = .inr (1, [.ref (adr 11), .int (nI (n2 + 1))]) := by rw [hw_5]; exact va_up_self _ _ _
                    have h_9 : w_5 11 = .inl (ac 0, 60, .inl (fun j => nI (va_up d2 n2 i j))) := by rw [hw_5, va_up_ne _ _ (by omega)]; exact va_up_self _ _ _
                    have h_10 : w_5 3 = .inr (5, [.ref (adr 4), .ref (adr 5), .ref (adr 6)]) := by rw [hw_5, va_up_ne _ _ (by omega), va_up_ne _ _ (by omega)]; exact z4wy
                    have h_11 : w_5 4 = .inl (ac 0, 600, .inl fs) := by rw [hw_5, va_up_ne _ _ (by omega), va_up_ne _ _ (by omega)]; exact z5wy
                    have h_12 : w_5 5 = .inl (ac 0, 200, .inl fr) := by rw [hw_5, va_up_ne _ _ (by omega), va_up_ne _ _ (by omega)]; exact z6wy
                    have h_13 : w_5 6 = .inl (ac 0, 200, .inl (fun j => nI (ft j))) := by rw [hw_5, va_up_ne _ _ (by omega), va_up_ne _ _ (by omega)]; exact z7wy
                    have h_14 : w_5 (23 + 6 * so i) = .inr (6, [.int (nI (oc (so i))), .ref (adr (23 + 6 * so i + 1)), .ref (adr (23 + 6 * so i + 3))]) := by rw [hw_5, va_up_ne _ _ (by omega), va_up_ne _ _ (by omega)]; exact hsn_.1
                    have h_15 : w_5 (23 + 6 * so i + 1) = .inr (4, [.ref (adr (23 + 6 * so i + 2)), .int (nI (on_ (so i)))]) := by rw [hw_5, va_up_ne _ _ (by omega), va_up_ne _ _ (by omega)]; exact hsn_.2.1
                    have h_16 : w_5 (23 + 6 * so i + 2) = .inl (ac 0, 8, .inl (fun j => nI (owd (so i) j))) := by rw [hw_5, va_up_ne _ _ (by omega), va_up_ne _ _ (by omega)]; exact hsn_.2.2.1
                    have h_17 : w_5 (23 + 6 * so i + 3) = .inr (4, [.ref (adr (23 + 6 * so i + 4)), .int (nI (on_ (so i)))]) := by rw [hw_5, va_up_ne _ _ (by omega), va_up_ne _ _ (by omega)]; exact hsn_.2.2.2.1
                    have h_18 : w_5 (23 + 6 * so i + 4) = .inl (ac 0, 8, .inl (obf (so i))) := by rw [hw_5, va_up_ne _ _ (by omega), va_up_ne _ _ (by omega)]; exact hsn_.2.2.2.2.1
                    have h_19 : SenF ac adr w_5 no oc on_ owd obf := by rw [hw_5]; exact (SenF.up (by omega) (SenF.up (by omega) zSwy))
                    refine lv_iinc (v := nI (i + 1)) (lv' := [(2, .int (nI (i + 1))), (3, .ref (adr (23 + 6 * so i))), (0, .ref (adr 7)), (1, .ref (adr 3))]) hx hb dX2_listDue_102 hl (k := 3) rfl (nI_1 _) (by decide) rfl (fun ls hl => ?_)
                    refine lv_goto (tgt := 56) hx hb dX2_listDue_105 (by decide) ?_
                    exact ih56 (i + 1) ((n2 + 1)) (va_up d2 n2 i) (by omega) (by omega) (by omega) (by rw [hX_, lst_push, hL2]) w_5 h_6 h_7 h_8 h_9 h_10 h_11 h_12 h_13 h_19 (fun q q1 q2 => by rw [hw_5, va_up_ne _ _ q1, va_up_ne _ _ q2]; exact zrwy q q1 q2) _ _ hM hS ls (lv_sub hl [2, 3, 0] rfl)
        exact L56 _ 0 n1 d1 (Nat.lt_succ_self _) (Nat.zero_le _) hn1 (by rw [hL1, hk0, LD1_0, LD2_0]) wz z0wz z1wz z2wz z3wz z4wz z5wz z6wz z7wz zSwz zrwz _ _ hM hS ls (lv_sub hl [1, 2, 0] rfl)
      · have hk1 : 0 < k := Nat.pos_of_ne_zero (fun e => by rw [e] at c11; exact c11 (by decide))
        have ek_ : nI k - 1 = nI (k - 1) := pk_sub (a := k) (b := 1) (by omega)
        rw [ek_] at hl
        have hdk : (lst nd du)[k - 1]? = some (d1 (k - 1)) := by rw [← LD1_at (P := P0) (show k - 1 < k by omega), ← hL1, lst_get (by omega)]
        have hdm : d1 (k - 1) < ns := hdu _ (List.mem_of_getElem? hdk)
        refine lv_aload_n hx hb dX2_listDue_14 rfl (lv_at hl 0 rfl) ?_
        refine lv_aload_n hx hb dX2_listDue_15 rfl (lv_at hl 0 rfl) ?_
        refine m_get (ci := 2) (C := RX2) (T := TX2) (n := 5) (v := .ref (adr 10)) hx hb hts inX2_ hown hK rfl (hM.cel (by omega) z0wz) 2 (by decide) (hts _ (by decide +kernel)) rfl dX2_listDue_16 ?_
        refine lv_iload_n hx hb dX2_listDue_19 rfl (lv_at hl 2 rfl) ?_
        refine r_calli (va_runV (As := [.int (nI (k - 1))]) (rest := [.ref (adr 7)]) ⟨hx, hb, hml, hown, hts⟩ (k_X1_at l D ac _ (adr 10) (adr 11) n1 (fun j => nI (d1 j)) (hM.cel (by omega) z2wz) (hM.cel (by omega) z3wz) (by omega) (nI (k - 1))) (cwV 1 hts gX2_listDue_X1_at rfl rfl rfl (by decide +kernel) ⟨Nat.le_of_ble_eq_true rfl, Nat.le_of_ble_eq_true rfl⟩) (pV hK (ci := 1) rfl (hM.cel (by omega) z2wz)) rfl rfl hl.1 rfl (lv_room (Nat.le_of_ble_eq_true rfl)) dX2_listDue_20 ⟨Nat.le_of_ble_eq_true rfl, Nat.le_of_ble_eq_true rfl⟩) hS (fun rv_20 locs hrv_20 hS => ?_)
        subst hrv_20
        refine m_top (show ((ix (nI (k - 1)) n1).elim (-1) (fun j => nI (d1 j))) = nI (d1 (k - 1)) from by rw [ix_nI (by omega) (by omega)]; rfl) ?_
        refine r_callq (va_runV (As := [.int (nI (d1 (k - 1)))]) (rest := []) ⟨hx, hb, hml, hown, hts⟩ (k_X2_sentenceAt l D ac _ (adr 7) (adr 8) (sref adr ns so) (.ref (adr 9)) (.ref (adr 10)) (.ref (adr 12)) (.int (nI ns)) (hM.cel (by omega) z0wz) (hM.cel (by omega) z1wz) (nI (d1 (k - 1)))) (cwV 1 hts gX2_listDue_X2_sentenceAt rfl rfl rfl (by decide +kernel) ⟨Nat.le_of_ble_eq_true rfl, Nat.le_of_ble_eq_true rfl⟩) (pV hK (ci := 2) rfl (hM.cel (by omega) z0wz)) rfl rfl hl.1 rfl (lv_room (Nat.le_of_ble_eq_true rfl)) dX2_listDue_23 ⟨Nat.le_of_ble_eq_true rfl, Nat.le_of_ble_eq_true rfl⟩) hS (fun rv_21 locs hrv_21 hS => ?_)
        subst hrv_21
        refine m_topq (show (ix (nI (d1 (k - 1))) 40).bind (sref adr ns so) = (ix (nI (d1 (k - 1))) ns).map (fun i => adr (23 + 6 * so i)) from sat_eq (by omega)) ?_
        rcases hi : ix (nI (d1 (k - 1))) ns with _ | jhi
        · exact absurd (ix_nI hdm (by omega)) (by rw [hi]; exact fun h => nomatch h)
        · obtain ⟨hj_, he_⟩ := ix_of hi (by omega)
          have hji : jhi = d1 (k - 1) := ((nI_eq (by omega) (by omega)).mp he_).symm
          subst hji
          have ho_ : so (d1 (k - 1)) < no := hso (d1 (k - 1)) hj_
          have hsn_ := zSwz (so (d1 (k - 1))) ho_
          obtain ⟨hn0_, hn8_, hcl_, hwd_⟩ := hsn_.2.2.2.2.2
          refine m_topr ?_
          refine lv_astore_n (lv' := [(3, .ref (adr (23 + 6 * so (d1 (k - 1))))), (0, .ref (adr 7)), (1, .ref (adr 3)), (2, .int (nI (k - 1)))]) hx hb dX2_listDue_26 rfl hl (by decide) rfl (fun ls hl => ?_)
          refine lv_aload_n hx hb dX2_listDue_27 rfl (lv_at hl 0 rfl) ?_
          refine lv_ifnull hx hb dX2_listDue_28 ?_
          refine lv_aload_n hx hb dX2_listDue_31 rfl (lv_at hl 0 rfl) ?_
          refine lv_aload_n hx hb dX2_listDue_32 rfl (lv_at hl 2 rfl) ?_
          refine r_calli (va_runV (As := [.ref (adr 3)]) (rest := []) ⟨hx, hb, hml, hown, hts⟩ (k_X6_firstAstray l D ac _ (adr (23 + 6 * so (d1 (k - 1)))) (adr (23 + 6 * so (d1 (k - 1)) + 1)) (adr (23 + 6 * so (d1 (k - 1)) + 2)) (adr (23 + 6 * so (d1 (k - 1)) + 3)) (adr (23 + 6 * so (d1 (k - 1)) + 4)) ((oc (so (d1 (k - 1))))) ((on_ (so (d1 (k - 1))))) (fun j => nI (owd (so (d1 (k - 1))) j)) (obf (so (d1 (k - 1)))) (owd (so (d1 (k - 1)))) ⟨(hM.cel (by have := ho_; omega) hsn_.1), (hM.cel (by have := ho_; omega) hsn_.2.1), (hM.cel (by have := ho_; omega) hsn_.2.2.1), (hM.cel (by have := ho_; omega) hsn_.2.2.2.1), (hM.cel (by have := ho_; omega) hsn_.2.2.2.2.1), ⟨hn8_, hcl_, fun j hj => ⟨rfl, hwd_ j hj⟩⟩⟩ (adr 3) (adr 4) (adr 5) (adr 6) fs fr (fun j => nI (ft j)) ⟨(hM.cel (by omega) z4wz), (hM.cel (by omega) z5wz), (hM.cel (by omega) z6wz), (hM.cel (by omega) z7wz)⟩) (cwV 1 hts gX2_listDue_X6_firstAstray rfl rfl rfl (by decide +kernel) ⟨Nat.le_of_ble_eq_true rfl, Nat.le_of_ble_eq_true rfl⟩) (pV hK (ci := 6) rfl (hM.cel (by have := ho_; omega) hsn_.1)) rfl rfl hl.1 rfl (lv_room (Nat.le_of_ble_eq_true rfl)) dX2_listDue_33 ⟨Nat.le_of_ble_eq_true rfl, Nat.le_of_ble_eq_true rfl⟩) hS (fun rv_22 locs hrv_22 hS => ?_)
          refine lv_iconst (v := (-1)) hx hb dX2_listDue_36 (by decide) ?_
          refine lv_icmp_ne (tgt := 48) hx hb dX2_listDue_37 (by decide) (fun c37 => ?_) (fun c37 => ?_)
          · have hP_ : P0 (d1 (k - 1)) = true := by rw [hP0]; exact asB_t hrv_22 c37
            refine lv_iinc (v := nI (k - 1) - 1) (lv' := [(2, .int (nI (k - 1) - 1)), (3, .ref (adr (23 + 6 * so (d1 (k - 1))))), (0, .ref (adr 7)), (1, .ref (adr 3))]) hx hb dX2_listDue_48 hl (k := 3) rfl (by rw [Int32.sub_eq_add_neg]; rfl) (by decide) rfl (fun ls hl => ?_)
            refine lv_goto (tgt := 10) hx hb dX2_listDue_51 (by decide) ?_
            exact ih10 (k - 1) n1 d1 (by omega) (by omega) (by omega) (by omega) (hL1.trans ((congrArg (LD1 P0 (lst nd du)) (show k = (k - 1) + 1 by omega)).trans (LD1_keep hdk hP_))) wz z0wz z1wz z2wz z3wz z4wz z5wz z6wz z7wz zSwz zrwz _ _ hM hS ls (lv_sub hl [2, 3, 0] rfl)
          · have hP_ : P0 (d1 (k - 1)) = false := by rw [hP0]; exact asB_f (by omega) hrv_22 c37
            refine lv_aload_n hx hb dX2_listDue_40 rfl (lv_at hl 1 rfl) ?_
            refine m_get (ci := 2) (C := RX2) (T := TX2) (n := 5) (v := .ref (adr 10)) hx hb hts inX2_ hown hK rfl (hM.cel (by omega) z0wz) 2 (by decide) (hts _ (by decide +kernel)) rfl dX2_listDue_41 ?_
            refine lv_iload_n hx hb dX2_listDue_44 rfl (lv_at hl 3 rfl) ?_
            refine w_callv (va_runV (As := [.int (nI (k - 1))]) (rest := []) ⟨hx, hb, hml, hown, hts⟩ (k_X1_removeAt l D ac _ A N adr wz hM 10 11 n1 (fun j => nI (d1 j)) (by omega) (by omega) (by omega) z2wz z3wz (by omega) ((k - 1)) (by omega)) (cwV 1 hts gX2_listDue_X1_removeAt rfl rfl rfl (by decide +kernel) ⟨Nat.le_of_ble_eq_true rfl, Nat.le_of_ble_eq_true rfl⟩) (pV hK (ci := 1) rfl (hM.cel (by omega) z2wz)) rfl rfl hl.1 rfl (lv_room (Nat.le_of_ble_eq_true rfl)) dX2_listDue_45 ⟨Nat.le_of_ble_eq_true rfl, Nat.le_of_ble_eq_true rfl⟩) hS (fun w_24 H locs hw_24 hM hS => ?_)
            obtain ⟨f_, hw_24, hf_⟩ := hw_24
            obtain ⟨d2_, hd2_, hl2_⟩ := cut_nat (by omega) hf_
            subst hd2_
            have h_25 : w_24 7 = .inr (2, [.ref (adr 8), .ref (adr 9), .ref (adr 10), .ref (adr 12), .int (nI ns)]) := by rw [hw_24, va_up_ne _ _ (by omega), va_up_ne _ _ (by omega)]; exact z0wz
            have h_26 : w_24 8 = .inl (ac 4, 40, .inr (.inr (.inr (.inr (sref adr ns so))))) := by rw [hw_24, va_up_ne _ _ (by omega), va_up_ne _ _ (by omega)]; exact z1wz
            have h_27 : w_24 10 = .inr (1, [.ref (adr 11), .int (nI (n1 - 1))]) := by rw [hw_24]; exact va_up_self _ _ _
            have h_28 : w_24 11 = .inl (ac 0, 60, .inl (fun j => nI (d2_ j))) := by rw [hw_24, va_up_ne _ _ (by omega)]; exact va_up_self _ _ _
            have h_29 : w_24 3 = .inr (5, [.ref (adr 4), .ref (adr 5), .ref (adr 6)]) := by rw [hw_24, va_up_ne _ _ (by omega), va_up_ne _ _ (by omega)]; exact z4wz
            have h_30 : w_24 4 = .inl (ac 0, 600, .inl fs) := by rw [hw_24, va_up_ne _ _ (by omega), va_up_ne _ _ (by omega)]; exact z5wz
            have h_31 : w_24 5 = .inl (ac 0, 200, .inl fr) := by rw [hw_24, va_up_ne _ _ (by omega), va_up_ne _ _ (by omega)]; exact z6wz
            have h_32 : w_24 6 = .inl (ac 0, 200, .inl (fun j => nI (ft j))) := by rw [hw_24, va_up_ne _ _ (by omega), va_up_ne _ _ (by omega)]; exact z7wz
            have h_33 : w_24 (23 + 6 * so (d1 (k - 1))) = .inr (6, [.int (nI (oc (so (d1 (k - 1))))), .ref (adr (23 + 6 * so (d1 (k - 1)) + 1)), .ref (adr (23 + 6 * so (d1 (k - 1)) + 3))]) := by rw [hw_24, va_up_ne _ _ (by omega), va_up_ne _ _ (by omega)]; exact hsn_.1
            have h_34 : w_24 (23 + 6 * so (d1 (k - 1)) + 1) = .inr (4, [.ref (adr (23 + 6 * so (d1 (k - 1)) + 2)), .int (nI (on_ (so (d1 (k - 1)))))]) := by rw [hw_24, va_up_ne _ _ (by omega), va_up_ne _ _ (by omega)]; exact hsn_.2.1
            have h_35 : w_24 (23 + 6 * so (d1 (k - 1)) + 2) = .inl (ac 0, 8, .inl (fun j => nI (owd (so (d1 (k - 1))) j))) := by rw [hw_24, va_up_ne _ _ (by omega), va_up_ne _ _ (by omega)]; exact hsn_.2.2.1
            have h_36 : w_24 (23 + 6 * so (d1 (k - 1)) + 3) = .inr (4, [.ref (adr (23 + 6 * so (d1 (k - 1)) + 4)), .int (nI (on_ (so (d1 (k - 1)))))]) := by rw [hw_24, va_up_ne _ _ (by omega), va_up_ne _ _ (by omega)]; exact hsn_.2.2.2.1
            have h_37 : w_24 (23 + 6 * so (d1 (k - 1)) + 4) = .inl (ac 0, 8, .inl (obf (so (d1 (k - 1))))) := by rw [hw_24, va_up_ne _ _ (by omega), va_up_ne _ _ (by omega)]; exact hsn_.2.2.2.2.1
            have h_38 : SenF ac adr w_24 no oc on_ owd obf := by rw [hw_24]; exact (SenF.up (by omega) (SenF.up (by omega) zSwz))
            refine lv_iinc (v := nI (k - 1) - 1) (lv' := [(2, .int (nI (k - 1) - 1)), (3, .ref (adr (23 + 6 * so (d1 (k - 1))))), (0, .ref (adr 7)), (1, .ref (adr 3))]) hx hb dX2_listDue_48 hl (k := 3) rfl (by rw [Int32.sub_eq_add_neg]; rfl) (by decide) rfl (fun ls hl => ?_)
            refine lv_goto (tgt := 10) hx hb dX2_listDue_51 (by decide) ?_
            exact ih10 (k - 1) ((n1 - 1)) d2_ (by omega) (by omega) (by omega) (by omega) (hl2_.trans ((congrArg (fun z => List.eraseIdx z (k - 1)) (hL1.trans (congrArg (LD1 P0 (lst nd du)) (show k = (k - 1) + 1 by omega)))).trans (LD1_cut hdk hP_))) w_24 h_25 h_26 h_27 h_28 h_29 h_30 h_31 h_32 h_38 (fun q q1 q2 => by rw [hw_24, va_up_ne _ _ q1, va_up_ne _ _ q2]; exact zrwz q q1 q2) _ _ hM hS ls (lv_sub hl [2, 3, 0] rfl)
  exact L10 _ nd nd du (Nat.lt_succ_self _) (Nat.le_refl _) (Nat.le_refl _) hnd (LD1_top.symm.trans (congrArg (LD1 P0 (lst nd du)) lst_len)) w hm.1 hm.2.1 hm.2.2.2.1 hm.2.2.2.2.1 hru.1 hru.2.1 hru.2.2.1 hru.2.2.2 hS1 (fun q _ _ => rfl) _ _ hM hS ls (lv_sub hl [1, 2, 0] rfl)
