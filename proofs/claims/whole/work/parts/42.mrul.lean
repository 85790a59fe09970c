def mrul (a b c : Int32) : Int32 := if ¬ a = -1 ∧ (a = b ∨ a = c) then a else if b = c then b else -1
theorem mrul_agr {a b c : Int32} : mrul a b c = agr a b c := by
  unfold mrul agr
  by_cases h : a = b ∨ a = c
  · rw [if_pos h]
    by_cases h1 : a = -1
    · rw [if_neg (fun q => q.1 h1)]
      by_cases h2 : b = c
      · rw [if_pos h2]
        rcases h with h | h
        · exact h.symm
        · rw [h2]; exact h.symm
      · rw [if_neg h2]; exact h1.symm
    · rw [if_pos ⟨h1, h⟩]
  · rw [if_neg h, if_neg (fun q => h q.2)]
/-- the voices and what they rule -/
def SayR (af : Nat → Nat → Int32) (fs fr : Nat → Int32) : Prop := (∀ q, q < 600 → af 17 q = fs q) ∧ ∀ q, q < 200 → fr q = agr (fs q) (fs (200 + q)) (fs (400 + q))
set_option maxHeartbeats 4000000 in
set_option maxRecDepth 100000 in
/-- X8_rulingOf -/
theorem k_X8_rulingOf (l : Launch) (D : va_G) (ac : Nat → ClassId) (H : Heap) (A : Nat → Prop) (adr : Nat → Nat) (sf : Nat → Int32) (af : Nat → Nat → Int32) (hM : MW D A 24 adr (mw ac adr sf af) H) (fs fr : Nat → Int32) (hSy : SayR af fs fr) (k j : Nat) (hk : k < 4) (hj : j < 50) : ROi l yX8_rulingOf wsX8_rulingOf ({ frames := 1, cells := 0, slots := 0, locals := 21 }) [.ref (adr 0), .int (nI k), .int (nI j)] D ac H (fun r => r = fr (k * 50 + j)) := by
  refine Met.ofW (cc := cX8_rulingOf) (maxL := 6) (ret := (some .int)) (by decide) rfl ?_
  intro p e s m args below meth c s₁ B hml hv
  obtain ⟨hargs, hsz, hK⟩ := hv
  have hx := B.exec
  have hb := B.bytes
  have hr := B.returns
  have hts := atoms_spec (ws := wsX8_rulingOf) B.pre
  have hown : s.vm.findClass RX8 = some m.cls := findClass_of_methodNamed B.named
  have hlocks := B.notSynchronized
  subst hsz
  have inX8_ : ∀ w ∈ wsX80, w ∈ wsX8_rulingOf := by decide +kernel
  have hS : va_S (fun _ => False) s.heap s.heap [] := va_S.rf
  have hl := lv_entry ([.ref (adr 0), .int (nI k), .int (nI j)]) (n := 6) (Nat.le_of_ble_eq_true rfl)
  have hen := lg_entry_eq m [.ref (adr 0), .int (nI k), .int (nI j)] 6
  rw [← hargs] at hen
  rw [hen]
  generalize (lg_sl ([.ref (adr 0), .int (nI k), .int (nI j)]) ++ List.replicate (6 - (lg_sl ([.ref (adr 0), .int (nI k), .int (nI j)])).length) Slot.unset).toArray = ls at hl ⊢
  have hl : lv_has ls 6 [(0, .ref (adr 0)), (1, .int (nI k)), (2, .int (nI j))] := hl
  refine lv_aload_n hx hb dX8_rulingOf_0 rfl (lv_at hl 0 rfl) ?_
  refine m_get (ci := 8) (C := RX8) (T := TX8) (n := 35) (v := .ref (adr 17)) hx hb hts inX8_ hown hK rfl (hM.cel (by omega) (show (mw ac adr sf af) 0 = .inr (8, mfs adr sf) from rfl)) 25 (by decide) (hts _ (by decide +kernel)) rfl dX8_rulingOf_1 ?_
  refine lv_iload_n hx hb dX8_rulingOf_4 rfl (lv_at hl 1 rfl) ?_
  refine lv_iload_n hx hb dX8_rulingOf_5 rfl (lv_at hl 2 rfl) ?_
  refine r_calli (va_runS (As := [.int (nI k), .int (nI j)]) (rest := [.ref (adr 17)]) ⟨hx, hb, hml, hown, hts⟩ (k_X8_at l D ac _ k j) (va_cwS 2 hts gX8_rulingOf_X8_at rfl rfl rfl (by decide +kernel) ⟨Nat.le_of_ble_eq_true rfl, Nat.le_of_ble_eq_true rfl⟩) (pS hK) rfl rfl hl.1 rfl (lv_room (Nat.le_of_ble_eq_true rfl)) dX8_rulingOf_6 ⟨Nat.le_of_ble_eq_true rfl, Nat.le_of_ble_eq_true rfl⟩) hS (fun rv_1 locs hrv_1 hS => ?_)
  subst hrv_1
  refine m_iald hx hb hK (hM.cel (by omega) (show (mw ac adr sf af) 17 = .inl (ac 0, 600, .inl (af 17)) from rfl)) (vp_in_nI (by omega) (by decide)) dX8_rulingOf_9 ?_
  refine m_top (show ((af 17) (nI (k * 50 + j)).toNatClampNeg) = fs (k * 50 + j) from by rw [nI_clamp (by omega)]; exact hSy.1 _ (by omega)) ?_
  refine lv_istore_n (lv' := [(3, .int (fs (k * 50 + j))), (0, .ref (adr 0)), (1, .int (nI k)), (2, .int (nI j))]) hx hb dX8_rulingOf_10 rfl hl (by decide) rfl (fun ls hl => ?_)
  refine lv_aload_n hx hb dX8_rulingOf_11 rfl (lv_at hl 1 rfl) ?_
  refine m_get (ci := 8) (C := RX8) (T := TX8) (n := 35) (v := .ref (adr 17)) hx hb hts inX8_ hown hK rfl (hM.cel (by omega) (show (mw ac adr sf af) 0 = .inr (8, mfs adr sf) from rfl)) 25 (by decide) (hts _ (by decide +kernel)) rfl dX8_rulingOf_12 ?_
  refine lv_sipush (v := 200) hx hb dX8_rulingOf_15 (by decide) ?_
  refine lv_iload_n hx hb dX8_rulingOf_18 rfl (lv_at hl 2 rfl) ?_
  refine lv_iload_n hx hb dX8_rulingOf_19 rfl (lv_at hl 3 rfl) ?_
  refine r_calli (va_runS (As := [.int (nI k), .int (nI j)]) (rest := [.int 200, .ref (adr 17)]) ⟨hx, hb, hml, hown, hts⟩ (k_X8_at l D ac _ k j) (va_cwS 2 hts gX8_rulingOf_X8_at rfl rfl rfl (by decide +kernel) ⟨Nat.le_of_ble_eq_true rfl, Nat.le_of_ble_eq_true rfl⟩) (pS hK) rfl rfl hl.1 rfl (lv_room (Nat.le_of_ble_eq_true rfl)) dX8_rulingOf_20 ⟨Nat.le_of_ble_eq_true rfl, Nat.le_of_ble_eq_true rfl⟩) hS (fun rv_2 locs hrv_2 hS => ?_)
  subst hrv_2
  refine lv_iadd hx hb dX8_rulingOf_23 ?_
  refine m_top (show (200 + (nI (k * 50 + j))) = nI (200 + (k * 50 + j)) from by rw [show (200 : Int32) = nI 200 from rfl, nI_add]) ?_
  refine m_iald hx hb hK (hM.cel (by omega) (show (mw ac adr sf af) 17 = .inl (ac 0, 600, .inl (af 17)) from rfl)) (vp_in_nI (by omega) (by decide)) dX8_rulingOf_24 ?_
  refine m_top (show ((af 17) (nI (200 + (k * 50 + j))).toNatClampNeg) = fs (200 + (k * 50 + j)) from by rw [nI_clamp (by omega)]; exact hSy.1 _ (by omega)) ?_
  refine lv_istore (lv' := [(4, .int (fs (200 + (k * 50 + j)))), (3, .int (fs (k * 50 + j))), (0, .ref (adr 0)), (1, .int (nI k)), (2, .int (nI j))]) hx hb dX8_rulingOf_25 hl (by decide) rfl (fun ls hl => ?_)
  refine lv_aload_n hx hb dX8_rulingOf_27 rfl (lv_at hl 2 rfl) ?_
  refine m_get (ci := 8) (C := RX8) (T := TX8) (n := 35) (v := .ref (adr 17)) hx hb hts inX8_ hown hK rfl (hM.cel (by omega) (show (mw ac adr sf af) 0 = .inr (8, mfs adr sf) from rfl)) 25 (by decide) (hts _ (by decide +kernel)) rfl dX8_rulingOf_28 ?_
  refine lv_sipush (v := 400) hx hb dX8_rulingOf_31 (by decide) ?_
  refine lv_iload_n hx hb dX8_rulingOf_34 rfl (lv_at hl 3 rfl) ?_
  refine lv_iload_n hx hb dX8_rulingOf_35 rfl (lv_at hl 4 rfl) ?_
  refine r_calli (va_runS (As := [.int (nI k), .int (nI j)]) (rest := [.int 400, .ref (adr 17)]) ⟨hx, hb, hml, hown, hts⟩ (k_X8_at l D ac _ k j) (va_cwS 2 hts gX8_rulingOf_X8_at rfl rfl rfl (by decide +kernel) ⟨Nat.le_of_ble_eq_true rfl, Nat.le_of_ble_eq_true rfl⟩) (pS hK) rfl rfl hl.1 rfl (lv_room (Nat.le_of_ble_eq_true rfl)) dX8_rulingOf_36 ⟨Nat.le_of_ble_eq_true rfl, Nat.le_of_ble_eq_true rfl⟩) hS (fun rv_3 locs hrv_3 hS => ?_)
  subst hrv_3
  refine lv_iadd hx hb dX8_rulingOf_39 ?_
  refine m_top (show (400 + (nI (k * 50 + j))) = nI (400 + (k * 50 + j)) from by rw [show (400 : Int32) = nI 400 from rfl, nI_add]) ?_
  refine m_iald hx hb hK (hM.cel (by omega) (show (mw ac adr sf af) 17 = .inl (ac 0, 600, .inl (af 17)) from rfl)) (vp_in_nI (by omega) (by decide)) dX8_rulingOf_40 ?_
  refine m_top (show ((af 17) (nI (400 + (k * 50 + j))).toNatClampNeg) = fs (400 + (k * 50 + j)) from by rw [nI_clamp (by omega)]; exact hSy.1 _ (by omega)) ?_
  refine lv_istore (lv' := [(5, .int (fs (400 + (k * 50 + j)))), (4, .int (fs (200 + (k * 50 + j)))), (3, .int (fs (k * 50 + j))), (0, .ref (adr 0)), (1, .int (nI k)), (2, .int (nI j))]) hx hb dX8_rulingOf_41 hl (by decide) rfl (fun ls hl => ?_)
  refine lv_iload_n hx hb dX8_rulingOf_43 rfl (lv_at hl 2 rfl) ?_
  refine lv_iconst (v := (-1)) hx hb dX8_rulingOf_44 (by decide) ?_
  refine lv_icmp_eq (tgt := 64) hx hb dX8_rulingOf_45 (by decide) (fun c45 => ?_) (fun c45 => ?_)
  · refine lv_iload hx hb dX8_rulingOf_64 (lv_at hl 1 rfl) ?_
    refine lv_iload hx hb dX8_rulingOf_66 (lv_at hl 0 rfl) ?_
    refine lv_icmp_ne (tgt := 76) hx hb dX8_rulingOf_68 (by decide) (fun c68 => ?_) (fun c68 => ?_)
    · refine lv_iconst (v := (-1)) hx hb dX8_rulingOf_76 (by decide) ?_
      exact e_i hx hb hlocks hr dX8_rulingOf_77 hS (by rw [hSy.2 _ (by omega), ← mrul_agr]; unfold mrul; first | (rw [if_pos ⟨c45, Or.inl c51⟩]; done) | (rw [if_pos ⟨c45, Or.inr c57⟩]; done) | simp [*])
    · refine lv_iload hx hb dX8_rulingOf_71 (lv_at hl 1 rfl) ?_
      refine lv_goto (tgt := 77) hx hb dX8_rulingOf_73 (by decide) ?_
      exact e_i hx hb hlocks hr dX8_rulingOf_77 hS (by rw [hSy.2 _ (by omega), ← mrul_agr]; unfold mrul; first | (rw [if_pos ⟨c45, Or.inl c51⟩]; done) | (rw [if_pos ⟨c45, Or.inr c57⟩]; done) | simp [*])
  · refine lv_iload_n hx hb dX8_rulingOf_48 rfl (lv_at hl 2 rfl) ?_
    refine lv_iload hx hb dX8_rulingOf_49 (lv_at hl 1 rfl) ?_
    refine lv_icmp_eq (tgt := 60) hx hb dX8_rulingOf_51 (by decide) (fun c51 => ?_) (fun c51 => ?_)
    · refine lv_iload_n hx hb dX8_rulingOf_60 rfl (lv_at hl 2 rfl) ?_
      refine lv_goto (tgt := 77) hx hb dX8_rulingOf_61 (by decide) ?_
      exact e_i hx hb hlocks hr dX8_rulingOf_77 hS (by rw [hSy.2 _ (by omega), ← mrul_agr]; unfold mrul; first | (rw [if_pos ⟨c45, Or.inl c51⟩]; done) | (rw [if_pos ⟨c45, Or.inr c57⟩]; done) | simp [*])
    · refine lv_iload_n hx hb dX8_rulingOf_54 rfl (lv_at hl 2 rfl) ?_
      refine lv_iload hx hb dX8_rulingOf_55 (lv_at hl 0 rfl) ?_
      refine lv_icmp_ne (tgt := 64) hx hb dX8_rulingOf_57 (by decide) (fun c57 => ?_) (fun c57 => ?_)
      · refine lv_iload hx hb dX8_rulingOf_64 (lv_at hl 1 rfl) ?_
        refine lv_iload hx hb dX8_rulingOf_66 (lv_at hl 0 rfl) ?_
        refine lv_icmp_ne (tgt := 76) hx hb dX8_rulingOf_68 (by decide) (fun c68 => ?_) (fun c68 => ?_)
        · refine lv_iconst (v := (-1)) hx hb dX8_rulingOf_76 (by decide) ?_
          exact e_i hx hb hlocks hr dX8_rulingOf_77 hS (by rw [hSy.2 _ (by omega), ← mrul_agr]; unfold mrul; first | (rw [if_pos ⟨c45, Or.inl c51⟩]; done) | (rw [if_pos ⟨c45, Or.inr c57⟩]; done) | simp [*])
        · refine lv_iload hx hb dX8_rulingOf_71 (lv_at hl 1 rfl) ?_
          refine lv_goto (tgt := 77) hx hb dX8_rulingOf_73 (by decide) ?_
          exact e_i hx hb hlocks hr dX8_rulingOf_77 hS (by rw [hSy.2 _ (by omega), ← mrul_agr]; unfold mrul; first | (rw [if_pos ⟨c45, Or.inl c51⟩]; done) | (rw [if_pos ⟨c45, Or.inr c57⟩]; done) | simp [*])
      · refine lv_iload_n hx hb dX8_rulingOf_60 rfl (lv_at hl 2 rfl) ?_
        refine lv_goto (tgt := 77) hx hb dX8_rulingOf_61 (by decide) ?_
        exact e_i hx hb hlocks hr dX8_rulingOf_77 hS (by rw [hSy.2 _ (by omega), ← mrul_agr]; unfold mrul; first | (rw [if_pos ⟨c45, Or.inl c51⟩]; done) | (rw [if_pos ⟨c45, Or.inr c57⟩]; done) | simp [*])
set_option maxHeartbeats 4000000 in
set_option maxRecDepth 100000 in
/-- X8_isAgainst -/
theorem k_X8_isAgainst (l : Launch) (D : va_G) (ac : Nat → ClassId) (H : Heap) (A : Nat → Prop) (adr : Nat → Nat) (sf : Nat → Int32) (af : Nat → Nat → Int32) (hM : MW D A 24 adr (mw ac adr sf af) H) (fs fr : Nat → Int32) (hSy : SayR af fs fr) (k j : Nat) (hk : k < 4) (hj : j < 50) (x : Int32) : ROi l yX8_isAgainst wsX8_isAgainst ({ frames := 2, cells := 0, slots := 0, locals := 46 }) [.ref (adr 0), .int (nI k), .int (nI j), .int x] D ac H (fun r => r = if ¬ fr (k * 50 + j) = -1 ∧ ¬ fr (k * 50 + j) = x then 1 else 0) := by
  refine Met.ofW (cc := cX8_isAgainst) (maxL := 5) (ret := (some .boolean)) (by decide) rfl ?_
  intro p e s m args below meth c s₁ B hml hv
  obtain ⟨hargs, hsz, hK⟩ := hv
  have hx := B.exec
  have hb := B.bytes
  have hr := B.returns
  have hts := atoms_spec (ws := wsX8_isAgainst) B.pre
  have hown : s.vm.findClass RX8 = some m.cls := findClass_of_methodNamed B.named
  have hlocks := B.notSynchronized
  subst hsz
  have hS : va_S (fun _ => False) s.heap s.heap [] := va_S.rf
  have hl := lv_entry ([.ref (adr 0), .int (nI k), .int (nI j), .int x]) (n := 5) (Nat.le_of_ble_eq_true rfl)
  have hen := lg_entry_eq m [.ref (adr 0), .int (nI k), .int (nI j), .int x] 5
  rw [← hargs] at hen
  rw [hen]
  generalize (lg_sl ([.ref (adr 0), .int (nI k), .int (nI j), .int x]) ++ List.replicate (5 - (lg_sl ([.ref (adr 0), .int (nI k), .int (nI j), .int x])).length) Slot.unset).toArray = ls at hl ⊢
  have hl : lv_has ls 5 [(0, .ref (adr 0)), (1, .int (nI k)), (2, .int (nI j)), (3, .int x)] := hl
  refine lv_aload_n hx hb dX8_isAgainst_0 rfl (lv_at hl 0 rfl) ?_
  refine lv_iload_n hx hb dX8_isAgainst_1 rfl (lv_at hl 1 rfl) ?_
  refine lv_iload_n hx hb dX8_isAgainst_2 rfl (lv_at hl 2 rfl) ?_
  refine r_calli (va_runV (As := [.int (nI k), .int (nI j)]) (rest := []) ⟨hx, hb, hml, hown, hts⟩ (k_X8_rulingOf l D ac _ A adr sf af hM fs fr hSy k j (by omega) (by omega)) (cwV 2 hts gX8_isAgainst_X8_rulingOf rfl rfl rfl (by decide +kernel) ⟨Nat.le_of_ble_eq_true rfl, Nat.le_of_ble_eq_true rfl⟩) (pV hK (ci := 8) rfl (hM.cel (by omega) (show (mw ac adr sf af) 0 = .inr (8, mfs adr sf) from rfl))) rfl rfl hl.1 rfl (lv_room (Nat.le_of_ble_eq_true rfl)) dX8_isAgainst_3 ⟨Nat.le_of_ble_eq_true rfl, Nat.le_of_ble_eq_true rfl⟩) hS (fun rv_1 locs hrv_1 hS => ?_)
  subst hrv_1
  refine lv_istore (lv' := [(4, .int (fr (k * 50 + j))), (0, .ref (adr 0)), (1, .int (nI k)), (2, .int (nI j)), (3, .int x)]) hx hb dX8_isAgainst_6 hl (by decide) rfl (fun ls hl => ?_)
  refine lv_iload hx hb dX8_isAgainst_8 (lv_at hl 0 rfl) ?_
  refine lv_iconst (v := (-1)) hx hb dX8_isAgainst_10 (by decide) ?_
  refine lv_icmp_eq (tgt := 24) hx hb dX8_isAgainst_11 (by decide) (fun c11 => ?_) (fun c11 => ?_)
  · refine lv_iconst (v := 0) hx hb dX8_isAgainst_24 (by decide) ?_
    exact e_z hx hb hlocks hr dX8_isAgainst_25 (by decide) hS (by simp [*])
  · refine lv_iload hx hb dX8_isAgainst_14 (lv_at hl 0 rfl) ?_
    refine lv_iload_n hx hb dX8_isAgainst_16 rfl (lv_at hl 4 rfl) ?_
    refine lv_icmp_eq (tgt := 24) hx hb dX8_isAgainst_17 (by decide) (fun c17 => ?_) (fun c17 => ?_)
    · refine lv_iconst (v := 0) hx hb dX8_isAgainst_24 (by decide) ?_
      exact e_z hx hb hlocks hr dX8_isAgainst_25 (by decide) hS (by simp [*])
    · refine lv_iconst (v := 1) hx hb dX8_isAgainst_20 (by decide) ?_
      refine lv_goto (tgt := 25) hx hb dX8_isAgainst_21 (by decide) ?_
      exact e_z hx hb hlocks hr dX8_isAgainst_25 (by decide) hS (by simp [*])
