def Scr (sf : Nat → Int32) (af : Nat → Nat → Int32) (s1 : Nat → Int32) (a1 : Nat → Nat → Int32) : Prop := (∀ k, ¬ k = 0 → ¬ k = 11 → s1 k = sf k) ∧ (∀ k, ¬ k = 22 → ¬ k = 23 → a1 k = af k)
/-- how a call of the reference ends: which exception it notes; with one nothing has changed, without one N -/
def MPo (ac : Nat → ClassId) (adr : Nat → Nat) (sf : Nat → Int32) (af : Nat → Nat → Int32) (code : Nat) (N : Int32 → (Nat → Int32) → (Nat → Nat → Int32) → Prop) (r : Int32) (w1 : Nat → va_E) : Prop := ∃ (s1 : Nat → Int32) (a1 : Nat → Nat → Int32), w1 = mw ac adr s1 a1 ∧ s1 0 = nI code ∧ ((¬ code = 0 ∧ Scr sf af s1 a1) ∨ (code = 0 ∧ N r s1 a1))
section MPO
variable {ac : Nat → ClassId} {adr : Nat → Nat} {sf s1 : Nat → Int32} {af a1 : Nat → Nat → Int32} {code c : Nat} {N : Int32 → (Nat → Int32) → (Nat → Nat → Int32) → Prop} {r : Int32}
theorem MPo.no (hc : code = c) (hn : ¬ c = 0) (h0 : s1 0 = nI c) (hS : Scr sf af s1 a1) : MPo ac adr sf af code N r (mw ac adr s1 a1) := ⟨s1, a1, rfl, by rw [h0, hc], Or.inl ⟨by rw [hc]; exact hn, hS⟩⟩
theorem MPo.ok (hc : code = 0) (h0 : s1 0 = 0) (hN : N r s1 a1) : MPo ac adr sf af code N r (mw ac adr s1 a1) := ⟨s1, a1, rfl, by rw [h0, hc]; rfl, Or.inr ⟨hc, hN⟩⟩
end MPO
theorem MDra.row {sf s1 : Nat → Int32} {af a1 : Nat → Nat → Int32} {dl : Nat} {dw : Nat → Nat} (h : MDra sf af dl dw) (hl : 0 < dl) {g : Nat → Int32} (h11 : s1 11 = nI dl) (h22 : a1 22 = mixF dl (af 1) g) : MRow s1 a1 dl (fun j => nI (dw j)) :=
  ⟨h11, ⟨hl, h.2.1⟩, fun j hj => by rw [h22]; unfold mixF; rw [if_pos hj]; exact (h.2.2 j hj).1⟩
theorem cd2_0 {a b : Bool} (h : cd2 a b = 0) : a = false ∧ b = false := by
  cases a <;> cases b <;> first | exact ⟨rfl, rfl⟩ | (exact absurd h (by decide))
theorem cd1_0 {a : Bool} (h : cd1 a = 0) : a = false := by
  cases a <;> first | rfl | (exact absurd h (by decide))
theorem ix_ex {x : Int32} {n : Nat} (h : (ix x n).isNone = false) (hn : n < 2 ^ 31) : ∃ k, ix x n = some k ∧ k < n ∧ x = nI k := by
  rcases e : ix x n with _ | k
  · rw [e] at h; cases h
  · exact ⟨k, rfl, ix_of e hn⟩
theorem mbs_ix {li L ow : Nat → Int32} {le : Int32} {n : Nat} : ∀ i, i ≤ n → (mbs li L ow le i).1 = -1 ∨ ∃ k, k < n ∧ (mbs li L ow le i).1 = nI k := by
  intro i
  induction i with
  | zero => intro _; exact Or.inl rfl
  | succ i ih =>
    intro h
    simp only [mbs]
    split
    · exact Or.inr ⟨i, by omega, rfl⟩
    · exact ih (by omega)
set_option maxHeartbeats 4000000 in
set_option maxRecDepth 100000 in
/-- X8_word -/
theorem k_X8_word (l : Launch) (D : va_G) (ac : Nat → ClassId) (H : Heap) (A : Nat → Prop) (adr : Nat → Nat) (sf : Nat → Int32) (af : Nat → Nat → Int32) (hM : MW D A 24 adr (mw ac adr sf af) H) (dl : Nat) (dw : Nat → Nat) (hd : MDra sf af dl dw) (x : Int32) : WRi l yX8_word wsX8_word ({ frames := 1, cells := 0, slots := 0, locals := 21 }) [.ref (adr 0), .int x] D ac H A 24 adr (MPo ac adr sf af (cd2 (ix x 50).isNone (decide (dl = 8))) (fun r s1 a1 => ∃ k, x = nI k ∧ k < 50 ∧ dl < 8 ∧ r = nI (dl + 1) ∧ s1 = va_up (va_up sf 0 0) 1 (nI (dl + 1)) ∧ a1 = va_up af 1 (upd (af 1) dl (nI k)))) := by
  refine Met.ofW (cc := cX8_word) (maxL := 2) (ret := (some .int)) (by decide) rfl ?_
  intro p e s m args below meth c s₁ B hml hv
  obtain ⟨hargs, hsz, hK⟩ := hv
  have hx := B.exec
  have hb := B.bytes
  have hr := B.returns
  have hts := atoms_spec (ws := wsX8_word) B.pre
  have hown : s.vm.findClass RX8 = some m.cls := findClass_of_methodNamed B.named
  have hlocks := B.notSynchronized
  subst hsz
  have inX8_ : ∀ w ∈ wsX80, w ∈ wsX8_word := by decide +kernel
  have hS : va_S A s.heap s.heap [] := va_S.rf
  have hl := lv_entry ([.ref (adr 0), .int x]) (n := 2) (Nat.le_of_ble_eq_true rfl)
  have hen := lg_entry_eq m [.ref (adr 0), .int x] 2
  rw [← hargs] at hen
  rw [hen]
  generalize (lg_sl ([.ref (adr 0), .int x]) ++ List.replicate (2 - (lg_sl ([.ref (adr 0), .int x])).length) Slot.unset).toArray = ls at hl ⊢
  have hl : lv_has ls 2 [(0, .ref (adr 0)), (1, .int x)] := hl
  obtain ⟨Q0, hQ0⟩ : ∃ z, z = MQ below (va_Qi (MPo ac adr sf af (cd2 (ix x 50).isNone (decide (dl = 8))) (fun r s1 a1 => ∃ k, x = nI k ∧ k < 50 ∧ dl < 8 ∧ r = nI (dl + 1) ∧ s1 = va_up (va_up sf 0 0) 1 (nI (dl + 1)) ∧ a1 = va_up af 1 (upd (af 1) dl (nI k)))) (fun c t => MW D A 24 adr c t.heap) A) args s 0 0 A := ⟨_, rfl⟩
  rw [← hQ0]
  have h8 := hd.2.1
  refine lv_aload_n hx hb dX8_word_0 rfl (lv_at hl 0 rfl) ?_
  refine lv_iload_n hx hb dX8_word_1 rfl (lv_at hl 1 rfl) ?_
  refine lv_bipush (v := 50) hx hb dX8_word_2 (by decide) ?_
  refine m_top (show (50 : Int32) = nI 50 from rfl) ?_
  refine r_calli (va_runS (As := [.int x, .int (nI 50)]) (rest := [.ref (adr 0)]) ⟨hx, hb, hml, hown, hts⟩ (k_X8_isIn l D ac _ x 50 (by omega)) (va_cwS 2 hts gX8_word_X8_isIn rfl rfl rfl (by decide +kernel) ⟨Nat.le_of_ble_eq_true rfl, Nat.le_of_ble_eq_true rfl⟩) (pS hK) rfl rfl hl.1 rfl (lv_room (Nat.le_of_ble_eq_true rfl)) dX8_word_4 ⟨Nat.le_of_ble_eq_true rfl, Nat.le_of_ble_eq_true rfl⟩) hS (fun rv_1 locs hrv_1 hS => ?_)
  subst hrv_1
  rcases hi_x : ix x 50 with _ | k_x
  · refine m_top (show _ = (0 : Int32) from rfl) ?_
    refine lv_if_ne (tgt := 14) hx hb dX8_word_7 (by decide) (fun c7 => ?_) (fun c7 => ?_)
    · exact absurd c7 (by decide)
    · refine lv_iconst (v := 1) hx hb dX8_word_10 (by decide) ?_
      refine lv_goto (tgt := 28) hx hb dX8_word_11 (by decide) ?_
      refine w_calli (va_runV (As := [.int 1]) (rest := []) ⟨hx, hb, hml, hown, hts⟩ (k_X8_holds l D ac _ A adr sf af hM 1) (cwV 1 hts gX8_word_X8_holds rfl rfl rfl (by decide +kernel) ⟨Nat.le_of_ble_eq_true rfl, Nat.le_of_ble_eq_true rfl⟩) (pV hK (ci := 8) rfl (hM.cel (by omega) (show (mw ac adr sf af) 0 = .inr (8, mfs adr sf) from rfl))) rfl rfl hl.1 rfl (lv_room (Nat.le_of_ble_eq_true rfl)) dX8_word_28 ⟨Nat.le_of_ble_eq_true rfl, Nat.le_of_ble_eq_true rfl⟩) hS (fun rv_2 w_3 H locs hw_3 hM hS => ?_)
      obtain ⟨hrv_2, he_4⟩ := hw_3
      rw [he_4] at hM
      have hM := (MW.cg (s1 := (va_up sf 0 1)) (a1 := af) hM (fun j9 => if q0_ : j9 = 0 then (by subst q0_; rfl) else (by first | rfl | simp only [va_up, if_neg q0_])) (fun _ => rfl))
      subst hrv_2
      refine m_top (show _ = (0 : Int32) from rfl) ?_
      refine lv_if_ne (tgt := 36) hx hb dX8_word_31 (by decide) (fun c31 => ?_) (fun c31 => ?_)
      · exact absurd c31 (by decide)
      · refine lv_iconst (v := 0) hx hb dX8_word_34 (by decide) ?_
        rw [hQ0]
        exact e_wi hx hb hlocks hr dX8_word_35 hM hS (MPo.no (c := 1) (by simp [cd1, cd2, cd3, hi_x] : cd2 (ix x 50).isNone (decide (dl = 8)) = 1) (by decide) rfl ⟨fun k9 u1_ u2_ => by first | rfl | simp only [va_up, if_neg u1_, if_neg u2_], fun k9 u1_ u2_ => by first | rfl | simp only [va_up, if_neg u1_, if_neg u2_]⟩)
  · obtain ⟨b_x, e_x⟩ := ix_of hi_x (by omega)
    refine m_top (show _ = (1 : Int32) from rfl) ?_
    subst e_x
    refine lv_if_ne (tgt := 14) hx hb dX8_word_7 (by decide) (fun c7 => ?_) (fun c7 => ?_)
    · refine lv_aload_n hx hb dX8_word_14 rfl (lv_at hl 0 rfl) ?_
      refine m_get (ci := 8) (C := RX8) (T := TX8) (n := 35) (v := .int (sf 1)) hx hb hts inX8_ hown hK rfl (hM.cel (by omega) (show (mw ac adr sf af) 0 = .inr (8, mfs adr sf) from rfl)) 1 (by decide) (hts _ (by decide +kernel)) rfl dX8_word_15 ?_
      refine m_top (show (sf 1) = nI dl from hd.1) ?_
      refine lv_bipush (v := 8) hx hb dX8_word_18 (by decide) ?_
      refine lv_icmp_ne (tgt := 27) hx hb dX8_word_20 (by decide) (fun c20 => ?_) (fun c20 => ?_)
      · have f_dl : ¬ dl = 8 := fun q => c20 (congrArg nI q)
        refine lv_iconst (v := 0) hx hb dX8_word_27 (by decide) ?_
        refine w_calli (va_runV (As := [.int 0]) (rest := []) ⟨hx, hb, hml, hown, hts⟩ (k_X8_holds l D ac _ A adr sf af hM 0) (cwV 1 hts gX8_word_X8_holds rfl rfl rfl (by decide +kernel) ⟨Nat.le_of_ble_eq_true rfl, Nat.le_of_ble_eq_true rfl⟩) (pV hK (ci := 8) rfl (hM.cel (by omega) (show (mw ac adr sf af) 0 = .inr (8, mfs adr sf) from rfl))) rfl rfl hl.1 rfl (lv_room (Nat.le_of_ble_eq_true rfl)) dX8_word_28 ⟨Nat.le_of_ble_eq_true rfl, Nat.le_of_ble_eq_true rfl⟩) hS (fun rv_5 w_6 H locs hw_6 hM hS => ?_)
        obtain ⟨hrv_5, he_7⟩ := hw_6
        rw [he_7] at hM
        have hM := (MW.cg (s1 := (va_up sf 0 0)) (a1 := af) hM (fun j9 => if q0_ : j9 = 0 then (by subst q0_; rfl) else (by first | rfl | simp only [va_up, if_neg q0_])) (fun _ => rfl))
        subst hrv_5
        refine m_top (show _ = (1 : Int32) from rfl) ?_
        refine lv_if_ne (tgt := 36) hx hb dX8_word_31 (by decide) (fun c31 => ?_) (fun c31 => ?_)
        · refine lv_aload_n hx hb dX8_word_36 rfl (lv_at hl 0 rfl) ?_
          refine m_get (ci := 8) (C := RX8) (T := TX8) (n := 35) (v := .ref (adr 1)) hx hb hts inX8_ hown hK rfl (hM.cel (by omega) (show (mw ac adr (va_up sf 0 0) af) 0 = .inr (8, mfs adr (va_up sf 0 0)) from rfl)) 2 (by decide) (hts _ (by decide +kernel)) rfl dX8_word_37 ?_
          refine lv_aload_n hx hb dX8_word_40 rfl (lv_at hl 0 rfl) ?_
          refine m_get (ci := 8) (C := RX8) (T := TX8) (n := 35) (v := .int (sf 1)) hx hb hts inX8_ hown hK rfl (hM.cel (by omega) (show (mw ac adr (va_up sf 0 0) af) 0 = .inr (8, mfs adr (va_up sf 0 0)) from rfl)) 1 (by decide) (hts _ (by decide +kernel)) rfl dX8_word_41 ?_
          refine m_top (show (sf 1) = nI dl from hd.1) ?_
          refine lv_iload_n hx hb dX8_word_44 rfl (lv_at hl 1 rfl) ?_
          refine m_iast hx hb hK hM hS 1 (by omega) (show (mw ac adr (va_up sf 0 0) af) 1 = .inl (ac 0, 8, .inl (af 1)) from rfl) (vp_in_nI (by omega) (by decide)) dX8_word_45 (fun H locs hM hS => ?_)
          have ef_ : (upd (af 1) (nI dl).toNatClampNeg (nI k_x)) = upd (af 1) dl (nI k_x) := by rw [nI_clamp (by omega)]
          rw [ef_] at hM
          clear ef_
          have hM := MW.marr (a1 := (va_up af 1 (upd (af 1) dl (nI k_x)))) hM (by decide) rfl rfl (fun j9 hj9 => by simp only [va_up, if_neg hj9])
          refine lv_aload_n hx hb dX8_word_46 rfl (lv_at hl 0 rfl) ?_
          refine lv_dup hx hb dX8_word_47 rfl ?_
          refine m_get (ci := 8) (C := RX8) (T := TX8) (n := 35) (v := .int (sf 1)) hx hb hts inX8_ hown hK rfl (hM.cel (by omega) (show (mw ac adr (va_up sf 0 0) (va_up af 1 (upd (af 1) dl (nI k_x)))) 0 = .inr (8, mfs adr (va_up sf 0 0)) from rfl)) 1 (by decide) (hts _ (by decide +kernel)) rfl dX8_word_48 ?_
          refine m_top (show (sf 1) = nI dl from hd.1) ?_
          refine lv_iconst (v := 1) hx hb dX8_word_51 (by decide) ?_
          refine lv_iadd hx hb dX8_word_52 ?_
          refine m_top (show ((nI dl) + 1) = nI (dl + 1) from nI_1 _) ?_
          refine m_put (ci := 8) (C := RX8) (T := TX8) (n := 35) (v := .int (nI (dl + 1))) (ty := tyX8 1) hx hb hts inX8_ tyX8 tyX8_ok nmX8 hown hK hM hS rfl 0 (by omega) (show (mw ac adr (va_up sf 0 0) (va_up af 1 (upd (af 1) dl (nI k_x)))) 0 = .inr (8, mfs adr (va_up sf 0 0)) from rfl) 1 (by decide) (hts _ (by decide +kernel)) rfl (by decide +kernel) rfl rfl (Nat.le_of_ble_eq_true rfl) dX8_word_53 (fun H locs hM hS => ?_)
          have hM : MW D A 24 adr (va_up (mw ac adr (va_up sf 0 0) (va_up af 1 (upd (af 1) dl (nI k_x)))) 0 (.inr (8, mfs adr (va_up (va_up sf 0 0) 1 (nI (dl + 1)))))) H := hM
          have hM := MW.mobj (s1 := (va_up (va_up sf 0 0) 1 (nI (dl + 1)))) hM rfl
          refine lv_aload_n hx hb dX8_word_56 rfl (lv_at hl 0 rfl) ?_
          refine m_get (ci := 8) (C := RX8) (T := TX8) (n := 35) (v := .int (nI (dl + 1))) hx hb hts inX8_ hown hK rfl (hM.cel (by omega) (show (mw ac adr (va_up (va_up sf 0 0) 1 (nI (dl + 1))) (va_up af 1 (upd (af 1) dl (nI k_x)))) 0 = .inr (8, mfs adr (va_up (va_up sf 0 0) 1 (nI (dl + 1)))) from rfl)) 1 (by decide) (hts _ (by decide +kernel)) rfl dX8_word_57 ?_
          rw [hQ0]
          exact e_wi hx hb hlocks hr dX8_word_60 hM hS (MPo.ok (by simp [cd1, cd2, cd3, hi_x, f_dl] : cd2 (ix (nI k_x) 50).isNone (decide (dl = 8)) = 0) rfl ⟨k_x, rfl, b_x, by omega, rfl, rfl, rfl⟩)
        · exact absurd c31 (by decide)
      · have f_dl : dl = 8 := (nI_eq (a := dl) (b := 8) (by omega) (by omega)).mp c20
        refine lv_iconst (v := 2) hx hb dX8_word_23 (by decide) ?_
        refine lv_goto (tgt := 28) hx hb dX8_word_24 (by decide) ?_
        refine w_calli (va_runV (As := [.int 2]) (rest := []) ⟨hx, hb, hml, hown, hts⟩ (k_X8_holds l D ac _ A adr sf af hM 2) (cwV 1 hts gX8_word_X8_holds rfl rfl rfl (by decide +kernel) ⟨Nat.le_of_ble_eq_true rfl, Nat.le_of_ble_eq_true rfl⟩) (pV hK (ci := 8) rfl (hM.cel (by omega) (show (mw ac adr sf af) 0 = .inr (8, mfs adr sf) from rfl))) rfl rfl hl.1 rfl (lv_room (Nat.le_of_ble_eq_true rfl)) dX8_word_28 ⟨Nat.le_of_ble_eq_true rfl, Nat.le_of_ble_eq_true rfl⟩) hS (fun rv_9 w_10 H locs hw_10 hM hS => ?_)
        obtain ⟨hrv_9, he_11⟩ := hw_10
        rw [he_11] at hM
        have hM := (MW.cg (s1 := (va_up sf 0 2)) (a1 := af) hM (fun j9 => if q0_ : j9 = 0 then (by subst q0_; rfl) else (by first | rfl | simp only [va_up, if_neg q0_])) (fun _ => rfl))
        subst hrv_9
        refine m_top (show _ = (0 : Int32) from rfl) ?_
        refine lv_if_ne (tgt := 36) hx hb dX8_word_31 (by decide) (fun c31 => ?_) (fun c31 => ?_)
        · exact absurd c31 (by decide)
        · refine lv_iconst (v := 0) hx hb dX8_word_34 (by decide) ?_
          rw [hQ0]
          exact e_wi hx hb hlocks hr dX8_word_35 hM hS (MPo.no (c := 2) (by simp [cd1, cd2, cd3, hi_x, f_dl] : cd2 (ix (nI k_x) 50).isNone (decide (dl = 8)) = 2) (by decide) rfl ⟨fun k9 u1_ u2_ => by first | rfl | simp only [va_up, if_neg u1_, if_neg u2_], fun k9 u1_ u2_ => by first | rfl | simp only [va_up, if_neg u1_, if_neg u2_]⟩)
    · exact absurd c7 (by decide)
set_option maxHeartbeats 4000000 in
set_option maxRecDepth 100000 in
/-- X8_clear -/
theorem k_X8_clear (l : Launch) (D : va_G) (ac : Nat → ClassId) (H : Heap) (A : Nat → Prop) (adr : Nat → Nat) (sf : Nat → Int32) (af : Nat → Nat → Int32) (hM : MW D A 24 adr (mw ac adr sf af) H) (dl : Nat) (dw : Nat → Nat) (hd : MDra sf af dl dw) : WRi l yX8_clear wsX8_clear ({ frames := 0, cells := 0, slots := 0, locals := 0 }) [.ref (adr 0)] D ac H A 24 adr (fun r w1 => r = nI dl ∧ w1 = mw ac adr (va_up (va_up sf 0 0) 1 0) af) := by
  refine Met.ofW (cc := cX8_clear) (maxL := 2) (ret := (some .int)) (by decide) rfl ?_
  intro p e s m args below meth c s₁ B hml hv
  obtain ⟨hargs, hsz, hK⟩ := hv
  have hx := B.exec
  have hb := B.bytes
  have hr := B.returns
  have hts := atoms_spec (ws := wsX8_clear) B.pre
  have hown : s.vm.findClass RX8 = some m.cls := findClass_of_methodNamed B.named
  have hlocks := B.notSynchronized
  subst hsz
  have inX8_ : ∀ w ∈ wsX80, w ∈ wsX8_clear := by decide +kernel
  have hS : va_S A s.heap s.heap [] := va_S.rf
  have hl := lv_entry ([.ref (adr 0)]) (n := 2) (Nat.le_of_ble_eq_true rfl)
  have hen := lg_entry_eq m [.ref (adr 0)] 2
  rw [← hargs] at hen
  rw [hen]
  generalize (lg_sl ([.ref (adr 0)]) ++ List.replicate (2 - (lg_sl ([.ref (adr 0)])).length) Slot.unset).toArray = ls at hl ⊢
  have hl : lv_has ls 2 [(0, .ref (adr 0))] := hl
  refine lv_aload_n hx hb dX8_clear_0 rfl (lv_at hl 0 rfl) ?_
  refine lv_iconst (v := 0) hx hb dX8_clear_1 (by decide) ?_
  refine m_put (ci := 8) (C := RX8) (T := TX8) (n := 35) (v := .int 0) (ty := tyX8 0) hx hb hts inX8_ tyX8 tyX8_ok nmX8 hown hK hM hS rfl 0 (by omega) (show (mw ac adr sf af) 0 = .inr (8, mfs adr sf) from rfl) 0 (by decide) (hts _ (by decide +kernel)) rfl (by decide +kernel) rfl rfl (Nat.le_of_ble_eq_true rfl) dX8_clear_2 (fun H locs hM hS => ?_)
  have hM : MW D A 24 adr (va_up (mw ac adr sf af) 0 (.inr (8, mfs adr (va_up sf 0 0)))) H := hM
  have hM := MW.mobj (s1 := (va_up sf 0 0)) hM rfl
  refine lv_aload_n hx hb dX8_clear_5 rfl (lv_at hl 0 rfl) ?_
  refine m_get (ci := 8) (C := RX8) (T := TX8) (n := 35) (v := .int (sf 1)) hx hb hts inX8_ hown hK rfl (hM.cel (by omega) (show (mw ac adr (va_up sf 0 0) af) 0 = .inr (8, mfs adr (va_up sf 0 0)) from rfl)) 1 (by decide) (hts _ (by decide +kernel)) rfl dX8_clear_6 ?_
  refine m_top (show (sf 1) = nI dl from hd.1) ?_
  refine lv_istore_n (lv' := [(1, .int (nI dl)), (0, .ref (adr 0))]) hx hb dX8_clear_9 rfl hl (by decide) rfl (fun ls hl => ?_)
  refine lv_aload_n hx hb dX8_clear_10 rfl (lv_at hl 1 rfl) ?_
  refine lv_iconst (v := 0) hx hb dX8_clear_11 (by decide) ?_
  refine m_put (ci := 8) (C := RX8) (T := TX8) (n := 35) (v := .int 0) (ty := tyX8 1) hx hb hts inX8_ tyX8 tyX8_ok nmX8 hown hK hM hS rfl 0 (by omega) (show (mw ac adr (va_up sf 0 0) af) 0 = .inr (8, mfs adr (va_up sf 0 0)) from rfl) 1 (by decide) (hts _ (by decide +kernel)) rfl (by decide +kernel) rfl rfl (Nat.le_of_ble_eq_true rfl) dX8_clear_12 (fun H locs hM hS => ?_)
  have hM : MW D A 24 adr (va_up (mw ac adr (va_up sf 0 0) af) 0 (.inr (8, mfs adr (va_up (va_up sf 0 0) 1 0)))) H := hM
  have hM := MW.mobj (s1 := (va_up (va_up sf 0 0) 1 0)) hM rfl
  refine lv_iload_n hx hb dX8_clear_15 rfl (lv_at hl 0 rfl) ?_
  exact e_wi hx hb hlocks hr dX8_clear_16 hM hS (⟨rfl, rfl⟩)
set_option maxHeartbeats 4000000 in
set_option maxRecDepth 100000 in
/-- X8_isSentence -/
theorem k_X8_isSentence (l : Launch) (D : va_G) (ac : Nat → ClassId) (H : Heap) (A : Nat → Prop) (adr : Nat → Nat) (sf : Nat → Int32) (af : Nat → Nat → Int32) (hM : MW D A 24 adr (mw ac adr sf af) H) (ns : Nat) (sc sn : Nat → Nat) (sw : Nat → Nat → Nat) (sb : Nat → Nat → Int32) (hs : MSen sf af ns sc sn sw sb) (x : Int32) : ROi l yX8_isSentence wsX8_isSentence ({ frames := 1, cells := 0, slots := 0, locals := 21 }) [.ref (adr 0), .int x] D ac H (fun r => r = if (ix x ns).isSome then 1 else 0) := by
  refine Met.ofW (cc := cX8_isSentence) (maxL := 2) (ret := (some .boolean)) (by decide) rfl ?_
  intro p e s m args below meth c s₁ B hml hv
  obtain ⟨hargs, hsz, hK⟩ := hv
  have hx := B.exec
  have hb := B.bytes
  have hr := B.returns
  have hts := atoms_spec (ws := wsX8_isSentence) B.pre
  have hown : s.vm.findClass RX8 = some m.cls := findClass_of_methodNamed B.named
  have hlocks := B.notSynchronized
  subst hsz
  have inX8_ : ∀ w ∈ wsX80, w ∈ wsX8_isSentence := by decide +kernel
  have hS : va_S (fun _ => False) s.heap s.heap [] := va_S.rf
  have hl := lv_entry ([.ref (adr 0), .int x]) (n := 2) (Nat.le_of_ble_eq_true rfl)
  have hen := lg_entry_eq m [.ref (adr 0), .int x] 2
  rw [← hargs] at hen
  rw [hen]
  generalize (lg_sl ([.ref (adr 0), .int x]) ++ List.replicate (2 - (lg_sl ([.ref (adr 0), .int x])).length) Slot.unset).toArray = ls at hl ⊢
  have hl : lv_has ls 2 [(0, .ref (adr 0)), (1, .int x)] := hl
  refine lv_iload_n hx hb dX8_isSentence_0 rfl (lv_at hl 1 rfl) ?_
  refine lv_aload_n hx hb dX8_isSentence_1 rfl (lv_at hl 0 rfl) ?_
  refine m_get (ci := 8) (C := RX8) (T := TX8) (n := 35) (v := .int (sf 5)) hx hb hts inX8_ hown hK rfl (hM.cel (by omega) (show (mw ac adr sf af) 0 = .inr (8, mfs adr sf) from rfl)) 6 (by decide) (hts _ (by decide +kernel)) rfl dX8_isSentence_2 ?_
  refine m_top (show (sf 5) = nI ns from hs.1) ?_
  have h8 := hs.2.1
  refine r_calli (va_runS (As := [.int x, .int (nI ns)]) (rest := []) ⟨hx, hb, hml, hown, hts⟩ (k_X8_isIn l D ac _ x ns (by omega)) (va_cwS 2 hts gX8_isSentence_X8_isIn rfl rfl rfl (by decide +kernel) ⟨Nat.le_of_ble_eq_true rfl, Nat.le_of_ble_eq_true rfl⟩) (pS hK) rfl rfl hl.1 rfl (lv_room (Nat.le_of_ble_eq_true rfl)) dX8_isSentence_5 ⟨Nat.le_of_ble_eq_true rfl, Nat.le_of_ble_eq_true rfl⟩) hS (fun rv_1 locs hrv_1 hS => ?_)
  subst hrv_1
  exact e_z hx hb hlocks hr dX8_isSentence_8 (by first | assumption | (split <;> decide)) hS (rfl)
set_option maxHeartbeats 4000000 in
set_option maxRecDepth 100000 in
/-- X8_likeness -/
theorem k_X8_likeness (l : Launch) (D : va_G) (ac : Nat → ClassId) (H : Heap) (A : Nat → Prop) (adr : Nat → Nat) (sf : Nat → Int32) (af : Nat → Nat → Int32) (hM : MW D A 24 adr (mw ac adr sf af) H) (ns : Nat) (sc sn : Nat → Nat) (sw : Nat → Nat → Nat) (sb : Nat → Nat → Int32) (hs : MSen sf af ns sc sn sw sb) (dl : Nat) (dw : Nat → Nat) (hd : MDra sf af dl dw) (x : Int32) : WRi l yX8_likeness wsX8_likeness ({ frames := 3, cells := 0, slots := 0, locals := 68 }) [.ref (adr 0), .int x] D ac H A 24 adr (MPo ac adr sf af (cd2 (ix x ns).isNone (decide (dl = 0))) (fun r s1 a1 => ∃ i, i < ns ∧ x = nI i ∧ 0 < dl ∧ r = lkM dl (fun j => nI (dw j)) sn sw i ∧ Scr sf af s1 a1)) := by
  refine Met.ofW (cc := cX8_likeness) (maxL := 2) (ret := (some .int)) (by decide) rfl ?_
  intro p e s m args below meth c s₁ B hml hv
  obtain ⟨hargs, hsz, hK⟩ := hv
  have hx := B.exec
  have hb := B.bytes
  have hr := B.returns
  have hts := atoms_spec (ws := wsX8_likeness) B.pre
  have hown : s.vm.findClass RX8 = some m.cls := findClass_of_methodNamed B.named
  have hlocks := B.notSynchronized
  subst hsz
  have inX8_ : ∀ w ∈ wsX80, w ∈ wsX8_likeness := by decide +kernel
  have hS : va_S A s.heap s.heap [] := va_S.rf
  have hl := lv_entry ([.ref (adr 0), .int x]) (n := 2) (Nat.le_of_ble_eq_true rfl)
  have hen := lg_entry_eq m [.ref (adr 0), .int x] 2
  rw [← hargs] at hen
  rw [hen]
  generalize (lg_sl ([.ref (adr 0), .int x]) ++ List.replicate (2 - (lg_sl ([.ref (adr 0), .int x])).length) Slot.unset).toArray = ls at hl ⊢
  have hl : lv_has ls 2 [(0, .ref (adr 0)), (1, .int x)] := hl
  obtain ⟨Q0, hQ0⟩ : ∃ z, z = MQ below (va_Qi (MPo ac adr sf af (cd2 (ix x ns).isNone (decide (dl = 0))) (fun r s1 a1 => ∃ i, i < ns ∧ x = nI i ∧ 0 < dl ∧ r = lkM dl (fun j => nI (dw j)) sn sw i ∧ Scr sf af s1 a1)) (fun c t => MW D A 24 adr c t.heap) A) args s 0 0 A := ⟨_, rfl⟩
  rw [← hQ0]
  have h8 := hd.2.1
  have h7 := hs.2.1
  refine lv_aload_n hx hb dX8_likeness_0 rfl (lv_at hl 0 rfl) ?_
  refine lv_aload_n hx hb dX8_likeness_1 rfl (lv_at hl 0 rfl) ?_
  refine lv_iload_n hx hb dX8_likeness_2 rfl (lv_at hl 1 rfl) ?_
  refine r_calli (va_runV (As := [.int x]) (rest := [.ref (adr 0)]) ⟨hx, hb, hml, hown, hts⟩ (k_X8_isSentence l D ac _ A adr sf af hM ns sc sn sw sb (hs.t rfl rfl rfl rfl rfl) x) (cwV 1 hts gX8_likeness_X8_isSentence rfl rfl rfl (by decide +kernel) ⟨Nat.le_of_ble_eq_true rfl, Nat.le_of_ble_eq_true rfl⟩) (pV hK (ci := 8) rfl (hM.cel (by omega) (show (mw ac adr sf af) 0 = .inr (8, mfs adr sf) from rfl))) rfl rfl hl.1 rfl (lv_room (Nat.le_of_ble_eq_true rfl)) dX8_likeness_3 ⟨Nat.le_of_ble_eq_true rfl, Nat.le_of_ble_eq_true rfl⟩) hS (fun rv_1 locs hrv_1 hS => ?_)
  subst hrv_1
  rcases hi_x : ix x ns with _ | k_x
  · refine m_top (show _ = (0 : Int32) from rfl) ?_
    refine lv_if_ne (tgt := 13) hx hb dX8_likeness_6 (by decide) (fun c6 => ?_) (fun c6 => ?_)
    · exact absurd c6 (by decide)
    · refine lv_iconst (v := 1) hx hb dX8_likeness_9 (by decide) ?_
      refine lv_goto (tgt := 25) hx hb dX8_likeness_10 (by decide) ?_
      refine w_calli (va_runV (As := [.int 1]) (rest := []) ⟨hx, hb, hml, hown, hts⟩ (k_X8_holds l D ac _ A adr sf af hM 1) (cwV 1 hts gX8_likeness_X8_holds rfl rfl rfl (by decide +kernel) ⟨Nat.le_of_ble_eq_true rfl, Nat.le_of_ble_eq_true rfl⟩) (pV hK (ci := 8) rfl (hM.cel (by omega) (show (mw ac adr sf af) 0 = .inr (8, mfs adr sf) from rfl))) rfl rfl hl.1 rfl (lv_room (Nat.le_of_ble_eq_true rfl)) dX8_likeness_25 ⟨Nat.le_of_ble_eq_true rfl, Nat.le_of_ble_eq_true rfl⟩) hS (fun rv_2 w_3 H locs hw_3 hM hS => ?_)
      obtain ⟨hrv_2, he_4⟩ := hw_3
      rw [he_4] at hM
      have hM := (MW.cg (s1 := (va_up sf 0 1)) (a1 := af) hM (fun j9 => if q0_ : j9 = 0 then (by subst q0_; rfl) else (by first | rfl | simp only [va_up, if_neg q0_])) (fun _ => rfl))
      subst hrv_2
      refine m_top (show _ = (0 : Int32) from rfl) ?_
      refine lv_if_ne (tgt := 33) hx hb dX8_likeness_28 (by decide) (fun c28 => ?_) (fun c28 => ?_)
      · exact absurd c28 (by decide)
      · refine lv_iconst (v := 0) hx hb dX8_likeness_31 (by decide) ?_
        rw [hQ0]
        exact e_wi hx hb hlocks hr dX8_likeness_32 hM hS (MPo.no (c := 1) (by simp [cd1, cd2, cd3, hi_x] : cd2 (ix x ns).isNone (decide (dl = 0)) = 1) (by decide) rfl ⟨fun k9 u1_ u2_ => by first | rfl | simp only [va_up, if_neg u1_, if_neg u2_], fun k9 u1_ u2_ => by first | rfl | simp only [va_up, if_neg u1_, if_neg u2_]⟩)
  · obtain ⟨b_x, e_x⟩ := ix_of hi_x (by omega)
    refine m_top (show _ = (1 : Int32) from rfl) ?_
    subst e_x
    refine lv_if_ne (tgt := 13) hx hb dX8_likeness_6 (by decide) (fun c6 => ?_) (fun c6 => ?_)
    · refine lv_aload_n hx hb dX8_likeness_13 rfl (lv_at hl 0 rfl) ?_
      refine m_get (ci := 8) (C := RX8) (T := TX8) (n := 35) (v := .int (sf 1)) hx hb hts inX8_ hown hK rfl (hM.cel (by omega) (show (mw ac adr sf af) 0 = .inr (8, mfs adr sf) from rfl)) 1 (by decide) (hts _ (by decide +kernel)) rfl dX8_likeness_14 ?_
      refine m_top (show (sf 1) = nI dl from hd.1) ?_
      refine lv_if_ne (tgt := 24) hx hb dX8_likeness_17 (by decide) (fun c17 => ?_) (fun c17 => ?_)
      · have f_dl : ¬ dl = 0 := fun q => c17 (congrArg nI q)
        refine lv_iconst (v := 0) hx hb dX8_likeness_24 (by decide) ?_
        refine w_calli (va_runV (As := [.int 0]) (rest := []) ⟨hx, hb, hml, hown, hts⟩ (k_X8_holds l D ac _ A adr sf af hM 0) (cwV 1 hts gX8_likeness_X8_holds rfl rfl rfl (by decide +kernel) ⟨Nat.le_of_ble_eq_true rfl, Nat.le_of_ble_eq_true rfl⟩) (pV hK (ci := 8) rfl (hM.cel (by omega) (show (mw ac adr sf af) 0 = .inr (8, mfs adr sf) from rfl))) rfl rfl hl.1 rfl (lv_room (Nat.le_of_ble_eq_true rfl)) dX8_likeness_25 ⟨Nat.le_of_ble_eq_true rfl, Nat.le_of_ble_eq_true rfl⟩) hS (fun rv_5 w_6 H locs hw_6 hM hS => ?_)
        obtain ⟨hrv_5, he_7⟩ := hw_6
        rw [he_7] at hM
        have hM := (MW.cg (s1 := (va_up sf 0 0)) (a1 := af) hM (fun j9 => if q0_ : j9 = 0 then (by subst q0_; rfl) else (by first | rfl | simp only [va_up, if_neg q0_])) (fun _ => rfl))
        subst hrv_5
        refine m_top (show _ = (1 : Int32) from rfl) ?_
        refine lv_if_ne (tgt := 33) hx hb dX8_likeness_28 (by decide) (fun c28 => ?_) (fun c28 => ?_)
        · refine lv_aload_n hx hb dX8_likeness_33 rfl (lv_at hl 0 rfl) ?_
          refine w_callv (va_runV (As := []) (rest := []) ⟨hx, hb, hml, hown, hts⟩ (k_X8_takesDraft l D ac _ A adr (va_up sf 0 0) af hM dl dw (hd.t rfl rfl)) (cwV 0 hts gX8_likeness_X8_takesDraft rfl rfl rfl (by decide +kernel) ⟨Nat.le_of_ble_eq_true rfl, Nat.le_of_ble_eq_true rfl⟩) (pV hK (ci := 8) rfl (hM.cel (by omega) (show (mw ac adr (va_up sf 0 0) af) 0 = .inr (8, mfs adr (va_up sf 0 0)) from rfl))) rfl rfl hl.1 rfl (lv_room (Nat.le_of_ble_eq_true rfl)) dX8_likeness_34 ⟨Nat.le_of_ble_eq_true rfl, Nat.le_of_ble_eq_true rfl⟩) hS (fun w_9 H locs hw_9 hM hS => ?_)
          have he_10 := hw_9
          rw [he_10] at hM
          have hM := (MW.cg (s1 := (va_up (va_up sf 0 0) 11 (nI dl))) (a1 := (va_up af 22 (mixF dl (af 1) (af 22)))) hM (fun j9 => if q0_ : j9 = 11 then (by subst q0_; rfl) else (by first | rfl | simp only [va_up, if_neg q0_])) (fun j9 => if q0_ : j9 = 22 then (by subst q0_; rfl) else (by first | rfl | simp only [va_up, if_neg q0_])))
          refine lv_aload_n hx hb dX8_likeness_37 rfl (lv_at hl 0 rfl) ?_
          refine lv_iload_n hx hb dX8_likeness_38 rfl (lv_at hl 1 rfl) ?_
          have hdl : 0 < dl := by omega
          refine w_calli (va_runV (As := [.int (nI k_x)]) (rest := []) ⟨hx, hb, hml, hown, hts⟩ (k_X8_likenessOf l D ac _ A adr (va_up (va_up sf 0 0) 11 (nI dl)) (va_up af 22 (mixF dl (af 1) (af 22))) hM ns sc sn sw sb (hs.t rfl rfl rfl rfl rfl) dl (fun j => nI (dw j)) (hd.row hdl rfl rfl) k_x (by omega)) (cwV 1 hts gX8_likeness_X8_likenessOf rfl rfl rfl (by decide +kernel) ⟨Nat.le_of_ble_eq_true rfl, Nat.le_of_ble_eq_true rfl⟩) (pV hK (ci := 8) rfl (hM.cel (by omega) (show (mw ac adr (va_up (va_up sf 0 0) 11 (nI dl)) (va_up af 22 (mixF dl (af 1) (af 22)))) 0 = .inr (8, mfs adr (va_up (va_up sf 0 0) 11 (nI dl))) from rfl))) rfl rfl hl.1 rfl (lv_room (Nat.le_of_ble_eq_true rfl)) dX8_likeness_39 ⟨Nat.le_of_ble_eq_true rfl, Nat.le_of_ble_eq_true rfl⟩) hS (fun rv_12 w_13 H locs hw_13 hM hS => ?_)
          obtain ⟨hrv_12, T_11, he_14⟩ := hw_13
          rw [he_14] at hM
          have hM := (MW.cg (s1 := (va_up (va_up sf 0 0) 11 (nI dl))) (a1 := (va_up (va_up af 22 (mixF dl (af 1) (af 22))) 23 T_11)) hM (fun _ => rfl) (fun j9 => if q0_ : j9 = 23 then (by subst q0_; rfl) else (by first | rfl | simp only [va_up, if_neg q0_])))
          subst hrv_12
          rw [hQ0]
          exact e_wi hx hb hlocks hr dX8_likeness_42 hM hS (MPo.ok (by simp [cd1, cd2, cd3, hi_x, f_dl] : cd2 (ix (nI k_x) ns).isNone (decide (dl = 0)) = 0) rfl ⟨k_x, b_x, rfl, by omega, rfl, ⟨fun k9 u1_ u2_ => by first | rfl | simp only [va_up, if_neg u1_, if_neg u2_], fun k9 u1_ u2_ => by first | rfl | simp only [va_up, if_neg u1_, if_neg u2_]⟩⟩)
        · exact absurd c28 (by decide)
      · have f_dl : dl = 0 := (nI_eq (a := dl) (b := 0) (by omega) (by omega)).mp c17
        refine lv_iconst (v := 2) hx hb dX8_likeness_20 (by decide) ?_
        refine lv_goto (tgt := 25) hx hb dX8_likeness_21 (by decide) ?_
        refine w_calli (va_runV (As := [.int 2]) (rest := []) ⟨hx, hb, hml, hown, hts⟩ (k_X8_holds l D ac _ A adr sf af hM 2) (cwV 1 hts gX8_likeness_X8_holds rfl rfl rfl (by decide +kernel) ⟨Nat.le_of_ble_eq_true rfl, Nat.le_of_ble_eq_true rfl⟩) (pV hK (ci := 8) rfl (hM.cel (by omega) (show (mw ac adr sf af) 0 = .inr (8, mfs adr sf) from rfl))) rfl rfl hl.1 rfl (lv_room (Nat.le_of_ble_eq_true rfl)) dX8_likeness_25 ⟨Nat.le_of_ble_eq_true rfl, Nat.le_of_ble_eq_true rfl⟩) hS (fun rv_15 w_16 H locs hw_16 hM hS => ?_)
        obtain ⟨hrv_15, he_17⟩ := hw_16
        rw [he_17] at hM
        have hM := (MW.cg (s1 := (va_up sf 0 2)) (a1 := af) hM (fun j9 => if q0_ : j9 = 0 then (by subst q0_; rfl) else (by first | rfl | simp only [va_up, if_neg q0_])) (fun _ => rfl))
        subst hrv_15
        refine m_top (show _ = (0 : Int32) from rfl) ?_
        refine lv_if_ne (tgt := 33) hx hb dX8_likeness_28 (by decide) (fun c28 => ?_) (fun c28 => ?_)
        · exact absurd c28 (by decide)
        · refine lv_iconst (v := 0) hx hb dX8_likeness_31 (by decide) ?_
          rw [hQ0]
          exact e_wi hx hb hlocks hr dX8_likeness_32 hM hS (MPo.no (c := 2) (by simp [cd1, cd2, cd3, hi_x, f_dl] : cd2 (ix (nI k_x) ns).isNone (decide (dl = 0)) = 2) (by decide) rfl ⟨fun k9 u1_ u2_ => by first | rfl | simp only [va_up, if_neg u1_, if_neg u2_], fun k9 u1_ u2_ => by first | rfl | simp only [va_up, if_neg u1_, if_neg u2_]⟩)
    · exact absurd c6 (by decide)
set_option maxHeartbeats 4000000 in
set_option maxRecDepth 100000 in
/-- X8_isAsked -/
theorem k_X8_isAsked (l : Launch) (D : va_G) (ac : Nat → ClassId) (H : Heap) (A : Nat → Prop) (adr : Nat → Nat) (sf : Nat → Int32) (af : Nat → Nat → Int32) (hM : MW D A 24 adr (mw ac adr sf af) H) (dl : Nat) (dw : Nat → Nat) (hd : MDra sf af dl dw) (x : Int32) : WRi l yX8_isAsked wsX8_isAsked ({ frames := 1, cells := 0, slots := 0, locals := 21 }) [.ref (adr 0), .int x] D ac H A 24 adr (fun r w1 => r = (if cd2 (ix x 4).isNone (decide (dl = 0)) = 0 then 1 else 0) ∧ w1 = mw ac adr (va_up (va_up sf 0 (nI (cd2 (ix x 4).isNone (decide (dl = 0))))) 11 (nI dl)) (va_up af 22 (mixF dl (af 1) (af 22)))) := by
  refine Met.ofW (cc := cX8_isAsked) (maxL := 3) (ret := (some .boolean)) (by decide) rfl ?_
  intro p e s m args below meth c s₁ B hml hv
  obtain ⟨hargs, hsz, hK⟩ := hv
  have hx := B.exec
  have hb := B.bytes
  have hr := B.returns
  have hts := atoms_spec (ws := wsX8_isAsked) B.pre
  have hown : s.vm.findClass RX8 = some m.cls := findClass_of_methodNamed B.named
  have hlocks := B.notSynchronized
  subst hsz
  have inX8_ : ∀ w ∈ wsX80, w ∈ wsX8_isAsked := by decide +kernel
  have hS : va_S A s.heap s.heap [] := va_S.rf
  have hl := lv_entry ([.ref (adr 0), .int x]) (n := 3) (Nat.le_of_ble_eq_true rfl)
  have hen := lg_entry_eq m [.ref (adr 0), .int x] 3
  rw [← hargs] at hen
  rw [hen]
  generalize (lg_sl ([.ref (adr 0), .int x]) ++ List.replicate (3 - (lg_sl ([.ref (adr 0), .int x])).length) Slot.unset).toArray = ls at hl ⊢
  have hl : lv_has ls 3 [(0, .ref (adr 0)), (1, .int x)] := hl
  obtain ⟨Q0, hQ0⟩ : ∃ z, z = MQ below (va_Qi (fun r w1 => r = (if cd2 (ix x 4).isNone (decide (dl = 0)) = 0 then 1 else 0) ∧ w1 = mw ac adr (va_up (va_up sf 0 (nI (cd2 (ix x 4).isNone (decide (dl = 0))))) 11 (nI dl)) (va_up af 22 (mixF dl (af 1) (af 22)))) (fun c t => MW D A 24 adr c t.heap) A) args s 0 0 A := ⟨_, rfl⟩
  rw [← hQ0]
  have h8 := hd.2.1
  refine lv_aload_n hx hb dX8_isAsked_0 rfl (lv_at hl 0 rfl) ?_
  refine lv_iload_n hx hb dX8_isAsked_1 rfl (lv_at hl 1 rfl) ?_
  refine lv_iconst (v := 4) hx hb dX8_isAsked_2 (by decide) ?_
  refine m_top (show (4 : Int32) = nI 4 from rfl) ?_
  refine r_calli (va_runS (As := [.int x, .int (nI 4)]) (rest := [.ref (adr 0)]) ⟨hx, hb, hml, hown, hts⟩ (k_X8_isIn l D ac _ x 4 (by omega)) (va_cwS 2 hts gX8_isAsked_X8_isIn rfl rfl rfl (by decide +kernel) ⟨Nat.le_of_ble_eq_true rfl, Nat.le_of_ble_eq_true rfl⟩) (pS hK) rfl rfl hl.1 rfl (lv_room (Nat.le_of_ble_eq_true rfl)) dX8_isAsked_3 ⟨Nat.le_of_ble_eq_true rfl, Nat.le_of_ble_eq_true rfl⟩) hS (fun rv_1 locs hrv_1 hS => ?_)
  subst hrv_1
  rcases hi_x : ix x 4 with _ | k_x
  · refine m_top (show _ = (0 : Int32) from rfl) ?_
    refine lv_if_ne (tgt := 13) hx hb dX8_isAsked_6 (by decide) (fun c6 => ?_) (fun c6 => ?_)
    · exact absurd c6 (by decide)
    · refine lv_iconst (v := 1) hx hb dX8_isAsked_9 (by decide) ?_
      refine lv_goto (tgt := 25) hx hb dX8_isAsked_10 (by decide) ?_
      refine w_calli (va_runV (As := [.int 1]) (rest := []) ⟨hx, hb, hml, hown, hts⟩ (k_X8_holds l D ac _ A adr sf af hM 1) (cwV 1 hts gX8_isAsked_X8_holds rfl rfl rfl (by decide +kernel) ⟨Nat.le_of_ble_eq_true rfl, Nat.le_of_ble_eq_true rfl⟩) (pV hK (ci := 8) rfl (hM.cel (by omega) (show (mw ac adr sf af) 0 = .inr (8, mfs adr sf) from rfl))) rfl rfl hl.1 rfl (lv_room (Nat.le_of_ble_eq_true rfl)) dX8_isAsked_25 ⟨Nat.le_of_ble_eq_true rfl, Nat.le_of_ble_eq_true rfl⟩) hS (fun rv_2 w_3 H locs hw_3 hM hS => ?_)
      obtain ⟨hrv_2, he_4⟩ := hw_3
      rw [he_4] at hM
      have hM := (MW.cg (s1 := (va_up sf 0 1)) (a1 := af) hM (fun j9 => if q0_ : j9 = 0 then (by subst q0_; rfl) else (by first | rfl | simp only [va_up, if_neg q0_])) (fun _ => rfl))
      subst hrv_2
      refine m_top (show _ = (0 : Int32) from rfl) ?_
      refine lv_istore_n (lv' := [(2, .int 0), (0, .ref (adr 0)), (1, .int x)]) hx hb dX8_isAsked_28 rfl hl (by decide) rfl (fun ls hl => ?_)
      have hM := MW.cg (s1 := (va_up sf 0 (nI (cd2 (ix x 4).isNone (decide (dl = 0)))))) (a1 := af) hM (fun j9 => if q0_ : j9 = 0 then (by subst q0_; show nI (cd2 (ix x 4).isNone (decide (dl = 0))) = 1; exact (by rw [(by simp [cd1, cd2, cd3, hi_x] : cd2 (ix x 4).isNone (decide (dl = 0)) = 1)]; rfl)) else (by first | rfl | simp only [va_up, if_neg q0_])) (fun _ => rfl)
      refine lv_aload_n hx hb dX8_isAsked_29 rfl (lv_at hl 1 rfl) ?_
      refine w_callv (va_runV (As := []) (rest := []) ⟨hx, hb, hml, hown, hts⟩ (k_X8_takesDraft l D ac _ A adr (va_up sf 0 (nI (cd2 (ix x 4).isNone (decide (dl = 0))))) af hM dl dw (hd.t rfl rfl)) (cwV 0 hts gX8_isAsked_X8_takesDraft rfl rfl rfl (by decide +kernel) ⟨Nat.le_of_ble_eq_true rfl, Nat.le_of_ble_eq_true rfl⟩) (pV hK (ci := 8) rfl (hM.cel (by omega) (show (mw ac adr (va_up sf 0 (nI (cd2 (ix x 4).isNone (decide (dl = 0))))) af) 0 = .inr (8, mfs adr (va_up sf 0 (nI (cd2 (ix x 4).isNone (decide (dl = 0)))))) from rfl))) rfl rfl hl.1 rfl (lv_room (Nat.le_of_ble_eq_true rfl)) dX8_isAsked_30 ⟨Nat.le_of_ble_eq_true rfl, Nat.le_of_ble_eq_true rfl⟩) hS (fun w_6 H locs hw_6 hM hS => ?_)
      have he_7 := hw_6
      rw [he_7] at hM
      have hM := (MW.cg (s1 := (va_up (va_up sf 0 (nI (cd2 (ix x 4).isNone (decide (dl = 0))))) 11 (nI dl))) (a1 := (va_up af 22 (mixF dl (af 1) (af 22)))) hM (fun j9 => if q0_ : j9 = 11 then (by subst q0_; rfl) else (by first | rfl | simp only [va_up, if_neg q0_])) (fun j9 => if q0_ : j9 = 22 then (by subst q0_; rfl) else (by first | rfl | simp only [va_up, if_neg q0_])))
      refine lv_iload_n hx hb dX8_isAsked_33 rfl (lv_at hl 0 rfl) ?_
      rw [hQ0]
      exact e_wz hx hb hlocks hr dX8_isAsked_34 (by decide) hM hS (⟨(if_neg (by rw [(by simp [cd1, cd2, cd3, hi_x] : cd2 (ix x 4).isNone (decide (dl = 0)) = 1)]; decide)).symm, rfl⟩)
  · obtain ⟨b_x, e_x⟩ := ix_of hi_x (by omega)
    refine m_top (show _ = (1 : Int32) from rfl) ?_
    refine lv_if_ne (tgt := 13) hx hb dX8_isAsked_6 (by decide) (fun c6 => ?_) (fun c6 => ?_)
    · refine lv_aload_n hx hb dX8_isAsked_13 rfl (lv_at hl 0 rfl) ?_
      refine m_get (ci := 8) (C := RX8) (T := TX8) (n := 35) (v := .int (sf 1)) hx hb hts inX8_ hown hK rfl (hM.cel (by omega) (show (mw ac adr sf af) 0 = .inr (8, mfs adr sf) from rfl)) 1 (by decide) (hts _ (by decide +kernel)) rfl dX8_isAsked_14 ?_
      refine m_top (show (sf 1) = nI dl from hd.1) ?_
      refine lv_if_ne (tgt := 24) hx hb dX8_isAsked_17 (by decide) (fun c17 => ?_) (fun c17 => ?_)
      · have f_dl : ¬ dl = 0 := fun q => c17 (congrArg nI q)
        refine lv_iconst (v := 0) hx hb dX8_isAsked_24 (by decide) ?_
        refine w_calli (va_runV (As := [.int 0]) (rest := []) ⟨hx, hb, hml, hown, hts⟩ (k_X8_holds l D ac _ A adr sf af hM 0) (cwV 1 hts gX8_isAsked_X8_holds rfl rfl rfl (by decide +kernel) ⟨Nat.le_of_ble_eq_true rfl, Nat.le_of_ble_eq_true rfl⟩) (pV hK (ci := 8) rfl (hM.cel (by omega) (show (mw ac adr sf af) 0 = .inr (8, mfs adr sf) from rfl))) rfl rfl hl.1 rfl (lv_room (Nat.le_of_ble_eq_true rfl)) dX8_isAsked_25 ⟨Nat.le_of_ble_eq_true rfl, Nat.le_of_ble_eq_true rfl⟩) hS (fun rv_8 w_9 H locs hw_9 hM hS => ?_)
        obtain ⟨hrv_8, he_10⟩ := hw_9
        rw [he_10] at hM
        have hM := (MW.cg (s1 := (va_up sf 0 0)) (a1 := af) hM (fun j9 => if q0_ : j9 = 0 then (by subst q0_; rfl) else (by first | rfl | simp only [va_up, if_neg q0_])) (fun _ => rfl))
        subst hrv_8
        refine m_top (show _ = (1 : Int32) from rfl) ?_
        refine lv_istore_n (lv' := [(2, .int 1), (0, .ref (adr 0)), (1, .int x)]) hx hb dX8_isAsked_28 rfl hl (by decide) rfl (fun ls hl => ?_)
        have hM := MW.cg (s1 := (va_up sf 0 (nI (cd2 (ix x 4).isNone (decide (dl = 0)))))) (a1 := af) hM (fun j9 => if q0_ : j9 = 0 then (by subst q0_; show nI (cd2 (ix x 4).isNone (decide (dl = 0))) = 0; exact (by rw [(by simp [cd1, cd2, cd3, hi_x, f_dl] : cd2 (ix x 4).isNone (decide (dl = 0)) = 0)]; rfl)) else (by first | rfl | simp only [va_up, if_neg q0_])) (fun _ => rfl)
        refine lv_aload_n hx hb dX8_isAsked_29 rfl (lv_at hl 1 rfl) ?_
        refine w_callv (va_runV (As := []) (rest := []) ⟨hx, hb, hml, hown, hts⟩ (k_X8_takesDraft l D ac _ A adr (va_up sf 0 (nI (cd2 (ix x 4).isNone (decide (dl = 0))))) af hM dl dw (hd.t rfl rfl)) (cwV 0 hts gX8_isAsked_X8_takesDraft rfl rfl rfl (by decide +kernel) ⟨Nat.le_of_ble_eq_true rfl, Nat.le_of_ble_eq_true rfl⟩) (pV hK (ci := 8) rfl (hM.cel (by omega) (show (mw ac adr (va_up sf 0 (nI (cd2 (ix x 4).isNone (decide (dl = 0))))) af) 0 = .inr (8, mfs adr (va_up sf 0 (nI (cd2 (ix x 4).isNone (decide (dl = 0)))))) from rfl))) rfl rfl hl.1 rfl (lv_room (Nat.le_of_ble_eq_true rfl)) dX8_isAsked_30 ⟨Nat.le_of_ble_eq_true rfl, Nat.le_of_ble_eq_true rfl⟩) hS (fun w_12 H locs hw_12 hM hS => ?_)
        have he_13 := hw_12
        rw [he_13] at hM
        have hM := (MW.cg (s1 := (va_up (va_up sf 0 (nI (cd2 (ix x 4).isNone (decide (dl = 0))))) 11 (nI dl))) (a1 := (va_up af 22 (mixF dl (af 1) (af 22)))) hM (fun j9 => if q0_ : j9 = 11 then (by subst q0_; rfl) else (by first | rfl | simp only [va_up, if_neg q0_])) (fun j9 => if q0_ : j9 = 22 then (by subst q0_; rfl) else (by first | rfl | simp only [va_up, if_neg q0_])))
        refine lv_iload_n hx hb dX8_isAsked_33 rfl (lv_at hl 0 rfl) ?_
        rw [hQ0]
        exact e_wz hx hb hlocks hr dX8_isAsked_34 (by decide) hM hS (⟨(if_pos (by simp [cd1, cd2, cd3, hi_x, f_dl] : cd2 (ix x 4).isNone (decide (dl = 0)) = 0)).symm, rfl⟩)
      · have f_dl : dl = 0 := (nI_eq (a := dl) (b := 0) (by omega) (by omega)).mp c17
        refine lv_iconst (v := 2) hx hb dX8_isAsked_20 (by decide) ?_
        refine lv_goto (tgt := 25) hx hb dX8_isAsked_21 (by decide) ?_
        refine w_calli (va_runV (As := [.int 2]) (rest := []) ⟨hx, hb, hml, hown, hts⟩ (k_X8_holds l D ac _ A adr sf af hM 2) (cwV 1 hts gX8_isAsked_X8_holds rfl rfl rfl (by decide +kernel) ⟨Nat.le_of_ble_eq_true rfl, Nat.le_of_ble_eq_true rfl⟩) (pV hK (ci := 8) rfl (hM.cel (by omega) (show (mw ac adr sf af) 0 = .inr (8, mfs adr sf) from rfl))) rfl rfl hl.1 rfl (lv_room (Nat.le_of_ble_eq_true rfl)) dX8_isAsked_25 ⟨Nat.le_of_ble_eq_true rfl, Nat.le_of_ble_eq_true rfl⟩) hS (fun rv_14 w_15 H locs hw_15 hM hS => ?_)
        obtain ⟨hrv_14, he_16⟩ := hw_15
        rw [he_16] at hM
        have hM := (MW.cg (s1 := (va_up sf 0 2)) (a1 := af) hM (fun j9 => if q0_ : j9 = 0 then (by subst q0_; rfl) else (by first | rfl | simp only [va_up, if_neg q0_])) (fun _ => rfl))
        subst hrv_14
        refine m_top (show _ = (0 : Int32) from rfl) ?_
        refine lv_istore_n (lv' := [(2, .int 0), (0, .ref (adr 0)), (1, .int x)]) hx hb dX8_isAsked_28 rfl hl (by decide) rfl (fun ls hl => ?_)
        have hM := MW.cg (s1 := (va_up sf 0 (nI (cd2 (ix x 4).isNone (decide (dl = 0)))))) (a1 := af) hM (fun j9 => if q0_ : j9 = 0 then (by subst q0_; show nI (cd2 (ix x 4).isNone (decide (dl = 0))) = 2; exact (by rw [(by simp [cd1, cd2, cd3, hi_x, f_dl] : cd2 (ix x 4).isNone (decide (dl = 0)) = 2)]; rfl)) else (by first | rfl | simp only [va_up, if_neg q0_])) (fun _ => rfl)
        refine lv_aload_n hx hb dX8_isAsked_29 rfl (lv_at hl 1 rfl) ?_
        refine w_callv (va_runV (As := []) (rest := []) ⟨hx, hb, hml, hown, hts⟩ (k_X8_takesDraft l D ac _ A adr (va_up sf 0 (nI (cd2 (ix x 4).isNone (decide (dl = 0))))) af hM dl dw (hd.t rfl rfl)) (cwV 0 hts gX8_isAsked_X8_takesDraft rfl rfl rfl (by decide +kernel) ⟨Nat.le_of_ble_eq_true rfl, Nat.le_of_ble_eq_true rfl⟩) (pV hK (ci := 8) rfl (hM.cel (by omega) (show (mw ac adr (va_up sf 0 (nI (cd2 (ix x 4).isNone (decide (dl = 0))))) af) 0 = .inr (8, mfs adr (va_up sf 0 (nI (cd2 (ix x 4).isNone (decide (dl = 0)))))) from rfl))) rfl rfl hl.1 rfl (lv_room (Nat.le_of_ble_eq_true rfl)) dX8_isAsked_30 ⟨Nat.le_of_ble_eq_true rfl, Nat.le_of_ble_eq_true rfl⟩) hS (fun w_18 H locs hw_18 hM hS => ?_)
        have he_19 := hw_18
        rw [he_19] at hM
        have hM := (MW.cg (s1 := (va_up (va_up sf 0 (nI (cd2 (ix x 4).isNone (decide (dl = 0))))) 11 (nI dl))) (a1 := (va_up af 22 (mixF dl (af 1) (af 22)))) hM (fun j9 => if q0_ : j9 = 11 then (by subst q0_; rfl) else (by first | rfl | simp only [va_up, if_neg q0_])) (fun j9 => if q0_ : j9 = 22 then (by subst q0_; rfl) else (by first | rfl | simp only [va_up, if_neg q0_])))
        refine lv_iload_n hx hb dX8_isAsked_33 rfl (lv_at hl 0 rfl) ?_
        rw [hQ0]
        exact e_wz hx hb hlocks hr dX8_isAsked_34 (by decide) hM hS (⟨(if_neg (by rw [(by simp [cd1, cd2, cd3, hi_x, f_dl] : cd2 (ix x 4).isNone (decide (dl = 0)) = 2)]; decide)).symm, rfl⟩)
    · exact absurd c6 (by decide)
set_option maxHeartbeats 4000000 in
set_option maxRecDepth 100000 in
/-- X8_best -/
theorem k_X8_best (l : Launch) (D : va_G) (ac : Nat → ClassId) (H : Heap) (A : Nat → Prop) (adr : Nat → Nat) (sf : Nat → Int32) (af : Nat → Nat → Int32) (hM : MW D A 24 adr (mw ac adr sf af) H) (ns : Nat) (sc sn : Nat → Nat) (sw : Nat → Nat → Nat) (sb : Nat → Nat → Int32) (hs : MSen sf af ns sc sn sw sb) (dl : Nat) (dw : Nat → Nat) (hd : MDra sf af dl dw) (le pr ra : Int32) (hp : MPri sf le pr ra) (x : Int32) : WRi l yX8_best wsX8_best ({ frames := 4, cells := 0, slots := 0, locals := 95 }) [.ref (adr 0), .int x] D ac H A 24 adr (MPo ac adr sf af (cd2 (ix x 4).isNone (decide (dl = 0))) (fun r s1 a1 => ∃ k, k < 4 ∧ x = nI k ∧ 0 < dl ∧ r = (mbs (af 19) (lkM dl (fun j => nI (dw j)) sn sw) (owM sc x) le ns).1 ∧ Scr sf af s1 a1)) := by
  refine Met.ofW (cc := cX8_best) (maxL := 2) (ret := (some .int)) (by decide) rfl ?_
  intro p e s m args below meth c s₁ B hml hv
  obtain ⟨hargs, hsz, hK⟩ := hv
  have hx := B.exec
  have hb := B.bytes
  have hr := B.returns
  have hts := atoms_spec (ws := wsX8_best) B.pre
  have hown : s.vm.findClass RX8 = some m.cls := findClass_of_methodNamed B.named
  have hlocks := B.notSynchronized
  subst hsz
  have hS : va_S A s.heap s.heap [] := va_S.rf
  have hl := lv_entry ([.ref (adr 0), .int x]) (n := 2) (Nat.le_of_ble_eq_true rfl)
  have hen := lg_entry_eq m [.ref (adr 0), .int x] 2
  rw [← hargs] at hen
  rw [hen]
  generalize (lg_sl ([.ref (adr 0), .int x]) ++ List.replicate (2 - (lg_sl ([.ref (adr 0), .int x])).length) Slot.unset).toArray = ls at hl ⊢
  have hl : lv_has ls 2 [(0, .ref (adr 0)), (1, .int x)] := hl
  obtain ⟨Q0, hQ0⟩ : ∃ z, z = MQ below (va_Qi (MPo ac adr sf af (cd2 (ix x 4).isNone (decide (dl = 0))) (fun r s1 a1 => ∃ k, k < 4 ∧ x = nI k ∧ 0 < dl ∧ r = (mbs (af 19) (lkM dl (fun j => nI (dw j)) sn sw) (owM sc x) le ns).1 ∧ Scr sf af s1 a1)) (fun c t => MW D A 24 adr c t.heap) A) args s 0 0 A := ⟨_, rfl⟩
  rw [← hQ0]
  have h8 := hd.2.1
  have h7 := hs.2.1
  refine lv_aload_n hx hb dX8_best_0 rfl (lv_at hl 0 rfl) ?_
  refine lv_iload_n hx hb dX8_best_1 rfl (lv_at hl 1 rfl) ?_
  refine w_calli (va_runV (As := [.int x]) (rest := []) ⟨hx, hb, hml, hown, hts⟩ (k_X8_isAsked l D ac _ A adr sf af hM dl dw (hd.t rfl rfl) x) (cwV 1 hts gX8_best_X8_isAsked rfl rfl rfl (by decide +kernel) ⟨Nat.le_of_ble_eq_true rfl, Nat.le_of_ble_eq_true rfl⟩) (pV hK (ci := 8) rfl (hM.cel (by omega) (show (mw ac adr sf af) 0 = .inr (8, mfs adr sf) from rfl))) rfl rfl hl.1 rfl (lv_room (Nat.le_of_ble_eq_true rfl)) dX8_best_2 ⟨Nat.le_of_ble_eq_true rfl, Nat.le_of_ble_eq_true rfl⟩) hS (fun rv_1 w_2 H locs hw_2 hM hS => ?_)
  obtain ⟨hrv_1, he_3⟩ := hw_2
  rw [he_3] at hM
  have hM := (MW.cg (s1 := (va_up (va_up sf 0 (nI (cd2 (ix x 4).isNone (decide (dl = 0))))) 11 (nI dl))) (a1 := (va_up af 22 (mixF dl (af 1) (af 22)))) hM (fun j9 => if q0_ : j9 = 0 then (by subst q0_; rfl) else if q1_ : j9 = 11 then (by subst q1_; rfl) else (by first | rfl | simp only [va_up, if_neg q0_, if_neg q1_])) (fun j9 => if q0_ : j9 = 22 then (by subst q0_; rfl) else (by first | rfl | simp only [va_up, if_neg q0_])))
  subst hrv_1
  by_cases d5 : cd2 (ix x 4).isNone (decide (dl = 0)) = 0
  · refine m_top (show (if cd2 (ix x 4).isNone (decide (dl = 0)) = 0 then 1 else 0) = (1 : Int32) from if_pos d5) ?_
    have hdl : 0 < dl := by have := of_decide_eq_false (cd2_0 d5).2; omega
    obtain ⟨k_x, hi_x, b_x, e_x⟩ := ix_ex (cd2_0 d5).1 (by omega)
    refine lv_if_eq (tgt := 16) hx hb dX8_best_5 (by decide) (fun c5 => ?_) (fun c5 => ?_)
    · exact absurd c5 (by decide)
    · refine lv_aload_n hx hb dX8_best_8 rfl (lv_at hl 0 rfl) ?_
      refine lv_iload_n hx hb dX8_best_9 rfl (lv_at hl 1 rfl) ?_
      refine w_calli (va_runV (As := [.int x]) (rest := []) ⟨hx, hb, hml, hown, hts⟩ (k_X8_bestOf l D ac _ A adr (va_up (va_up sf 0 (nI (cd2 (ix x 4).isNone (decide (dl = 0))))) 11 (nI dl)) (va_up af 22 (mixF dl (af 1) (af 22))) hM ns sc sn sw sb (hs.t rfl rfl rfl rfl rfl) dl (fun j => nI (dw j)) (hd.row hdl rfl rfl) le pr ra (hp.t rfl rfl rfl) x) (cwV 1 hts gX8_best_X8_bestOf rfl rfl rfl (by decide +kernel) ⟨Nat.le_of_ble_eq_true rfl, Nat.le_of_ble_eq_true rfl⟩) (pV hK (ci := 8) rfl (hM.cel (by omega) (show (mw ac adr (va_up (va_up sf 0 (nI (cd2 (ix x 4).isNone (decide (dl = 0))))) 11 (nI dl)) (va_up af 22 (mixF dl (af 1) (af 22)))) 0 = .inr (8, mfs adr (va_up (va_up sf 0 (nI (cd2 (ix x 4).isNone (decide (dl = 0))))) 11 (nI dl))) from rfl))) rfl rfl hl.1 rfl (lv_room (Nat.le_of_ble_eq_true rfl)) dX8_best_10 ⟨Nat.le_of_ble_eq_true rfl, Nat.le_of_ble_eq_true rfl⟩) hS (fun rv_5 w_6 H locs hw_6 hM hS => ?_)
      obtain ⟨hrv_5, T_4, he_7⟩ := hw_6
      rw [he_7] at hM
      have hM := (MW.cg (s1 := (va_up (va_up sf 0 (nI (cd2 (ix x 4).isNone (decide (dl = 0))))) 11 (nI dl))) (a1 := (va_up (va_up af 22 (mixF dl (af 1) (af 22))) 23 T_4)) hM (fun _ => rfl) (fun j9 => if q0_ : j9 = 23 then (by subst q0_; rfl) else (by first | rfl | simp only [va_up, if_neg q0_])))
      subst hrv_5
      refine lv_goto (tgt := 17) hx hb dX8_best_13 (by decide) ?_
      rw [hQ0]
      exact e_wi hx hb hlocks hr dX8_best_17 hM hS (MPo.ok d5 (by show nI _ = 0; rw [d5]; rfl) ⟨k_x, b_x, e_x, hdl, rfl, ⟨fun k9 u1_ u2_ => by first | rfl | simp only [va_up, if_neg u1_, if_neg u2_], fun k9 u1_ u2_ => by first | rfl | simp only [va_up, if_neg u1_, if_neg u2_]⟩⟩)
  · refine m_top (show (if cd2 (ix x 4).isNone (decide (dl = 0)) = 0 then 1 else 0) = (0 : Int32) from if_neg d5) ?_
    refine lv_if_eq (tgt := 16) hx hb dX8_best_5 (by decide) (fun c5 => ?_) (fun c5 => ?_)
    · refine lv_iconst (v := 0) hx hb dX8_best_16 (by decide) ?_
      rw [hQ0]
      exact e_wi hx hb hlocks hr dX8_best_17 hM hS (MPo.no rfl d5 rfl ⟨fun k9 u1_ u2_ => by first | rfl | simp only [va_up, if_neg u1_, if_neg u2_], fun k9 u1_ u2_ => by first | rfl | simp only [va_up, if_neg u1_, if_neg u2_]⟩)
    · exact absurd c5 (by decide)
set_option maxHeartbeats 4000000 in
set_option maxRecDepth 100000 in
/-- X8_bestByAll -/
theorem k_X8_bestByAll (l : Launch) (D : va_G) (ac : Nat → ClassId) (H : Heap) (A : Nat → Prop) (adr : Nat → Nat) (sf : Nat → Int32) (af : Nat → Nat → Int32) (hM : MW D A 24 adr (mw ac adr sf af) H) (ns : Nat) (sc sn : Nat → Nat) (sw : Nat → Nat → Nat) (sb : Nat → Nat → Int32) (hs : MSen sf af ns sc sn sw sb) (dl : Nat) (dw : Nat → Nat) (hd : MDra sf af dl dw) (le pr ra : Int32) (hp : MPri sf le pr ra) (x : Int32) : WRi l yX8_bestByAll wsX8_bestByAll ({ frames := 4, cells := 0, slots := 0, locals := 95 }) [.ref (adr 0), .int x] D ac H A 24 adr (MPo ac adr sf af (cd2 (ix x 4).isNone (decide (dl = 0))) (fun r s1 a1 => ∃ k, k < 4 ∧ x = nI k ∧ 0 < dl ∧ r = (mbs (af 19) (lkM dl (fun j => nI (dw j)) sn sw) (owM sc x) le ns).1 ∧ Scr sf af s1 a1)) := by
  refine Met.ofW (cc := cX8_bestByAll) (maxL := 2) (ret := (some .int)) (by decide) rfl ?_
  intro p e s m args below meth c s₁ B hml hv
  obtain ⟨hargs, hsz, hK⟩ := hv
  have hx := B.exec
  have hb := B.bytes
  have hr := B.returns
  have hts := atoms_spec (ws := wsX8_bestByAll) B.pre
  have hown : s.vm.findClass RX8 = some m.cls := findClass_of_methodNamed B.named
  have hlocks := B.notSynchronized
  subst hsz
  have hS : va_S A s.heap s.heap [] := va_S.rf
  have hl := lv_entry ([.ref (adr 0), .int x]) (n := 2) (Nat.le_of_ble_eq_true rfl)
  have hen := lg_entry_eq m [.ref (adr 0), .int x] 2
  rw [← hargs] at hen
  rw [hen]
  generalize (lg_sl ([.ref (adr 0), .int x]) ++ List.replicate (2 - (lg_sl ([.ref (adr 0), .int x])).length) Slot.unset).toArray = ls at hl ⊢
  have hl : lv_has ls 2 [(0, .ref (adr 0)), (1, .int x)] := hl
  obtain ⟨Q0, hQ0⟩ : ∃ z, z = MQ below (va_Qi (MPo ac adr sf af (cd2 (ix x 4).isNone (decide (dl = 0))) (fun r s1 a1 => ∃ k, k < 4 ∧ x = nI k ∧ 0 < dl ∧ r = (mbs (af 19) (lkM dl (fun j => nI (dw j)) sn sw) (owM sc x) le ns).1 ∧ Scr sf af s1 a1)) (fun c t => MW D A 24 adr c t.heap) A) args s 0 0 A := ⟨_, rfl⟩
  rw [← hQ0]
  have h8 := hd.2.1
  have h7 := hs.2.1
  refine lv_aload_n hx hb dX8_bestByAll_0 rfl (lv_at hl 0 rfl) ?_
  refine lv_iload_n hx hb dX8_bestByAll_1 rfl (lv_at hl 1 rfl) ?_
  refine w_calli (va_runV (As := [.int x]) (rest := []) ⟨hx, hb, hml, hown, hts⟩ (k_X8_isAsked l D ac _ A adr sf af hM dl dw (hd.t rfl rfl) x) (cwV 1 hts gX8_bestByAll_X8_isAsked rfl rfl rfl (by decide +kernel) ⟨Nat.le_of_ble_eq_true rfl, Nat.le_of_ble_eq_true rfl⟩) (pV hK (ci := 8) rfl (hM.cel (by omega) (show (mw ac adr sf af) 0 = .inr (8, mfs adr sf) from rfl))) rfl rfl hl.1 rfl (lv_room (Nat.le_of_ble_eq_true rfl)) dX8_bestByAll_2 ⟨Nat.le_of_ble_eq_true rfl, Nat.le_of_ble_eq_true rfl⟩) hS (fun rv_1 w_2 H locs hw_2 hM hS => ?_)
  obtain ⟨hrv_1, he_3⟩ := hw_2
  rw [he_3] at hM
  have hM := (MW.cg (s1 := (va_up (va_up sf 0 (nI (cd2 (ix x 4).isNone (decide (dl = 0))))) 11 (nI dl))) (a1 := (va_up af 22 (mixF dl (af 1) (af 22)))) hM (fun j9 => if q0_ : j9 = 0 then (by subst q0_; rfl) else if q1_ : j9 = 11 then (by subst q1_; rfl) else (by first | rfl | simp only [va_up, if_neg q0_, if_neg q1_])) (fun j9 => if q0_ : j9 = 22 then (by subst q0_; rfl) else (by first | rfl | simp only [va_up, if_neg q0_])))
  subst hrv_1
  by_cases d5 : cd2 (ix x 4).isNone (decide (dl = 0)) = 0
  · refine m_top (show (if cd2 (ix x 4).isNone (decide (dl = 0)) = 0 then 1 else 0) = (1 : Int32) from if_pos d5) ?_
    have hdl : 0 < dl := by have := of_decide_eq_false (cd2_0 d5).2; omega
    obtain ⟨k_x, hi_x, b_x, e_x⟩ := ix_ex (cd2_0 d5).1 (by omega)
    refine lv_if_eq (tgt := 16) hx hb dX8_bestByAll_5 (by decide) (fun c5 => ?_) (fun c5 => ?_)
    · exact absurd c5 (by decide)
    · refine lv_aload_n hx hb dX8_bestByAll_8 rfl (lv_at hl 0 rfl) ?_
      refine lv_iload_n hx hb dX8_bestByAll_9 rfl (lv_at hl 1 rfl) ?_
      refine w_calli (va_runV (As := [.int x]) (rest := []) ⟨hx, hb, hml, hown, hts⟩ (k_X8_bestOf l D ac _ A adr (va_up (va_up sf 0 (nI (cd2 (ix x 4).isNone (decide (dl = 0))))) 11 (nI dl)) (va_up af 22 (mixF dl (af 1) (af 22))) hM ns sc sn sw sb (hs.t rfl rfl rfl rfl rfl) dl (fun j => nI (dw j)) (hd.row hdl rfl rfl) le pr ra (hp.t rfl rfl rfl) x) (cwV 1 hts gX8_bestByAll_X8_bestOf rfl rfl rfl (by decide +kernel) ⟨Nat.le_of_ble_eq_true rfl, Nat.le_of_ble_eq_true rfl⟩) (pV hK (ci := 8) rfl (hM.cel (by omega) (show (mw ac adr (va_up (va_up sf 0 (nI (cd2 (ix x 4).isNone (decide (dl = 0))))) 11 (nI dl)) (va_up af 22 (mixF dl (af 1) (af 22)))) 0 = .inr (8, mfs adr (va_up (va_up sf 0 (nI (cd2 (ix x 4).isNone (decide (dl = 0))))) 11 (nI dl))) from rfl))) rfl rfl hl.1 rfl (lv_room (Nat.le_of_ble_eq_true rfl)) dX8_bestByAll_10 ⟨Nat.le_of_ble_eq_true rfl, Nat.le_of_ble_eq_true rfl⟩) hS (fun rv_5 w_6 H locs hw_6 hM hS => ?_)
      obtain ⟨hrv_5, T_4, he_7⟩ := hw_6
      rw [he_7] at hM
      have hM := (MW.cg (s1 := (va_up (va_up sf 0 (nI (cd2 (ix x 4).isNone (decide (dl = 0))))) 11 (nI dl))) (a1 := (va_up (va_up af 22 (mixF dl (af 1) (af 22))) 23 T_4)) hM (fun _ => rfl) (fun j9 => if q0_ : j9 = 23 then (by subst q0_; rfl) else (by first | rfl | simp only [va_up, if_neg q0_])))
      subst hrv_5
      refine lv_goto (tgt := 17) hx hb dX8_bestByAll_13 (by decide) ?_
      rw [hQ0]
      exact e_wi hx hb hlocks hr dX8_bestByAll_17 hM hS (MPo.ok d5 (by show nI _ = 0; rw [d5]; rfl) ⟨k_x, b_x, e_x, hdl, rfl, ⟨fun k9 u1_ u2_ => by first | rfl | simp only [va_up, if_neg u1_, if_neg u2_], fun k9 u1_ u2_ => by first | rfl | simp only [va_up, if_neg u1_, if_neg u2_]⟩⟩)
  · refine m_top (show (if cd2 (ix x 4).isNone (decide (dl = 0)) = 0 then 1 else 0) = (0 : Int32) from if_neg d5) ?_
    refine lv_if_eq (tgt := 16) hx hb dX8_bestByAll_5 (by decide) (fun c5 => ?_) (fun c5 => ?_)
    · refine lv_iconst (v := 0) hx hb dX8_bestByAll_16 (by decide) ?_
      rw [hQ0]
      exact e_wi hx hb hlocks hr dX8_bestByAll_17 hM hS (MPo.no rfl d5 rfl ⟨fun k9 u1_ u2_ => by first | rfl | simp only [va_up, if_neg u1_, if_neg u2_], fun k9 u1_ u2_ => by first | rfl | simp only [va_up, if_neg u1_, if_neg u2_]⟩)
    · exact absurd c5 (by decide)
set_option maxHeartbeats 4000000 in
set_option maxRecDepth 100000 in
/-- X8_cost -/
theorem k_X8_cost (l : Launch) (D : va_G) (ac : Nat → ClassId) (H : Heap) (A : Nat → Prop) (adr : Nat → Nat) (sf : Nat → Int32) (af : Nat → Nat → Int32) (hM : MW D A 24 adr (mw ac adr sf af) H) (ns : Nat) (sc sn : Nat → Nat) (sw : Nat → Nat → Nat) (sb : Nat → Nat → Int32) (hs : MSen sf af ns sc sn sw sb) (dl : Nat) (dw : Nat → Nat) (hd : MDra sf af dl dw) (le pr ra : Int32) (hp : MPri sf le pr ra) (x b : Int32) : WRi l yX8_cost wsX8_cost ({ frames := 5, cells := 0, slots := 0, locals := 113 }) [.ref (adr 0), .int x, .int b] D ac H A 24 adr (MPo ac adr sf af (cd2 (ix x 4).isNone (decide (dl = 0))) (fun r s1 a1 => ∃ k, k < 4 ∧ x = nI k ∧ 0 < dl ∧ r = cstI (nI dl) pr (shM dl (fun j => nI (dw j)) sn sw ns (mbs (af 19) (lkM dl (fun j => nI (dw j)) sn sw) (owM sc x) le ns).1) b ∧ Scr sf af s1 a1)) := by
  refine Met.ofW (cc := cX8_cost) (maxL := 3) (ret := (some .int)) (by decide) rfl ?_
  intro p e s m args below meth c s₁ B hml hv
  obtain ⟨hargs, hsz, hK⟩ := hv
  have hx := B.exec
  have hb := B.bytes
  have hr := B.returns
  have hts := atoms_spec (ws := wsX8_cost) B.pre
  have hown : s.vm.findClass RX8 = some m.cls := findClass_of_methodNamed B.named
  have hlocks := B.notSynchronized
  subst hsz
  have hS : va_S A s.heap s.heap [] := va_S.rf
  have hl := lv_entry ([.ref (adr 0), .int x, .int b]) (n := 3) (Nat.le_of_ble_eq_true rfl)
  have hen := lg_entry_eq m [.ref (adr 0), .int x, .int b] 3
  rw [← hargs] at hen
  rw [hen]
  generalize (lg_sl ([.ref (adr 0), .int x, .int b]) ++ List.replicate (3 - (lg_sl ([.ref (adr 0), .int x, .int b])).length) Slot.unset).toArray = ls at hl ⊢
  have hl : lv_has ls 3 [(0, .ref (adr 0)), (1, .int x), (2, .int b)] := hl
  obtain ⟨Q0, hQ0⟩ : ∃ z, z = MQ below (va_Qi (MPo ac adr sf af (cd2 (ix x 4).isNone (decide (dl = 0))) (fun r s1 a1 => ∃ k, k < 4 ∧ x = nI k ∧ 0 < dl ∧ r = cstI (nI dl) pr (shM dl (fun j => nI (dw j)) sn sw ns (mbs (af 19) (lkM dl (fun j => nI (dw j)) sn sw) (owM sc x) le ns).1) b ∧ Scr sf af s1 a1)) (fun c t => MW D A 24 adr c t.heap) A) args s 0 0 A := ⟨_, rfl⟩
  rw [← hQ0]
  have h8 := hd.2.1
  have h7 := hs.2.1
  refine lv_aload_n hx hb dX8_cost_0 rfl (lv_at hl 0 rfl) ?_
  refine lv_iload_n hx hb dX8_cost_1 rfl (lv_at hl 1 rfl) ?_
  refine w_calli (va_runV (As := [.int x]) (rest := []) ⟨hx, hb, hml, hown, hts⟩ (k_X8_isAsked l D ac _ A adr sf af hM dl dw (hd.t rfl rfl) x) (cwV 1 hts gX8_cost_X8_isAsked rfl rfl rfl (by decide +kernel) ⟨Nat.le_of_ble_eq_true rfl, Nat.le_of_ble_eq_true rfl⟩) (pV hK (ci := 8) rfl (hM.cel (by omega) (show (mw ac adr sf af) 0 = .inr (8, mfs adr sf) from rfl))) rfl rfl hl.1 rfl (lv_room (Nat.le_of_ble_eq_true rfl)) dX8_cost_2 ⟨Nat.le_of_ble_eq_true rfl, Nat.le_of_ble_eq_true rfl⟩) hS (fun rv_1 w_2 H locs hw_2 hM hS => ?_)
  obtain ⟨hrv_1, he_3⟩ := hw_2
  rw [he_3] at hM
  have hM := (MW.cg (s1 := (va_up (va_up sf 0 (nI (cd2 (ix x 4).isNone (decide (dl = 0))))) 11 (nI dl))) (a1 := (va_up af 22 (mixF dl (af 1) (af 22)))) hM (fun j9 => if q0_ : j9 = 0 then (by subst q0_; rfl) else if q1_ : j9 = 11 then (by subst q1_; rfl) else (by first | rfl | simp only [va_up, if_neg q0_, if_neg q1_])) (fun j9 => if q0_ : j9 = 22 then (by subst q0_; rfl) else (by first | rfl | simp only [va_up, if_neg q0_])))
  subst hrv_1
  by_cases d5 : cd2 (ix x 4).isNone (decide (dl = 0)) = 0
  · refine m_top (show (if cd2 (ix x 4).isNone (decide (dl = 0)) = 0 then 1 else 0) = (1 : Int32) from if_pos d5) ?_
    have hdl : 0 < dl := by have := of_decide_eq_false (cd2_0 d5).2; omega
    obtain ⟨k_x, hi_x, b_x, e_x⟩ := ix_ex (cd2_0 d5).1 (by omega)
    refine lv_if_eq (tgt := 21) hx hb dX8_cost_5 (by decide) (fun c5 => ?_) (fun c5 => ?_)
    · exact absurd c5 (by decide)
    · refine lv_aload_n hx hb dX8_cost_8 rfl (lv_at hl 0 rfl) ?_
      refine lv_aload_n hx hb dX8_cost_9 rfl (lv_at hl 0 rfl) ?_
      refine lv_iload_n hx hb dX8_cost_10 rfl (lv_at hl 1 rfl) ?_
      refine w_calli (va_runV (As := [.int x]) (rest := [.ref (adr 0)]) ⟨hx, hb, hml, hown, hts⟩ (k_X8_bestOf l D ac _ A adr (va_up (va_up sf 0 (nI (cd2 (ix x 4).isNone (decide (dl = 0))))) 11 (nI dl)) (va_up af 22 (mixF dl (af 1) (af 22))) hM ns sc sn sw sb (hs.t rfl rfl rfl rfl rfl) dl (fun j => nI (dw j)) (hd.row hdl rfl rfl) le pr ra (hp.t rfl rfl rfl) x) (cwV 1 hts gX8_cost_X8_bestOf rfl rfl rfl (by decide +kernel) ⟨Nat.le_of_ble_eq_true rfl, Nat.le_of_ble_eq_true rfl⟩) (pV hK (ci := 8) rfl (hM.cel (by omega) (show (mw ac adr (va_up (va_up sf 0 (nI (cd2 (ix x 4).isNone (decide (dl = 0))))) 11 (nI dl)) (va_up af 22 (mixF dl (af 1) (af 22)))) 0 = .inr (8, mfs adr (va_up (va_up sf 0 (nI (cd2 (ix x 4).isNone (decide (dl = 0))))) 11 (nI dl))) from rfl))) rfl rfl hl.1 rfl (lv_room (Nat.le_of_ble_eq_true rfl)) dX8_cost_11 ⟨Nat.le_of_ble_eq_true rfl, Nat.le_of_ble_eq_true rfl⟩) hS (fun rv_5 w_6 H locs hw_6 hM hS => ?_)
      obtain ⟨hrv_5, T_4, he_7⟩ := hw_6
      rw [he_7] at hM
      have hM := (MW.cg (s1 := (va_up (va_up sf 0 (nI (cd2 (ix x 4).isNone (decide (dl = 0))))) 11 (nI dl))) (a1 := (va_up (va_up af 22 (mixF dl (af 1) (af 22))) 23 T_4)) hM (fun _ => rfl) (fun j9 => if q0_ : j9 = 23 then (by subst q0_; rfl) else (by first | rfl | simp only [va_up, if_neg q0_])))
      subst hrv_5
      refine lv_iload_n hx hb dX8_cost_14 rfl (lv_at hl 2 rfl) ?_
      refine w_calli (va_runV (As := [.int ((mbs (af 19) (lkM dl (fun j => nI (dw j)) sn sw) (owM sc x) le ns).1), .int b]) (rest := []) ⟨hx, hb, hml, hown, hts⟩ (k_X8_costOf l D ac _ A adr (va_up (va_up sf 0 (nI (cd2 (ix x 4).isNone (decide (dl = 0))))) 11 (nI dl)) (va_up (va_up af 22 (mixF dl (af 1) (af 22))) 23 T_4) hM ns sc sn sw sb (hs.t rfl rfl rfl rfl rfl) dl (fun j => nI (dw j)) (hd.row hdl rfl rfl) le pr ra (hp.t rfl rfl rfl) ((mbs (af 19) (lkM dl (fun j => nI (dw j)) sn sw) (owM sc x) le ns).1) (mbs_ix _ (Nat.le_refl _)) b) (cwV 2 hts gX8_cost_X8_costOf rfl rfl rfl (by decide +kernel) ⟨Nat.le_of_ble_eq_true rfl, Nat.le_of_ble_eq_true rfl⟩) (pV hK (ci := 8) rfl (hM.cel (by omega) (show (mw ac adr (va_up (va_up sf 0 (nI (cd2 (ix x 4).isNone (decide (dl = 0))))) 11 (nI dl)) (va_up (va_up af 22 (mixF dl (af 1) (af 22))) 23 T_4)) 0 = .inr (8, mfs adr (va_up (va_up sf 0 (nI (cd2 (ix x 4).isNone (decide (dl = 0))))) 11 (nI dl))) from rfl))) rfl rfl hl.1 rfl (lv_room (Nat.le_of_ble_eq_true rfl)) dX8_cost_15 ⟨Nat.le_of_ble_eq_true rfl, Nat.le_of_ble_eq_true rfl⟩) hS (fun rv_9 w_10 H locs hw_10 hM hS => ?_)
      obtain ⟨hrv_9, T_8, he_11⟩ := hw_10
      rw [he_11] at hM
      have hM := (MW.cg (s1 := (va_up (va_up sf 0 (nI (cd2 (ix x 4).isNone (decide (dl = 0))))) 11 (nI dl))) (a1 := (va_up (va_up af 22 (mixF dl (af 1) (af 22))) 23 T_8)) hM (fun _ => rfl) (fun j9 => if q0_ : j9 = 23 then (by subst q0_; rfl) else (by first | rfl | simp only [va_up, if_neg q0_])))
      subst hrv_9
      refine lv_goto (tgt := 22) hx hb dX8_cost_18 (by decide) ?_
      rw [hQ0]
      exact e_wi hx hb hlocks hr dX8_cost_22 hM hS (MPo.ok d5 (by show nI _ = 0; rw [d5]; rfl) ⟨k_x, b_x, e_x, hdl, rfl, ⟨fun k9 u1_ u2_ => by first | rfl | simp only [va_up, if_neg u1_, if_neg u2_], fun k9 u1_ u2_ => by first | rfl | simp only [va_up, if_neg u1_, if_neg u2_]⟩⟩)
  · refine m_top (show (if cd2 (ix x 4).isNone (decide (dl = 0)) = 0 then 1 else 0) = (0 : Int32) from if_neg d5) ?_
    refine lv_if_eq (tgt := 21) hx hb dX8_cost_5 (by decide) (fun c5 => ?_) (fun c5 => ?_)
    · refine lv_iconst (v := 0) hx hb dX8_cost_21 (by decide) ?_
      rw [hQ0]
      exact e_wi hx hb hlocks hr dX8_cost_22 hM hS (MPo.no rfl d5 rfl ⟨fun k9 u1_ u2_ => by first | rfl | simp only [va_up, if_neg u1_, if_neg u2_], fun k9 u1_ u2_ => by first | rfl | simp only [va_up, if_neg u1_, if_neg u2_]⟩)
    · exact absurd c5 (by decide)
set_option maxHeartbeats 4000000 in
set_option maxRecDepth 100000 in
/-- X8_ruling -/
theorem k_X8_ruling (l : Launch) (D : va_G) (ac : Nat → ClassId) (H : Heap) (A : Nat → Prop) (adr : Nat → Nat) (sf : Nat → Int32) (af : Nat → Nat → Int32) (hM : MW D A 24 adr (mw ac adr sf af) H) (fs fr : Nat → Int32) (hSy : SayR af fs fr) (x y : Int32) : WRi l yX8_ruling wsX8_ruling ({ frames := 2, cells := 0, slots := 0, locals := 46 }) [.ref (adr 0), .int x, .int y] D ac H A 24 adr (MPo ac adr sf af (cd1 ((ix x 4).isNone || (ix y 50).isNone)) (fun r s1 a1 => ∃ k j, k < 4 ∧ j < 50 ∧ x = nI k ∧ y = nI j ∧ r = fr (k * 50 + j) ∧ Scr sf af s1 a1)) := by
  refine Met.ofW (cc := cX8_ruling) (maxL := 3) (ret := (some .int)) (by decide) rfl ?_
  intro p e s m args below meth c s₁ B hml hv
  obtain ⟨hargs, hsz, hK⟩ := hv
  have hx := B.exec
  have hb := B.bytes
  have hr := B.returns
  have hts := atoms_spec (ws := wsX8_ruling) B.pre
  have hown : s.vm.findClass RX8 = some m.cls := findClass_of_methodNamed B.named
  have hlocks := B.notSynchronized
  subst hsz
  have hS : va_S A s.heap s.heap [] := va_S.rf
  have hl := lv_entry ([.ref (adr 0), .int x, .int y]) (n := 3) (Nat.le_of_ble_eq_true rfl)
  have hen := lg_entry_eq m [.ref (adr 0), .int x, .int y] 3
  rw [← hargs] at hen
  rw [hen]
  generalize (lg_sl ([.ref (adr 0), .int x, .int y]) ++ List.replicate (3 - (lg_sl ([.ref (adr 0), .int x, .int y])).length) Slot.unset).toArray = ls at hl ⊢
  have hl : lv_has ls 3 [(0, .ref (adr 0)), (1, .int x), (2, .int y)] := hl
  obtain ⟨Q0, hQ0⟩ : ∃ z, z = MQ below (va_Qi (MPo ac adr sf af (cd1 ((ix x 4).isNone || (ix y 50).isNone)) (fun r s1 a1 => ∃ k j, k < 4 ∧ j < 50 ∧ x = nI k ∧ y = nI j ∧ r = fr (k * 50 + j) ∧ Scr sf af s1 a1)) (fun c t => MW D A 24 adr c t.heap) A) args s 0 0 A := ⟨_, rfl⟩
  rw [← hQ0]
  refine lv_aload_n hx hb dX8_ruling_0 rfl (lv_at hl 0 rfl) ?_
  refine lv_iload_n hx hb dX8_ruling_1 rfl (lv_at hl 1 rfl) ?_
  refine lv_iconst (v := 4) hx hb dX8_ruling_2 (by decide) ?_
  refine m_top (show (4 : Int32) = nI 4 from rfl) ?_
  refine r_calli (va_runS (As := [.int x, .int (nI 4)]) (rest := [.ref (adr 0)]) ⟨hx, hb, hml, hown, hts⟩ (k_X8_isIn l D ac _ x 4 (by omega)) (va_cwS 2 hts gX8_ruling_X8_isIn rfl rfl rfl (by decide +kernel) ⟨Nat.le_of_ble_eq_true rfl, Nat.le_of_ble_eq_true rfl⟩) (pS hK) rfl rfl hl.1 rfl (lv_room (Nat.le_of_ble_eq_true rfl)) dX8_ruling_3 ⟨Nat.le_of_ble_eq_true rfl, Nat.le_of_ble_eq_true rfl⟩) hS (fun rv_1 locs hrv_1 hS => ?_)
  subst hrv_1
  rcases hi_x : ix x 4 with _ | k_x
  · refine m_top (show _ = (0 : Int32) from rfl) ?_
    refine lv_if_eq (tgt := 22) hx hb dX8_ruling_6 (by decide) (fun c6 => ?_) (fun c6 => ?_)
    · refine lv_iconst (v := 1) hx hb dX8_ruling_22 (by decide) ?_
      refine w_calli (va_runV (As := [.int 1]) (rest := []) ⟨hx, hb, hml, hown, hts⟩ (k_X8_holds l D ac _ A adr sf af hM 1) (cwV 1 hts gX8_ruling_X8_holds rfl rfl rfl (by decide +kernel) ⟨Nat.le_of_ble_eq_true rfl, Nat.le_of_ble_eq_true rfl⟩) (pV hK (ci := 8) rfl (hM.cel (by omega) (show (mw ac adr sf af) 0 = .inr (8, mfs adr sf) from rfl))) rfl rfl hl.1 rfl (lv_room (Nat.le_of_ble_eq_true rfl)) dX8_ruling_23 ⟨Nat.le_of_ble_eq_true rfl, Nat.le_of_ble_eq_true rfl⟩) hS (fun rv_2 w_3 H locs hw_3 hM hS => ?_)
      obtain ⟨hrv_2, he_4⟩ := hw_3
      rw [he_4] at hM
      have hM := (MW.cg (s1 := (va_up sf 0 1)) (a1 := af) hM (fun j9 => if q0_ : j9 = 0 then (by subst q0_; rfl) else (by first | rfl | simp only [va_up, if_neg q0_])) (fun _ => rfl))
      subst hrv_2
      refine m_top (show _ = (0 : Int32) from rfl) ?_
      refine lv_if_eq (tgt := 38) hx hb dX8_ruling_26 (by decide) (fun c26 => ?_) (fun c26 => ?_)
      · refine lv_iconst (v := 0) hx hb dX8_ruling_38 (by decide) ?_
        rw [hQ0]
        exact e_wi hx hb hlocks hr dX8_ruling_39 hM hS (MPo.no (c := 1) (by simp [cd1, cd2, cd3, hi_x] : cd1 ((ix x 4).isNone || (ix y 50).isNone) = 1) (by decide) rfl ⟨fun k9 u1_ u2_ => by first | rfl | simp only [va_up, if_neg u1_, if_neg u2_], fun k9 u1_ u2_ => by first | rfl | simp only [va_up, if_neg u1_, if_neg u2_]⟩)
      · exact absurd c26 (by decide)
    · exact absurd c6 (by decide)
  · obtain ⟨b_x, e_x⟩ := ix_of hi_x (by omega)
    refine m_top (show _ = (1 : Int32) from rfl) ?_
    subst e_x
    refine lv_if_eq (tgt := 22) hx hb dX8_ruling_6 (by decide) (fun c6 => ?_) (fun c6 => ?_)
    · exact absurd c6 (by decide)
    · refine lv_iload_n hx hb dX8_ruling_9 rfl (lv_at hl 2 rfl) ?_
      refine lv_bipush (v := 50) hx hb dX8_ruling_10 (by decide) ?_
      refine m_top (show (50 : Int32) = nI 50 from rfl) ?_
      refine r_calli (va_runS (As := [.int y, .int (nI 50)]) (rest := [.ref (adr 0)]) ⟨hx, hb, hml, hown, hts⟩ (k_X8_isIn l D ac _ y 50 (by omega)) (va_cwS 2 hts gX8_ruling_X8_isIn rfl rfl rfl (by decide +kernel) ⟨Nat.le_of_ble_eq_true rfl, Nat.le_of_ble_eq_true rfl⟩) (pS hK) rfl rfl hl.1 rfl (lv_room (Nat.le_of_ble_eq_true rfl)) dX8_ruling_12 ⟨Nat.le_of_ble_eq_true rfl, Nat.le_of_ble_eq_true rfl⟩) hS (fun rv_5 locs hrv_5 hS => ?_)
      subst hrv_5
      rcases hi_y : ix y 50 with _ | k_y
      · refine m_top (show _ = (0 : Int32) from rfl) ?_
        refine lv_if_eq (tgt := 22) hx hb dX8_ruling_15 (by decide) (fun c15 => ?_) (fun c15 => ?_)
        · refine lv_iconst (v := 1) hx hb dX8_ruling_22 (by decide) ?_
          refine w_calli (va_runV (As := [.int 1]) (rest := []) ⟨hx, hb, hml, hown, hts⟩ (k_X8_holds l D ac _ A adr sf af hM 1) (cwV 1 hts gX8_ruling_X8_holds rfl rfl rfl (by decide +kernel) ⟨Nat.le_of_ble_eq_true rfl, Nat.le_of_ble_eq_true rfl⟩) (pV hK (ci := 8) rfl (hM.cel (by omega) (show (mw ac adr sf af) 0 = .inr (8, mfs adr sf) from rfl))) rfl rfl hl.1 rfl (lv_room (Nat.le_of_ble_eq_true rfl)) dX8_ruling_23 ⟨Nat.le_of_ble_eq_true rfl, Nat.le_of_ble_eq_true rfl⟩) hS (fun rv_6 w_7 H locs hw_7 hM hS => ?_)
          obtain ⟨hrv_6, he_8⟩ := hw_7
          rw [he_8] at hM
          have hM := (MW.cg (s1 := (va_up sf 0 1)) (a1 := af) hM (fun j9 => if q0_ : j9 = 0 then (by subst q0_; rfl) else (by first | rfl | simp only [va_up, if_neg q0_])) (fun _ => rfl))
          subst hrv_6
          refine m_top (show _ = (0 : Int32) from rfl) ?_
          refine lv_if_eq (tgt := 38) hx hb dX8_ruling_26 (by decide) (fun c26 => ?_) (fun c26 => ?_)
          · refine lv_iconst (v := 0) hx hb dX8_ruling_38 (by decide) ?_
            rw [hQ0]
            exact e_wi hx hb hlocks hr dX8_ruling_39 hM hS (MPo.no (c := 1) (by simp [cd1, cd2, cd3, hi_x, hi_y] : cd1 ((ix (nI k_x) 4).isNone || (ix y 50).isNone) = 1) (by decide) rfl ⟨fun k9 u1_ u2_ => by first | rfl | simp only [va_up, if_neg u1_, if_neg u2_], fun k9 u1_ u2_ => by first | rfl | simp only [va_up, if_neg u1_, if_neg u2_]⟩)
          · exact absurd c26 (by decide)
        · exact absurd c15 (by decide)
      · obtain ⟨b_y, e_y⟩ := ix_of hi_y (by omega)
        refine m_top (show _ = (1 : Int32) from rfl) ?_
        subst e_y
        refine lv_if_eq (tgt := 22) hx hb dX8_ruling_15 (by decide) (fun c15 => ?_) (fun c15 => ?_)
        · exact absurd c15 (by decide)
        · refine lv_iconst (v := 0) hx hb dX8_ruling_18 (by decide) ?_
          refine lv_goto (tgt := 23) hx hb dX8_ruling_19 (by decide) ?_
          refine w_calli (va_runV (As := [.int 0]) (rest := []) ⟨hx, hb, hml, hown, hts⟩ (k_X8_holds l D ac _ A adr sf af hM 0) (cwV 1 hts gX8_ruling_X8_holds rfl rfl rfl (by decide +kernel) ⟨Nat.le_of_ble_eq_true rfl, Nat.le_of_ble_eq_true rfl⟩) (pV hK (ci := 8) rfl (hM.cel (by omega) (show (mw ac adr sf af) 0 = .inr (8, mfs adr sf) from rfl))) rfl rfl hl.1 rfl (lv_room (Nat.le_of_ble_eq_true rfl)) dX8_ruling_23 ⟨Nat.le_of_ble_eq_true rfl, Nat.le_of_ble_eq_true rfl⟩) hS (fun rv_9 w_10 H locs hw_10 hM hS => ?_)
          obtain ⟨hrv_9, he_11⟩ := hw_10
          rw [he_11] at hM
          have hM := (MW.cg (s1 := (va_up sf 0 0)) (a1 := af) hM (fun j9 => if q0_ : j9 = 0 then (by subst q0_; rfl) else (by first | rfl | simp only [va_up, if_neg q0_])) (fun _ => rfl))
          subst hrv_9
          refine m_top (show _ = (1 : Int32) from rfl) ?_
          refine lv_if_eq (tgt := 38) hx hb dX8_ruling_26 (by decide) (fun c26 => ?_) (fun c26 => ?_)
          · exact absurd c26 (by decide)
          · refine lv_aload_n hx hb dX8_ruling_29 rfl (lv_at hl 0 rfl) ?_
            refine lv_iload_n hx hb dX8_ruling_30 rfl (lv_at hl 1 rfl) ?_
            refine lv_iload_n hx hb dX8_ruling_31 rfl (lv_at hl 2 rfl) ?_
            refine r_calli (va_runV (As := [.int (nI k_x), .int (nI k_y)]) (rest := []) ⟨hx, hb, hml, hown, hts⟩ (k_X8_rulingOf l D ac _ A adr (va_up sf 0 0) af hM fs fr (hSy.t rfl) k_x k_y (by omega) (by omega)) (cwV 2 hts gX8_ruling_X8_rulingOf rfl rfl rfl (by decide +kernel) ⟨Nat.le_of_ble_eq_true rfl, Nat.le_of_ble_eq_true rfl⟩) (pV hK (ci := 8) rfl (hM.cel (by omega) (show (mw ac adr (va_up sf 0 0) af) 0 = .inr (8, mfs adr (va_up sf 0 0)) from rfl))) rfl rfl hl.1 rfl (lv_room (Nat.le_of_ble_eq_true rfl)) dX8_ruling_32 ⟨Nat.le_of_ble_eq_true rfl, Nat.le_of_ble_eq_true rfl⟩) hS (fun rv_12 locs hrv_12 hS => ?_)
            subst hrv_12
            refine lv_goto (tgt := 39) hx hb dX8_ruling_35 (by decide) ?_
            rw [hQ0]
            exact e_wi hx hb hlocks hr dX8_ruling_39 hM hS (MPo.ok (by simp [cd1, cd2, cd3, hi_x, hi_y] : cd1 ((ix (nI k_x) 4).isNone || (ix (nI k_y) 50).isNone) = 0) rfl ⟨k_x, k_y, b_x, b_y, rfl, rfl, rfl, ⟨fun k9 u1_ u2_ => by first | rfl | simp only [va_up, if_neg u1_, if_neg u2_], fun k9 u1_ u2_ => by first | rfl | simp only [va_up, if_neg u1_, if_neg u2_]⟩⟩)
set_option maxHeartbeats 4000000 in
set_option maxRecDepth 100000 in
/-- X8_sold -/
theorem k_X8_sold (l : Launch) (D : va_G) (ac : Nat → ClassId) (H : Heap) (A : Nat → Prop) (adr : Nat → Nat) (sf : Nat → Int32) (af : Nat → Nat → Int32) (hM : MW D A 24 adr (mw ac adr sf af) H) (ns : Nat) (sc sn : Nat → Nat) (sw : Nat → Nat → Nat) (sb : Nat → Nat → Int32) (hs : MSen sf af ns sc sn sw sb) : WRi l yX8_sold wsX8_sold ({ frames := 0, cells := 0, slots := 0, locals := 0 }) [.ref (adr 0)] D ac H A 24 adr (fun r w1 => r = nI ns ∧ w1 = mw ac adr (va_up sf 0 0) af) := by
  refine Met.ofW (cc := cX8_sold) (maxL := 1) (ret := (some .int)) (by decide) rfl ?_
  intro p e s m args below meth c s₁ B hml hv
  obtain ⟨hargs, hsz, hK⟩ := hv
  have hx := B.exec
  have hb := B.bytes
  have hr := B.returns
  have hts := atoms_spec (ws := wsX8_sold) B.pre
  have hown : s.vm.findClass RX8 = some m.cls := findClass_of_methodNamed B.named
  have hlocks := B.notSynchronized
  subst hsz
  have inX8_ : ∀ w ∈ wsX80, w ∈ wsX8_sold := by decide +kernel
  have hS : va_S A s.heap s.heap [] := va_S.rf
  have hl := lv_entry ([.ref (adr 0)]) (n := 1) (Nat.le_of_ble_eq_true rfl)
  have hen := lg_entry_eq m [.ref (adr 0)] 1
  rw [← hargs] at hen
  rw [hen]
  generalize (lg_sl ([.ref (adr 0)]) ++ List.replicate (1 - (lg_sl ([.ref (adr 0)])).length) Slot.unset).toArray = ls at hl ⊢
  have hl : lv_has ls 1 [(0, .ref (adr 0))] := hl
  refine lv_aload_n hx hb dX8_sold_0 rfl (lv_at hl 0 rfl) ?_
  refine lv_iconst (v := 0) hx hb dX8_sold_1 (by decide) ?_
  refine m_put (ci := 8) (C := RX8) (T := TX8) (n := 35) (v := .int 0) (ty := tyX8 0) hx hb hts inX8_ tyX8 tyX8_ok nmX8 hown hK hM hS rfl 0 (by omega) (show (mw ac adr sf af) 0 = .inr (8, mfs adr sf) from rfl) 0 (by decide) (hts _ (by decide +kernel)) rfl (by decide +kernel) rfl rfl (Nat.le_of_ble_eq_true rfl) dX8_sold_2 (fun H locs hM hS => ?_)
  have hM : MW D A 24 adr (va_up (mw ac adr sf af) 0 (.inr (8, mfs adr (va_up sf 0 0)))) H := hM
  have hM := MW.mobj (s1 := (va_up sf 0 0)) hM rfl
  refine lv_aload_n hx hb dX8_sold_5 rfl (lv_at hl 0 rfl) ?_
  refine m_get (ci := 8) (C := RX8) (T := TX8) (n := 35) (v := .int (sf 5)) hx hb hts inX8_ hown hK rfl (hM.cel (by omega) (show (mw ac adr (va_up sf 0 0) af) 0 = .inr (8, mfs adr (va_up sf 0 0)) from rfl)) 6 (by decide) (hts _ (by decide +kernel)) rfl dX8_sold_6 ?_
  refine m_top (show (sf 5) = nI ns from hs.1) ?_
  exact e_wi hx hb hlocks hr dX8_sold_9 hM hS (⟨rfl, rfl⟩)
set_option maxHeartbeats 4000000 in
set_option maxRecDepth 100000 in
/-- X8_due -/
theorem k_X8_due (l : Launch) (D : va_G) (ac : Nat → ClassId) (H : Heap) (A : Nat → Prop) (adr : Nat → Nat) (sf : Nat → Int32) (af : Nat → Nat → Int32) (hM : MW D A 24 adr (mw ac adr sf af) H) (ns : Nat) (sc sn : Nat → Nat) (sw : Nat → Nat → Nat) (sb : Nat → Nat → Int32) (hs : MSen sf af ns sc sn sw sb) : WRi l yX8_due wsX8_due ({ frames := 1, cells := 0, slots := 0, locals := 22 }) [.ref (adr 0)] D ac H A 24 adr (fun r w1 => r = nI (dnF (af 19) ns) ∧ w1 = mw ac adr (va_up sf 0 0) af) := by
  refine Met.ofW (cc := cX8_due) (maxL := 1) (ret := (some .int)) (by decide) rfl ?_
  intro p e s m args below meth c s₁ B hml hv
  obtain ⟨hargs, hsz, hK⟩ := hv
  have hx := B.exec
  have hb := B.bytes
  have hr := B.returns
  have hts := atoms_spec (ws := wsX8_due) B.pre
  have hown : s.vm.findClass RX8 = some m.cls := findClass_of_methodNamed B.named
  have hlocks := B.notSynchronized
  subst hsz
  have inX8_ : ∀ w ∈ wsX80, w ∈ wsX8_due := by decide +kernel
  have hS : va_S A s.heap s.heap [] := va_S.rf
  have hl := lv_entry ([.ref (adr 0)]) (n := 1) (Nat.le_of_ble_eq_true rfl)
  have hen := lg_entry_eq m [.ref (adr 0)] 1
  rw [← hargs] at hen
  rw [hen]
  generalize (lg_sl ([.ref (adr 0)]) ++ List.replicate (1 - (lg_sl ([.ref (adr 0)])).length) Slot.unset).toArray = ls at hl ⊢
  have hl : lv_has ls 1 [(0, .ref (adr 0))] := hl
  refine lv_aload_n hx hb dX8_due_0 rfl (lv_at hl 0 rfl) ?_
  refine lv_iconst (v := 0) hx hb dX8_due_1 (by decide) ?_
  refine m_put (ci := 8) (C := RX8) (T := TX8) (n := 35) (v := .int 0) (ty := tyX8 0) hx hb hts inX8_ tyX8 tyX8_ok nmX8 hown hK hM hS rfl 0 (by omega) (show (mw ac adr sf af) 0 = .inr (8, mfs adr sf) from rfl) 0 (by decide) (hts _ (by decide +kernel)) rfl (by decide +kernel) rfl rfl (Nat.le_of_ble_eq_true rfl) dX8_due_2 (fun H locs hM hS => ?_)
  have hM : MW D A 24 adr (va_up (mw ac adr sf af) 0 (.inr (8, mfs adr (va_up sf 0 0)))) H := hM
  have hM := MW.mobj (s1 := (va_up sf 0 0)) hM rfl
  refine lv_aload_n hx hb dX8_due_5 rfl (lv_at hl 0 rfl) ?_
  refine r_calli (va_runV (As := []) (rest := []) ⟨hx, hb, hml, hown, hts⟩ (k_X8_dueNow l D ac _ A adr (va_up sf 0 0) af hM ns hs.1 hs.2.1) (cwV 0 hts gX8_due_X8_dueNow rfl rfl rfl (by decide +kernel) ⟨Nat.le_of_ble_eq_true rfl, Nat.le_of_ble_eq_true rfl⟩) (pV hK (ci := 8) rfl (hM.cel (by omega) (show (mw ac adr (va_up sf 0 0) af) 0 = .inr (8, mfs adr (va_up sf 0 0)) from rfl))) rfl rfl hl.1 rfl (lv_room (Nat.le_of_ble_eq_true rfl)) dX8_due_6 ⟨Nat.le_of_ble_eq_true rfl, Nat.le_of_ble_eq_true rfl⟩) hS (fun rv_1 locs hrv_1 hS => ?_)
  subst hrv_1
  exact e_wi hx hb hlocks hr dX8_due_9 hM hS (⟨rfl, rfl⟩)
set_option maxHeartbeats 4000000 in
set_option maxRecDepth 100000 in
/-- X8_clientOf -/
theorem k_X8_clientOf (l : Launch) (D : va_G) (ac : Nat → ClassId) (H : Heap) (A : Nat → Prop) (adr : Nat → Nat) (sf : Nat → Int32) (af : Nat → Nat → Int32) (hM : MW D A 24 adr (mw ac adr sf af) H) (ns : Nat) (sc sn : Nat → Nat) (sw : Nat → Nat → Nat) (sb : Nat → Nat → Int32) (hs : MSen sf af ns sc sn sw sb) (x : Int32) : WRi l yX8_clientOf wsX8_clientOf ({ frames := 2, cells := 0, slots := 0, locals := 42 }) [.ref (adr 0), .int x] D ac H A 24 adr (MPo ac adr sf af (cd1 (ix x ns).isNone) (fun r s1 a1 => ∃ i, i < ns ∧ x = nI i ∧ r = nI (sc i) ∧ Scr sf af s1 a1)) := by
  refine Met.ofW (cc := cX8_clientOf) (maxL := 2) (ret := (some .int)) (by decide) rfl ?_
  intro p e s m args below meth c s₁ B hml hv
  obtain ⟨hargs, hsz, hK⟩ := hv
  have hx := B.exec
  have hb := B.bytes
  have hr := B.returns
  have hts := atoms_spec (ws := wsX8_clientOf) B.pre
  have hown : s.vm.findClass RX8 = some m.cls := findClass_of_methodNamed B.named
  have hlocks := B.notSynchronized
  subst hsz
  have inX8_ : ∀ w ∈ wsX80, w ∈ wsX8_clientOf := by decide +kernel
  have hS : va_S A s.heap s.heap [] := va_S.rf
  have hl := lv_entry ([.ref (adr 0), .int x]) (n := 2) (Nat.le_of_ble_eq_true rfl)
  have hen := lg_entry_eq m [.ref (adr 0), .int x] 2
  rw [← hargs] at hen
  rw [hen]
  generalize (lg_sl ([.ref (adr 0), .int x]) ++ List.replicate (2 - (lg_sl ([.ref (adr 0), .int x])).length) Slot.unset).toArray = ls at hl ⊢
  have hl : lv_has ls 2 [(0, .ref (adr 0)), (1, .int x)] := hl
  obtain ⟨Q0, hQ0⟩ : ∃ z, z = MQ below (va_Qi (MPo ac adr sf af (cd1 (ix x ns).isNone) (fun r s1 a1 => ∃ i, i < ns ∧ x = nI i ∧ r = nI (sc i) ∧ Scr sf af s1 a1)) (fun c t => MW D A 24 adr c t.heap) A) args s 0 0 A := ⟨_, rfl⟩
  rw [← hQ0]
  have h7 := hs.2.1
  refine lv_aload_n hx hb dX8_clientOf_0 rfl (lv_at hl 0 rfl) ?_
  refine lv_aload_n hx hb dX8_clientOf_1 rfl (lv_at hl 0 rfl) ?_
  refine lv_iload_n hx hb dX8_clientOf_2 rfl (lv_at hl 1 rfl) ?_
  refine r_calli (va_runV (As := [.int x]) (rest := [.ref (adr 0)]) ⟨hx, hb, hml, hown, hts⟩ (k_X8_isSentence l D ac _ A adr sf af hM ns sc sn sw sb (hs.t rfl rfl rfl rfl rfl) x) (cwV 1 hts gX8_clientOf_X8_isSentence rfl rfl rfl (by decide +kernel) ⟨Nat.le_of_ble_eq_true rfl, Nat.le_of_ble_eq_true rfl⟩) (pV hK (ci := 8) rfl (hM.cel (by omega) (show (mw ac adr sf af) 0 = .inr (8, mfs adr sf) from rfl))) rfl rfl hl.1 rfl (lv_room (Nat.le_of_ble_eq_true rfl)) dX8_clientOf_3 ⟨Nat.le_of_ble_eq_true rfl, Nat.le_of_ble_eq_true rfl⟩) hS (fun rv_1 locs hrv_1 hS => ?_)
  subst hrv_1
  rcases hi_x : ix x ns with _ | k_x
  · refine m_top (show _ = (0 : Int32) from rfl) ?_
    refine lv_if_eq (tgt := 13) hx hb dX8_clientOf_6 (by decide) (fun c6 => ?_) (fun c6 => ?_)
    · refine lv_iconst (v := 1) hx hb dX8_clientOf_13 (by decide) ?_
      refine w_calli (va_runV (As := [.int 1]) (rest := []) ⟨hx, hb, hml, hown, hts⟩ (k_X8_holds l D ac _ A adr sf af hM 1) (cwV 1 hts gX8_clientOf_X8_holds rfl rfl rfl (by decide +kernel) ⟨Nat.le_of_ble_eq_true rfl, Nat.le_of_ble_eq_true rfl⟩) (pV hK (ci := 8) rfl (hM.cel (by omega) (show (mw ac adr sf af) 0 = .inr (8, mfs adr sf) from rfl))) rfl rfl hl.1 rfl (lv_room (Nat.le_of_ble_eq_true rfl)) dX8_clientOf_14 ⟨Nat.le_of_ble_eq_true rfl, Nat.le_of_ble_eq_true rfl⟩) hS (fun rv_2 w_3 H locs hw_3 hM hS => ?_)
      obtain ⟨hrv_2, he_4⟩ := hw_3
      rw [he_4] at hM
      have hM := (MW.cg (s1 := (va_up sf 0 1)) (a1 := af) hM (fun j9 => if q0_ : j9 = 0 then (by subst q0_; rfl) else (by first | rfl | simp only [va_up, if_neg q0_])) (fun _ => rfl))
      subst hrv_2
      refine m_top (show _ = (0 : Int32) from rfl) ?_
      refine lv_if_eq (tgt := 29) hx hb dX8_clientOf_17 (by decide) (fun c17 => ?_) (fun c17 => ?_)
      · refine lv_iconst (v := 0) hx hb dX8_clientOf_29 (by decide) ?_
        rw [hQ0]
        exact e_wi hx hb hlocks hr dX8_clientOf_30 hM hS (MPo.no (c := 1) (by simp [cd1, cd2, cd3, hi_x] : cd1 (ix x ns).isNone = 1) (by decide) rfl ⟨fun k9 u1_ u2_ => by first | rfl | simp only [va_up, if_neg u1_, if_neg u2_], fun k9 u1_ u2_ => by first | rfl | simp only [va_up, if_neg u1_, if_neg u2_]⟩)
      · exact absurd c17 (by decide)
    · exact absurd c6 (by decide)
  · obtain ⟨b_x, e_x⟩ := ix_of hi_x (by omega)
    refine m_top (show _ = (1 : Int32) from rfl) ?_
    subst e_x
    refine lv_if_eq (tgt := 13) hx hb dX8_clientOf_6 (by decide) (fun c6 => ?_) (fun c6 => ?_)
    · exact absurd c6 (by decide)
    · refine lv_iconst (v := 0) hx hb dX8_clientOf_9 (by decide) ?_
      refine lv_goto (tgt := 14) hx hb dX8_clientOf_10 (by decide) ?_
      refine w_calli (va_runV (As := [.int 0]) (rest := []) ⟨hx, hb, hml, hown, hts⟩ (k_X8_holds l D ac _ A adr sf af hM 0) (cwV 1 hts gX8_clientOf_X8_holds rfl rfl rfl (by decide +kernel) ⟨Nat.le_of_ble_eq_true rfl, Nat.le_of_ble_eq_true rfl⟩) (pV hK (ci := 8) rfl (hM.cel (by omega) (show (mw ac adr sf af) 0 = .inr (8, mfs adr sf) from rfl))) rfl rfl hl.1 rfl (lv_room (Nat.le_of_ble_eq_true rfl)) dX8_clientOf_14 ⟨Nat.le_of_ble_eq_true rfl, Nat.le_of_ble_eq_true rfl⟩) hS (fun rv_5 w_6 H locs hw_6 hM hS => ?_)
      obtain ⟨hrv_5, he_7⟩ := hw_6
      rw [he_7] at hM
      have hM := (MW.cg (s1 := (va_up sf 0 0)) (a1 := af) hM (fun j9 => if q0_ : j9 = 0 then (by subst q0_; rfl) else (by first | rfl | simp only [va_up, if_neg q0_])) (fun _ => rfl))
      subst hrv_5
      refine m_top (show _ = (1 : Int32) from rfl) ?_
      refine lv_if_eq (tgt := 29) hx hb dX8_clientOf_17 (by decide) (fun c17 => ?_) (fun c17 => ?_)
      · exact absurd c17 (by decide)
      · refine lv_aload_n hx hb dX8_clientOf_20 rfl (lv_at hl 0 rfl) ?_
        refine m_get (ci := 8) (C := RX8) (T := TX8) (n := 35) (v := .ref (adr 2)) hx hb hts inX8_ hown hK rfl (hM.cel (by omega) (show (mw ac adr (va_up sf 0 0) af) 0 = .inr (8, mfs adr (va_up sf 0 0)) from rfl)) 7 (by decide) (hts _ (by decide +kernel)) rfl dX8_clientOf_21 ?_
        refine lv_iload_n hx hb dX8_clientOf_24 rfl (lv_at hl 1 rfl) ?_
        refine m_iald hx hb hK (hM.cel (by omega) (show (mw ac adr (va_up sf 0 0) af) 2 = .inl (ac 0, 40, .inl (af 2)) from rfl)) (vp_in_nI (by omega) (by decide)) dX8_clientOf_25 ?_
        refine m_top (show ((af 2) (nI k_x).toNatClampNeg) = nI (sc k_x) from by rw [nI_clamp (by omega)]; exact (hs.2.2 _ b_x).1) ?_
        refine lv_goto (tgt := 30) hx hb dX8_clientOf_26 (by decide) ?_
        rw [hQ0]
        exact e_wi hx hb hlocks hr dX8_clientOf_30 hM hS (MPo.ok (by simp [cd1, cd2, cd3, hi_x] : cd1 (ix (nI k_x) ns).isNone = 0) rfl ⟨k_x, b_x, rfl, rfl, ⟨fun k9 u1_ u2_ => by first | rfl | simp only [va_up, if_neg u1_, if_neg u2_], fun k9 u1_ u2_ => by first | rfl | simp only [va_up, if_neg u1_, if_neg u2_]⟩⟩)
set_option maxHeartbeats 4000000 in
set_option maxRecDepth 100000 in
/-- X8_isDue -/
theorem k_X8_isDue (l : Launch) (D : va_G) (ac : Nat → ClassId) (H : Heap) (A : Nat → Prop) (adr : Nat → Nat) (sf : Nat → Int32) (af : Nat → Nat → Int32) (hM : MW D A 24 adr (mw ac adr sf af) H) (fs fr : Nat → Int32) (hSy : SayR af fs fr) (ns : Nat) (sc sn : Nat → Nat) (sw : Nat → Nat → Nat) (sb : Nat → Nat → Int32) (hs : MSen sf af ns sc sn sw sb) (x : Int32) : WRi l yX8_isDue wsX8_isDue ({ frames := 4, cells := 0, slots := 0, locals := 93 }) [.ref (adr 0), .int x] D ac H A 24 adr (MPo ac adr sf af (cd1 (ix x ns).isNone) (fun r s1 a1 => ∃ i, i < ns ∧ x = nI i ∧ r = (if asB fr (sc i) (sn i) (sw i) (sb i) = true then 1 else 0) ∧ Scr sf af s1 a1)) := by
  refine Met.ofW (cc := cX8_isDue) (maxL := 2) (ret := (some .boolean)) (by decide) rfl ?_
  intro p e s m args below meth c s₁ B hml hv
  obtain ⟨hargs, hsz, hK⟩ := hv
  have hx := B.exec
  have hb := B.bytes
  have hr := B.returns
  have hts := atoms_spec (ws := wsX8_isDue) B.pre
  have hown : s.vm.findClass RX8 = some m.cls := findClass_of_methodNamed B.named
  have hlocks := B.notSynchronized
  subst hsz
  have hS : va_S A s.heap s.heap [] := va_S.rf
  have hl := lv_entry ([.ref (adr 0), .int x]) (n := 2) (Nat.le_of_ble_eq_true rfl)
  have hen := lg_entry_eq m [.ref (adr 0), .int x] 2
  rw [← hargs] at hen
  rw [hen]
  generalize (lg_sl ([.ref (adr 0), .int x]) ++ List.replicate (2 - (lg_sl ([.ref (adr 0), .int x])).length) Slot.unset).toArray = ls at hl ⊢
  have hl : lv_has ls 2 [(0, .ref (adr 0)), (1, .int x)] := hl
  obtain ⟨Q0, hQ0⟩ : ∃ z, z = MQ below (va_Qi (MPo ac adr sf af (cd1 (ix x ns).isNone) (fun r s1 a1 => ∃ i, i < ns ∧ x = nI i ∧ r = (if asB fr (sc i) (sn i) (sw i) (sb i) = true then 1 else 0) ∧ Scr sf af s1 a1)) (fun c t => MW D A 24 adr c t.heap) A) args s 0 0 A := ⟨_, rfl⟩
  rw [← hQ0]
  have h7 := hs.2.1
  refine lv_aload_n hx hb dX8_isDue_0 rfl (lv_at hl 0 rfl) ?_
  refine lv_aload_n hx hb dX8_isDue_1 rfl (lv_at hl 0 rfl) ?_
  refine lv_iload_n hx hb dX8_isDue_2 rfl (lv_at hl 1 rfl) ?_
  refine r_calli (va_runV (As := [.int x]) (rest := [.ref (adr 0)]) ⟨hx, hb, hml, hown, hts⟩ (k_X8_isSentence l D ac _ A adr sf af hM ns sc sn sw sb (hs.t rfl rfl rfl rfl rfl) x) (cwV 1 hts gX8_isDue_X8_isSentence rfl rfl rfl (by decide +kernel) ⟨Nat.le_of_ble_eq_true rfl, Nat.le_of_ble_eq_true rfl⟩) (pV hK (ci := 8) rfl (hM.cel (by omega) (show (mw ac adr sf af) 0 = .inr (8, mfs adr sf) from rfl))) rfl rfl hl.1 rfl (lv_room (Nat.le_of_ble_eq_true rfl)) dX8_isDue_3 ⟨Nat.le_of_ble_eq_true rfl, Nat.le_of_ble_eq_true rfl⟩) hS (fun rv_1 locs hrv_1 hS => ?_)
  subst hrv_1
  rcases hi_x : ix x ns with _ | k_x
  · refine m_top (show _ = (0 : Int32) from rfl) ?_
    refine lv_if_eq (tgt := 13) hx hb dX8_isDue_6 (by decide) (fun c6 => ?_) (fun c6 => ?_)
    · refine lv_iconst (v := 1) hx hb dX8_isDue_13 (by decide) ?_
      refine w_calli (va_runV (As := [.int 1]) (rest := []) ⟨hx, hb, hml, hown, hts⟩ (k_X8_holds l D ac _ A adr sf af hM 1) (cwV 1 hts gX8_isDue_X8_holds rfl rfl rfl (by decide +kernel) ⟨Nat.le_of_ble_eq_true rfl, Nat.le_of_ble_eq_true rfl⟩) (pV hK (ci := 8) rfl (hM.cel (by omega) (show (mw ac adr sf af) 0 = .inr (8, mfs adr sf) from rfl))) rfl rfl hl.1 rfl (lv_room (Nat.le_of_ble_eq_true rfl)) dX8_isDue_14 ⟨Nat.le_of_ble_eq_true rfl, Nat.le_of_ble_eq_true rfl⟩) hS (fun rv_2 w_3 H locs hw_3 hM hS => ?_)
      obtain ⟨hrv_2, he_4⟩ := hw_3
      rw [he_4] at hM
      have hM := (MW.cg (s1 := (va_up sf 0 1)) (a1 := af) hM (fun j9 => if q0_ : j9 = 0 then (by subst q0_; rfl) else (by first | rfl | simp only [va_up, if_neg q0_])) (fun _ => rfl))
      subst hrv_2
      refine m_top (show _ = (0 : Int32) from rfl) ?_
      refine lv_if_eq (tgt := 32) hx hb dX8_isDue_17 (by decide) (fun c17 => ?_) (fun c17 => ?_)
      · refine lv_iconst (v := 0) hx hb dX8_isDue_32 (by decide) ?_
        rw [hQ0]
        exact e_wz hx hb hlocks hr dX8_isDue_33 (by decide) hM hS (MPo.no (c := 1) (by simp [cd1, cd2, cd3, hi_x] : cd1 (ix x ns).isNone = 1) (by decide) rfl ⟨fun k9 u1_ u2_ => by first | rfl | simp only [va_up, if_neg u1_, if_neg u2_], fun k9 u1_ u2_ => by first | rfl | simp only [va_up, if_neg u1_, if_neg u2_]⟩)
      · exact absurd c17 (by decide)
    · exact absurd c6 (by decide)
  · obtain ⟨b_x, e_x⟩ := ix_of hi_x (by omega)
    refine m_top (show _ = (1 : Int32) from rfl) ?_
    subst e_x
    refine lv_if_eq (tgt := 13) hx hb dX8_isDue_6 (by decide) (fun c6 => ?_) (fun c6 => ?_)
    · exact absurd c6 (by decide)
    · refine lv_iconst (v := 0) hx hb dX8_isDue_9 (by decide) ?_
      refine lv_goto (tgt := 14) hx hb dX8_isDue_10 (by decide) ?_
      refine w_calli (va_runV (As := [.int 0]) (rest := []) ⟨hx, hb, hml, hown, hts⟩ (k_X8_holds l D ac _ A adr sf af hM 0) (cwV 1 hts gX8_isDue_X8_holds rfl rfl rfl (by decide +kernel) ⟨Nat.le_of_ble_eq_true rfl, Nat.le_of_ble_eq_true rfl⟩) (pV hK (ci := 8) rfl (hM.cel (by omega) (show (mw ac adr sf af) 0 = .inr (8, mfs adr sf) from rfl))) rfl rfl hl.1 rfl (lv_room (Nat.le_of_ble_eq_true rfl)) dX8_isDue_14 ⟨Nat.le_of_ble_eq_true rfl, Nat.le_of_ble_eq_true rfl⟩) hS (fun rv_5 w_6 H locs hw_6 hM hS => ?_)
      obtain ⟨hrv_5, he_7⟩ := hw_6
      rw [he_7] at hM
      have hM := (MW.cg (s1 := (va_up sf 0 0)) (a1 := af) hM (fun j9 => if q0_ : j9 = 0 then (by subst q0_; rfl) else (by first | rfl | simp only [va_up, if_neg q0_])) (fun _ => rfl))
      subst hrv_5
      refine m_top (show _ = (1 : Int32) from rfl) ?_
      refine lv_if_eq (tgt := 32) hx hb dX8_isDue_17 (by decide) (fun c17 => ?_) (fun c17 => ?_)
      · exact absurd c17 (by decide)
      · refine lv_aload_n hx hb dX8_isDue_20 rfl (lv_at hl 0 rfl) ?_
        refine lv_iload_n hx hb dX8_isDue_21 rfl (lv_at hl 1 rfl) ?_
        refine r_calli (va_runV (As := [.int (nI k_x)]) (rest := []) ⟨hx, hb, hml, hown, hts⟩ (k_X8_isDueNow l D ac _ A adr (va_up sf 0 0) af hM fs fr (hSy.t rfl) ns sc sn sw sb (hs.t rfl rfl rfl rfl rfl) k_x (by omega)) (cwV 1 hts gX8_isDue_X8_isDueNow rfl rfl rfl (by decide +kernel) ⟨Nat.le_of_ble_eq_true rfl, Nat.le_of_ble_eq_true rfl⟩) (pV hK (ci := 8) rfl (hM.cel (by omega) (show (mw ac adr (va_up sf 0 0) af) 0 = .inr (8, mfs adr (va_up sf 0 0)) from rfl))) rfl rfl hl.1 rfl (lv_room (Nat.le_of_ble_eq_true rfl)) dX8_isDue_22 ⟨Nat.le_of_ble_eq_true rfl, Nat.le_of_ble_eq_true rfl⟩) hS (fun rv_8 locs hrv_8 hS => ?_)
        subst hrv_8
        by_cases d25 : asB fr (sc k_x) (sn k_x) (sw k_x) (sb k_x) = true
        · refine m_top (show (if asB fr (sc k_x) (sn k_x) (sw k_x) (sb k_x) = true then 1 else 0) = (1 : Int32) from if_pos d25) ?_
          refine lv_if_eq (tgt := 32) hx hb dX8_isDue_25 (by decide) (fun c25 => ?_) (fun c25 => ?_)
          · exact absurd c25 (by decide)
          · refine lv_iconst (v := 1) hx hb dX8_isDue_28 (by decide) ?_
            refine lv_goto (tgt := 33) hx hb dX8_isDue_29 (by decide) ?_
            rw [hQ0]
            exact e_wz hx hb hlocks hr dX8_isDue_33 (by decide) hM hS (MPo.ok (by simp [cd1, cd2, cd3, hi_x] : cd1 (ix (nI k_x) ns).isNone = 0) rfl ⟨k_x, b_x, rfl, (if_pos d25).symm, ⟨fun k9 u1_ u2_ => by first | rfl | simp only [va_up, if_neg u1_, if_neg u2_], fun k9 u1_ u2_ => by first | rfl | simp only [va_up, if_neg u1_, if_neg u2_]⟩⟩)
        · refine m_top (show (if asB fr (sc k_x) (sn k_x) (sw k_x) (sb k_x) = true then 1 else 0) = (0 : Int32) from if_neg d25) ?_
          refine lv_if_eq (tgt := 32) hx hb dX8_isDue_25 (by decide) (fun c25 => ?_) (fun c25 => ?_)
          · refine lv_iconst (v := 0) hx hb dX8_isDue_32 (by decide) ?_
            rw [hQ0]
            exact e_wz hx hb hlocks hr dX8_isDue_33 (by decide) hM hS (MPo.ok (by simp [cd1, cd2, cd3, hi_x] : cd1 (ix (nI k_x) ns).isNone = 0) rfl ⟨k_x, b_x, rfl, (if_neg d25).symm, ⟨fun k9 u1_ u2_ => by first | rfl | simp only [va_up, if_neg u1_, if_neg u2_], fun k9 u1_ u2_ => by first | rfl | simp only [va_up, if_neg u1_, if_neg u2_]⟩⟩)
          · exact absurd c25 (by decide)
set_option maxHeartbeats 4000000 in
set_option maxRecDepth 100000 in
/-- X8_isPlace -/
theorem k_X8_isPlace (l : Launch) (D : va_G) (ac : Nat → ClassId) (H : Heap) (A : Nat → Prop) (adr : Nat → Nat) (sf : Nat → Int32) (af : Nat → Nat → Int32) (hM : MW D A 24 adr (mw ac adr sf af) H) (ns : Nat) (sc sn : Nat → Nat) (sw : Nat → Nat → Nat) (sb : Nat → Nat → Int32) (hs : MSen sf af ns sc sn sw sb) (x y : Int32) : WRi l yX8_isPlace wsX8_isPlace ({ frames := 2, cells := 0, slots := 0, locals := 42 }) [.ref (adr 0), .int x, .int y] D ac H A 24 adr (fun r w1 => r = (if cd1 ((ix x ns).elim true (fun i => (ix y (sn i)).isNone)) = 0 then 1 else 0) ∧ w1 = mw ac adr (va_up sf 0 (nI (cd1 ((ix x ns).elim true (fun i => (ix y (sn i)).isNone))))) af) := by
  refine Met.ofW (cc := cX8_isPlace) (maxL := 4) (ret := (some .boolean)) (by decide) rfl ?_
  intro p e s m args below meth c s₁ B hml hv
  obtain ⟨hargs, hsz, hK⟩ := hv
  have hx := B.exec
  have hb := B.bytes
  have hr := B.returns
  have hts := atoms_spec (ws := wsX8_isPlace) B.pre
  have hown : s.vm.findClass RX8 = some m.cls := findClass_of_methodNamed B.named
  have hlocks := B.notSynchronized
  subst hsz
  have inX8_ : ∀ w ∈ wsX80, w ∈ wsX8_isPlace := by decide +kernel
  have hS : va_S A s.heap s.heap [] := va_S.rf
  have hl := lv_entry ([.ref (adr 0), .int x, .int y]) (n := 4) (Nat.le_of_ble_eq_true rfl)
  have hen := lg_entry_eq m [.ref (adr 0), .int x, .int y] 4
  rw [← hargs] at hen
  rw [hen]
  generalize (lg_sl ([.ref (adr 0), .int x, .int y]) ++ List.replicate (4 - (lg_sl ([.ref (adr 0), .int x, .int y])).length) Slot.unset).toArray = ls at hl ⊢
  have hl : lv_has ls 4 [(0, .ref (adr 0)), (1, .int x), (2, .int y)] := hl
  obtain ⟨Q0, hQ0⟩ : ∃ z, z = MQ below (va_Qi (fun r w1 => r = (if cd1 ((ix x ns).elim true (fun i => (ix y (sn i)).isNone)) = 0 then 1 else 0) ∧ w1 = mw ac adr (va_up sf 0 (nI (cd1 ((ix x ns).elim true (fun i => (ix y (sn i)).isNone))))) af) (fun c t => MW D A 24 adr c t.heap) A) args s 0 0 A := ⟨_, rfl⟩
  rw [← hQ0]
  have h7 := hs.2.1
  refine lv_aload_n hx hb dX8_isPlace_0 rfl (lv_at hl 0 rfl) ?_
  refine lv_iload_n hx hb dX8_isPlace_1 rfl (lv_at hl 1 rfl) ?_
  refine r_calli (va_runV (As := [.int x]) (rest := []) ⟨hx, hb, hml, hown, hts⟩ (k_X8_isSentence l D ac _ A adr sf af hM ns sc sn sw sb (hs.t rfl rfl rfl rfl rfl) x) (cwV 1 hts gX8_isPlace_X8_isSentence rfl rfl rfl (by decide +kernel) ⟨Nat.le_of_ble_eq_true rfl, Nat.le_of_ble_eq_true rfl⟩) (pV hK (ci := 8) rfl (hM.cel (by omega) (show (mw ac adr sf af) 0 = .inr (8, mfs adr sf) from rfl))) rfl rfl hl.1 rfl (lv_room (Nat.le_of_ble_eq_true rfl)) dX8_isPlace_2 ⟨Nat.le_of_ble_eq_true rfl, Nat.le_of_ble_eq_true rfl⟩) hS (fun rv_1 locs hrv_1 hS => ?_)
  subst hrv_1
  refine lv_istore_n (lv' := [(3, .int (if (ix x ns).isSome then 1 else 0)), (0, .ref (adr 0)), (1, .int x), (2, .int y)]) hx hb dX8_isPlace_5 rfl hl (by decide) rfl (fun ls hl => ?_)
  refine lv_aload_n hx hb dX8_isPlace_6 rfl (lv_at hl 1 rfl) ?_
  refine lv_iload_n hx hb dX8_isPlace_7 rfl (lv_at hl 0 rfl) ?_
  rcases hi_x : ix x ns with _ | k_x
  · refine m_top (show _ = (0 : Int32) from rfl) ?_
    refine lv_if_eq (tgt := 28) hx hb dX8_isPlace_8 (by decide) (fun c8 => ?_) (fun c8 => ?_)
    · refine lv_iconst (v := 1) hx hb dX8_isPlace_28 (by decide) ?_
      refine w_calli (va_runV (As := [.int 1]) (rest := []) ⟨hx, hb, hml, hown, hts⟩ (k_X8_holds l D ac _ A adr sf af hM 1) (cwV 1 hts gX8_isPlace_X8_holds rfl rfl rfl (by decide +kernel) ⟨Nat.le_of_ble_eq_true rfl, Nat.le_of_ble_eq_true rfl⟩) (pV hK (ci := 8) rfl (hM.cel (by omega) (show (mw ac adr sf af) 0 = .inr (8, mfs adr sf) from rfl))) rfl rfl hl.1 rfl (lv_room (Nat.le_of_ble_eq_true rfl)) dX8_isPlace_29 ⟨Nat.le_of_ble_eq_true rfl, Nat.le_of_ble_eq_true rfl⟩) hS (fun rv_2 w_3 H locs hw_3 hM hS => ?_)
      obtain ⟨hrv_2, he_4⟩ := hw_3
      rw [he_4] at hM
      have hM := (MW.cg (s1 := (va_up sf 0 1)) (a1 := af) hM (fun j9 => if q0_ : j9 = 0 then (by subst q0_; rfl) else (by first | rfl | simp only [va_up, if_neg q0_])) (fun _ => rfl))
      subst hrv_2
      refine m_top (show _ = (0 : Int32) from rfl) ?_
      have hM := MW.cg (s1 := (va_up sf 0 (nI (cd1 ((ix x ns).elim true (fun i => (ix y (sn i)).isNone)))))) (a1 := af) hM (fun j9 => if q0_ : j9 = 0 then (by subst q0_; show nI (cd1 ((ix x ns).elim true (fun i => (ix y (sn i)).isNone))) = 1; exact (by rw [(by simp [cd1, cd2, cd3, hi_x] : cd1 ((ix x ns).elim true (fun i => (ix y (sn i)).isNone)) = 1)]; rfl)) else (by first | rfl | simp only [va_up, if_neg q0_])) (fun _ => rfl)
      rw [hQ0]
      exact e_wz hx hb hlocks hr dX8_isPlace_32 (by decide) hM hS (⟨(if_neg (by rw [(by simp [cd1, cd2, cd3, hi_x] : cd1 ((ix x ns).elim true (fun i => (ix y (sn i)).isNone)) = 1)]; decide)).symm, rfl⟩)
    · exact absurd c8 (by decide)
  · obtain ⟨b_x, e_x⟩ := ix_of hi_x (by omega)
    refine m_top (show _ = (1 : Int32) from rfl) ?_
    subst e_x
    obtain ⟨q1_, q2_, ⟨q3_, q4_, q5_⟩, q6_⟩ := hs.2.2 k_x b_x
    refine lv_if_eq (tgt := 28) hx hb dX8_isPlace_8 (by decide) (fun c8 => ?_) (fun c8 => ?_)
    · exact absurd c8 (by decide)
    · refine lv_iload_n hx hb dX8_isPlace_11 rfl (lv_at hl 3 rfl) ?_
      refine lv_aload_n hx hb dX8_isPlace_12 rfl (lv_at hl 1 rfl) ?_
      refine m_get (ci := 8) (C := RX8) (T := TX8) (n := 35) (v := .ref (adr 3)) hx hb hts inX8_ hown hK rfl (hM.cel (by omega) (show (mw ac adr sf af) 0 = .inr (8, mfs adr sf) from rfl)) 8 (by decide) (hts _ (by decide +kernel)) rfl dX8_isPlace_13 ?_
      refine lv_iload_n hx hb dX8_isPlace_16 rfl (lv_at hl 2 rfl) ?_
      refine m_iald hx hb hK (hM.cel (by omega) (show (mw ac adr sf af) 3 = .inl (ac 0, 40, .inl (af 3)) from rfl)) (vp_in_nI (by omega) (by decide)) dX8_isPlace_17 ?_
      refine m_top (show ((af 3) (nI k_x).toNatClampNeg) = nI (sn k_x) from by rw [nI_clamp (by omega)]; exact q2_) ?_
      refine r_calli (va_runS (As := [.int y, .int (nI (sn k_x))]) (rest := [.ref (adr 0)]) ⟨hx, hb, hml, hown, hts⟩ (k_X8_isIn l D ac _ y ((sn k_x)) (by omega)) (va_cwS 2 hts gX8_isPlace_X8_isIn rfl rfl rfl (by decide +kernel) ⟨Nat.le_of_ble_eq_true rfl, Nat.le_of_ble_eq_true rfl⟩) (pS hK) rfl rfl hl.1 rfl (lv_room (Nat.le_of_ble_eq_true rfl)) dX8_isPlace_18 ⟨Nat.le_of_ble_eq_true rfl, Nat.le_of_ble_eq_true rfl⟩) hS (fun rv_5 locs hrv_5 hS => ?_)
      subst hrv_5
      rcases hi_y : ix y (sn k_x) with _ | k_y
      · refine m_top (show _ = (0 : Int32) from rfl) ?_
        refine lv_if_eq (tgt := 28) hx hb dX8_isPlace_21 (by decide) (fun c21 => ?_) (fun c21 => ?_)
        · refine lv_iconst (v := 1) hx hb dX8_isPlace_28 (by decide) ?_
          refine w_calli (va_runV (As := [.int 1]) (rest := []) ⟨hx, hb, hml, hown, hts⟩ (k_X8_holds l D ac _ A adr sf af hM 1) (cwV 1 hts gX8_isPlace_X8_holds rfl rfl rfl (by decide +kernel) ⟨Nat.le_of_ble_eq_true rfl, Nat.le_of_ble_eq_true rfl⟩) (pV hK (ci := 8) rfl (hM.cel (by omega) (show (mw ac adr sf af) 0 = .inr (8, mfs adr sf) from rfl))) rfl rfl hl.1 rfl (lv_room (Nat.le_of_ble_eq_true rfl)) dX8_isPlace_29 ⟨Nat.le_of_ble_eq_true rfl, Nat.le_of_ble_eq_true rfl⟩) hS (fun rv_6 w_7 H locs hw_7 hM hS => ?_)
          obtain ⟨hrv_6, he_8⟩ := hw_7
          rw [he_8] at hM
          have hM := (MW.cg (s1 := (va_up sf 0 1)) (a1 := af) hM (fun j9 => if q0_ : j9 = 0 then (by subst q0_; rfl) else (by first | rfl | simp only [va_up, if_neg q0_])) (fun _ => rfl))
          subst hrv_6
          refine m_top (show _ = (0 : Int32) from rfl) ?_
          have hM := MW.cg (s1 := (va_up sf 0 (nI (cd1 ((ix (nI k_x) ns).elim true (fun i => (ix y (sn i)).isNone)))))) (a1 := af) hM (fun j9 => if q0_ : j9 = 0 then (by subst q0_; show nI (cd1 ((ix (nI k_x) ns).elim true (fun i => (ix y (sn i)).isNone))) = 1; exact (by rw [(by simp [cd1, cd2, cd3, hi_x, hi_y] : cd1 ((ix (nI k_x) ns).elim true (fun i => (ix y (sn i)).isNone)) = 1)]; rfl)) else (by first | rfl | simp only [va_up, if_neg q0_])) (fun _ => rfl)
          rw [hQ0]
          exact e_wz hx hb hlocks hr dX8_isPlace_32 (by decide) hM hS (⟨(if_neg (by rw [(by simp [cd1, cd2, cd3, hi_x, hi_y] : cd1 ((ix (nI k_x) ns).elim true (fun i => (ix y (sn i)).isNone)) = 1)]; decide)).symm, rfl⟩)
        · exact absurd c21 (by decide)
      · obtain ⟨b_y, e_y⟩ := ix_of hi_y (by omega)
        refine m_top (show _ = (1 : Int32) from rfl) ?_
        subst e_y
        refine lv_if_eq (tgt := 28) hx hb dX8_isPlace_21 (by decide) (fun c21 => ?_) (fun c21 => ?_)
        · exact absurd c21 (by decide)
        · refine lv_iconst (v := 0) hx hb dX8_isPlace_24 (by decide) ?_
          refine lv_goto (tgt := 29) hx hb dX8_isPlace_25 (by decide) ?_
          refine w_calli (va_runV (As := [.int 0]) (rest := []) ⟨hx, hb, hml, hown, hts⟩ (k_X8_holds l D ac _ A adr sf af hM 0) (cwV 1 hts gX8_isPlace_X8_holds rfl rfl rfl (by decide +kernel) ⟨Nat.le_of_ble_eq_true rfl, Nat.le_of_ble_eq_true rfl⟩) (pV hK (ci := 8) rfl (hM.cel (by omega) (show (mw ac adr sf af) 0 = .inr (8, mfs adr sf) from rfl))) rfl rfl hl.1 rfl (lv_room (Nat.le_of_ble_eq_true rfl)) dX8_isPlace_29 ⟨Nat.le_of_ble_eq_true rfl, Nat.le_of_ble_eq_true rfl⟩) hS (fun rv_9 w_10 H locs hw_10 hM hS => ?_)
          obtain ⟨hrv_9, he_11⟩ := hw_10
          rw [he_11] at hM
          have hM := (MW.cg (s1 := (va_up sf 0 0)) (a1 := af) hM (fun j9 => if q0_ : j9 = 0 then (by subst q0_; rfl) else (by first | rfl | simp only [va_up, if_neg q0_])) (fun _ => rfl))
          subst hrv_9
          refine m_top (show _ = (1 : Int32) from rfl) ?_
          have hM := MW.cg (s1 := (va_up sf 0 (nI (cd1 ((ix (nI k_x) ns).elim true (fun i => (ix (nI k_y) (sn i)).isNone)))))) (a1 := af) hM (fun j9 => if q0_ : j9 = 0 then (by subst q0_; show nI (cd1 ((ix (nI k_x) ns).elim true (fun i => (ix (nI k_y) (sn i)).isNone))) = 0; exact (by rw [(by simp [cd1, cd2, cd3, hi_x, hi_y] : cd1 ((ix (nI k_x) ns).elim true (fun i => (ix (nI k_y) (sn i)).isNone)) = 0)]; rfl)) else (by first | rfl | simp only [va_up, if_neg q0_])) (fun _ => rfl)
          rw [hQ0]
          exact e_wz hx hb hlocks hr dX8_isPlace_32 (by decide) hM hS (⟨(if_pos (by simp [cd1, cd2, cd3, hi_x, hi_y] : cd1 ((ix (nI k_x) ns).elim true (fun i => (ix (nI k_y) (sn i)).isNone)) = 0)).symm, rfl⟩)
theorem ip_ex {x y : Int32} {ns : Nat} {sn : Nat → Nat} (hn : ns ≤ 40) (hs : ∀ i, i < ns → sn i ≤ 8) (h : cd1 ((ix x ns).elim true (fun i => (ix y (sn i)).isNone)) = 0) : ∃ i k, i < ns ∧ x = nI i ∧ k < sn i ∧ y = nI k := by
  have h1 := cd1_0 h
  rcases e : ix x ns with _ | i
  · rw [e] at h1; cases h1
  · rw [e] at h1
    obtain ⟨q1, q2⟩ := ix_of e (by omega)
    have h1 : (ix y (sn i)).isNone = false := h1
    obtain ⟨k, -, q3, q4⟩ := ix_ex h1 (by have := hs i q1; omega)
    exact ⟨i, k, q1, q2, q3, q4⟩
set_option maxHeartbeats 4000000 in
set_option maxRecDepth 100000 in
/-- X8_wordOf -/
theorem k_X8_wordOf (l : Launch) (D : va_G) (ac : Nat → ClassId) (H : Heap) (A : Nat → Prop) (adr : Nat → Nat) (sf : Nat → Int32) (af : Nat → Nat → Int32) (hM : MW D A 24 adr (mw ac adr sf af) H) (ns : Nat) (sc sn : Nat → Nat) (sw : Nat → Nat → Nat) (sb : Nat → Nat → Int32) (hs : MSen sf af ns sc sn sw sb) (x y : Int32) : WRi l yX8_wordOf wsX8_wordOf ({ frames := 3, cells := 0, slots := 0, locals := 65 }) [.ref (adr 0), .int x, .int y] D ac H A 24 adr (MPo ac adr sf af (cd1 ((ix x ns).elim true (fun i => (ix y (sn i)).isNone))) (fun r s1 a1 => ∃ i k, i < ns ∧ x = nI i ∧ k < sn i ∧ y = nI k ∧ r = nI (sw i k) ∧ Scr sf af s1 a1)) := by
  refine Met.ofW (cc := cX8_wordOf) (maxL := 3) (ret := (some .int)) (by decide) rfl ?_
  intro p e s m args below meth c s₁ B hml hv
  obtain ⟨hargs, hsz, hK⟩ := hv
  have hx := B.exec
  have hb := B.bytes
  have hr := B.returns
  have hts := atoms_spec (ws := wsX8_wordOf) B.pre
  have hown : s.vm.findClass RX8 = some m.cls := findClass_of_methodNamed B.named
  have hlocks := B.notSynchronized
  subst hsz
  have inX8_ : ∀ w ∈ wsX80, w ∈ wsX8_wordOf := by decide +kernel
  have hS : va_S A s.heap s.heap [] := va_S.rf
  have hl := lv_entry ([.ref (adr 0), .int x, .int y]) (n := 3) (Nat.le_of_ble_eq_true rfl)
  have hen := lg_entry_eq m [.ref (adr 0), .int x, .int y] 3
  rw [← hargs] at hen
  rw [hen]
  generalize (lg_sl ([.ref (adr 0), .int x, .int y]) ++ List.replicate (3 - (lg_sl ([.ref (adr 0), .int x, .int y])).length) Slot.unset).toArray = ls at hl ⊢
  have hl : lv_has ls 3 [(0, .ref (adr 0)), (1, .int x), (2, .int y)] := hl
  obtain ⟨Q0, hQ0⟩ : ∃ z, z = MQ below (va_Qi (MPo ac adr sf af (cd1 ((ix x ns).elim true (fun i => (ix y (sn i)).isNone))) (fun r s1 a1 => ∃ i k, i < ns ∧ x = nI i ∧ k < sn i ∧ y = nI k ∧ r = nI (sw i k) ∧ Scr sf af s1 a1)) (fun c t => MW D A 24 adr c t.heap) A) args s 0 0 A := ⟨_, rfl⟩
  rw [← hQ0]
  have h7 := hs.2.1
  refine lv_aload_n hx hb dX8_wordOf_0 rfl (lv_at hl 0 rfl) ?_
  refine lv_iload_n hx hb dX8_wordOf_1 rfl (lv_at hl 1 rfl) ?_
  refine lv_iload_n hx hb dX8_wordOf_2 rfl (lv_at hl 2 rfl) ?_
  refine w_calli (va_runV (As := [.int x, .int y]) (rest := []) ⟨hx, hb, hml, hown, hts⟩ (k_X8_isPlace l D ac _ A adr sf af hM ns sc sn sw sb (hs.t rfl rfl rfl rfl rfl) x y) (cwV 2 hts gX8_wordOf_X8_isPlace rfl rfl rfl (by decide +kernel) ⟨Nat.le_of_ble_eq_true rfl, Nat.le_of_ble_eq_true rfl⟩) (pV hK (ci := 8) rfl (hM.cel (by omega) (show (mw ac adr sf af) 0 = .inr (8, mfs adr sf) from rfl))) rfl rfl hl.1 rfl (lv_room (Nat.le_of_ble_eq_true rfl)) dX8_wordOf_3 ⟨Nat.le_of_ble_eq_true rfl, Nat.le_of_ble_eq_true rfl⟩) hS (fun rv_1 w_2 H locs hw_2 hM hS => ?_)
  obtain ⟨hrv_1, he_3⟩ := hw_2
  rw [he_3] at hM
  have hM := (MW.cg (s1 := (va_up sf 0 (nI (cd1 ((ix x ns).elim true (fun i => (ix y (sn i)).isNone)))))) (a1 := af) hM (fun j9 => if q0_ : j9 = 0 then (by subst q0_; rfl) else (by first | rfl | simp only [va_up, if_neg q0_])) (fun _ => rfl))
  subst hrv_1
  by_cases d6 : cd1 ((ix x ns).elim true (fun i => (ix y (sn i)).isNone)) = 0
  · refine m_top (show (if cd1 ((ix x ns).elim true (fun i => (ix y (sn i)).isNone)) = 0 then 1 else 0) = (1 : Int32) from if_pos d6) ?_
    obtain ⟨i, k, hi, ex_, hk, ey_⟩ := ip_ex hs.2.1 (fun i hi => (hs.2.2 i hi).2.2.1.2.1) d6
    obtain ⟨q1_, q2_, ⟨q3_, q4_, q5_⟩, q6_⟩ := hs.2.2 i hi
    obtain ⟨u1_, u2_, u3_⟩ := q6_ k hk
    subst ex_
    subst ey_
    refine lv_if_eq (tgt := 23) hx hb dX8_wordOf_6 (by decide) (fun c6 => ?_) (fun c6 => ?_)
    · exact absurd c6 (by decide)
    · refine lv_aload_n hx hb dX8_wordOf_9 rfl (lv_at hl 0 rfl) ?_
      refine m_get (ci := 8) (C := RX8) (T := TX8) (n := 35) (v := .ref (adr 4)) hx hb hts inX8_ hown hK rfl (hM.cel (by omega) (show (mw ac adr (va_up sf 0 (nI (cd1 ((ix (nI i) ns).elim true (fun i => (ix (nI k) (sn i)).isNone))))) af) 0 = .inr (8, mfs adr (va_up sf 0 (nI (cd1 ((ix (nI i) ns).elim true (fun i => (ix (nI k) (sn i)).isNone)))))) from rfl)) 9 (by decide) (hts _ (by decide +kernel)) rfl dX8_wordOf_10 ?_
      refine lv_bipush (v := 8) hx hb dX8_wordOf_13 (by decide) ?_
      refine lv_iload_n hx hb dX8_wordOf_15 rfl (lv_at hl 1 rfl) ?_
      refine lv_imul hx hb dX8_wordOf_16 ?_
      refine m_top (show (8 * (nI i)) = nI (8 * i) from by rw [show (8 : Int32) = nI 8 from rfl, pk_mul]) ?_
      refine lv_iload_n hx hb dX8_wordOf_17 rfl (lv_at hl 2 rfl) ?_
      refine lv_iadd hx hb dX8_wordOf_18 ?_
      refine m_top (show ((nI (8 * i)) + (nI k)) = nI (8 * i + k) from nI_add _ _) ?_
      refine m_iald hx hb hK (hM.cel (by omega) (show (mw ac adr (va_up sf 0 (nI (cd1 ((ix (nI i) ns).elim true (fun i => (ix (nI k) (sn i)).isNone))))) af) 4 = .inl (ac 0, 320, .inl (af 4)) from rfl)) (vp_in_nI (by omega) (by decide)) dX8_wordOf_19 ?_
      refine m_top (show ((af 4) (nI (8 * i + k)).toNatClampNeg) = nI (sw i k) from by rw [nI_clamp (by omega)]; exact u1_) ?_
      refine lv_goto (tgt := 24) hx hb dX8_wordOf_20 (by decide) ?_
      rw [hQ0]
      exact e_wi hx hb hlocks hr dX8_wordOf_24 hM hS (MPo.ok d6 (by show nI _ = 0; rw [d6]; rfl) ⟨i, k, hi, rfl, hk, rfl, rfl, ⟨fun k9 u1_ u2_ => by first | rfl | simp only [va_up, if_neg u1_, if_neg u2_], fun k9 u1_ u2_ => by first | rfl | simp only [va_up, if_neg u1_, if_neg u2_]⟩⟩)
  · refine m_top (show (if cd1 ((ix x ns).elim true (fun i => (ix y (sn i)).isNone)) = 0 then 1 else 0) = (0 : Int32) from if_neg d6) ?_
    refine lv_if_eq (tgt := 23) hx hb dX8_wordOf_6 (by decide) (fun c6 => ?_) (fun c6 => ?_)
    · refine lv_iconst (v := 0) hx hb dX8_wordOf_23 (by decide) ?_
      rw [hQ0]
      exact e_wi hx hb hlocks hr dX8_wordOf_24 hM hS (MPo.no rfl d6 rfl ⟨fun k9 u1_ u2_ => by first | rfl | simp only [va_up, if_neg u1_, if_neg u2_], fun k9 u1_ u2_ => by first | rfl | simp only [va_up, if_neg u1_, if_neg u2_]⟩)
    · exact absurd c6 (by decide)
set_option maxHeartbeats 4000000 in
set_option maxRecDepth 100000 in
/-- X8_becameOf -/
theorem k_X8_becameOf (l : Launch) (D : va_G) (ac : Nat → ClassId) (H : Heap) (A : Nat → Prop) (adr : Nat → Nat) (sf : Nat → Int32) (af : Nat → Nat → Int32) (hM : MW D A 24 adr (mw ac adr sf af) H) (ns : Nat) (sc sn : Nat → Nat) (sw : Nat → Nat → Nat) (sb : Nat → Nat → Int32) (hs : MSen sf af ns sc sn sw sb) (x y : Int32) : WRi l yX8_becameOf wsX8_becameOf ({ frames := 3, cells := 0, slots := 0, locals := 65 }) [.ref (adr 0), .int x, .int y] D ac H A 24 adr (MPo ac adr sf af (cd1 ((ix x ns).elim true (fun i => (ix y (sn i)).isNone))) (fun r s1 a1 => ∃ i k, i < ns ∧ x = nI i ∧ k < sn i ∧ y = nI k ∧ r = sb i k ∧ Scr sf af s1 a1)) := by
  refine Met.ofW (cc := cX8_becameOf) (maxL := 3) (ret := (some .int)) (by decide) rfl ?_
  intro p e s m args below meth c s₁ B hml hv
  obtain ⟨hargs, hsz, hK⟩ := hv
  have hx := B.exec
  have hb := B.bytes
  have hr := B.returns
  have hts := atoms_spec (ws := wsX8_becameOf) B.pre
  have hown : s.vm.findClass RX8 = some m.cls := findClass_of_methodNamed B.named
  have hlocks := B.notSynchronized
  subst hsz
  have inX8_ : ∀ w ∈ wsX80, w ∈ wsX8_becameOf := by decide +kernel
  have hS : va_S A s.heap s.heap [] := va_S.rf
  have hl := lv_entry ([.ref (adr 0), .int x, .int y]) (n := 3) (Nat.le_of_ble_eq_true rfl)
  have hen := lg_entry_eq m [.ref (adr 0), .int x, .int y] 3
  rw [← hargs] at hen
  rw [hen]
  generalize (lg_sl ([.ref (adr 0), .int x, .int y]) ++ List.replicate (3 - (lg_sl ([.ref (adr 0), .int x, .int y])).length) Slot.unset).toArray = ls at hl ⊢
  have hl : lv_has ls 3 [(0, .ref (adr 0)), (1, .int x), (2, .int y)] := hl
  obtain ⟨Q0, hQ0⟩ : ∃ z, z = MQ below (va_Qi (MPo ac adr sf af (cd1 ((ix x ns).elim true (fun i => (ix y (sn i)).isNone))) (fun r s1 a1 => ∃ i k, i < ns ∧ x = nI i ∧ k < sn i ∧ y = nI k ∧ r = sb i k ∧ Scr sf af s1 a1)) (fun c t => MW D A 24 adr c t.heap) A) args s 0 0 A := ⟨_, rfl⟩
  rw [← hQ0]
  have h7 := hs.2.1
  refine lv_aload_n hx hb dX8_becameOf_0 rfl (lv_at hl 0 rfl) ?_
  refine lv_iload_n hx hb dX8_becameOf_1 rfl (lv_at hl 1 rfl) ?_
  refine lv_iload_n hx hb dX8_becameOf_2 rfl (lv_at hl 2 rfl) ?_
  refine w_calli (va_runV (As := [.int x, .int y]) (rest := []) ⟨hx, hb, hml, hown, hts⟩ (k_X8_isPlace l D ac _ A adr sf af hM ns sc sn sw sb (hs.t rfl rfl rfl rfl rfl) x y) (cwV 2 hts gX8_becameOf_X8_isPlace rfl rfl rfl (by decide +kernel) ⟨Nat.le_of_ble_eq_true rfl, Nat.le_of_ble_eq_true rfl⟩) (pV hK (ci := 8) rfl (hM.cel (by omega) (show (mw ac adr sf af) 0 = .inr (8, mfs adr sf) from rfl))) rfl rfl hl.1 rfl (lv_room (Nat.le_of_ble_eq_true rfl)) dX8_becameOf_3 ⟨Nat.le_of_ble_eq_true rfl, Nat.le_of_ble_eq_true rfl⟩) hS (fun rv_1 w_2 H locs hw_2 hM hS => ?_)
  obtain ⟨hrv_1, he_3⟩ := hw_2
  rw [he_3] at hM
  have hM := (MW.cg (s1 := (va_up sf 0 (nI (cd1 ((ix x ns).elim true (fun i => (ix y (sn i)).isNone)))))) (a1 := af) hM (fun j9 => if q0_ : j9 = 0 then (by subst q0_; rfl) else (by first | rfl | simp only [va_up, if_neg q0_])) (fun _ => rfl))
  subst hrv_1
  by_cases d6 : cd1 ((ix x ns).elim true (fun i => (ix y (sn i)).isNone)) = 0
  · refine m_top (show (if cd1 ((ix x ns).elim true (fun i => (ix y (sn i)).isNone)) = 0 then 1 else 0) = (1 : Int32) from if_pos d6) ?_
    obtain ⟨i, k, hi, ex_, hk, ey_⟩ := ip_ex hs.2.1 (fun i hi => (hs.2.2 i hi).2.2.1.2.1) d6
    obtain ⟨q1_, q2_, ⟨q3_, q4_, q5_⟩, q6_⟩ := hs.2.2 i hi
    obtain ⟨u1_, u2_, u3_⟩ := q6_ k hk
    subst ex_
    subst ey_
    refine lv_if_eq (tgt := 23) hx hb dX8_becameOf_6 (by decide) (fun c6 => ?_) (fun c6 => ?_)
    · exact absurd c6 (by decide)
    · refine lv_aload_n hx hb dX8_becameOf_9 rfl (lv_at hl 0 rfl) ?_
      refine m_get (ci := 8) (C := RX8) (T := TX8) (n := 35) (v := .ref (adr 5)) hx hb hts inX8_ hown hK rfl (hM.cel (by omega) (show (mw ac adr (va_up sf 0 (nI (cd1 ((ix (nI i) ns).elim true (fun i => (ix (nI k) (sn i)).isNone))))) af) 0 = .inr (8, mfs adr (va_up sf 0 (nI (cd1 ((ix (nI i) ns).elim true (fun i => (ix (nI k) (sn i)).isNone)))))) from rfl)) 10 (by decide) (hts _ (by decide +kernel)) rfl dX8_becameOf_10 ?_
      refine lv_bipush (v := 8) hx hb dX8_becameOf_13 (by decide) ?_
      refine lv_iload_n hx hb dX8_becameOf_15 rfl (lv_at hl 1 rfl) ?_
      refine lv_imul hx hb dX8_becameOf_16 ?_
      refine m_top (show (8 * (nI i)) = nI (8 * i) from by rw [show (8 : Int32) = nI 8 from rfl, pk_mul]) ?_
      refine lv_iload_n hx hb dX8_becameOf_17 rfl (lv_at hl 2 rfl) ?_
      refine lv_iadd hx hb dX8_becameOf_18 ?_
      refine m_top (show ((nI (8 * i)) + (nI k)) = nI (8 * i + k) from nI_add _ _) ?_
      refine m_iald hx hb hK (hM.cel (by omega) (show (mw ac adr (va_up sf 0 (nI (cd1 ((ix (nI i) ns).elim true (fun i => (ix (nI k) (sn i)).isNone))))) af) 5 = .inl (ac 0, 320, .inl (af 5)) from rfl)) (vp_in_nI (by omega) (by decide)) dX8_becameOf_19 ?_
      refine m_top (show ((af 5) (nI (8 * i + k)).toNatClampNeg) = sb i k from by rw [nI_clamp (by omega)]; exact u3_) ?_
      refine lv_goto (tgt := 24) hx hb dX8_becameOf_20 (by decide) ?_
      rw [hQ0]
      exact e_wi hx hb hlocks hr dX8_becameOf_24 hM hS (MPo.ok d6 (by show nI _ = 0; rw [d6]; rfl) ⟨i, k, hi, rfl, hk, rfl, rfl, ⟨fun k9 u1_ u2_ => by first | rfl | simp only [va_up, if_neg u1_, if_neg u2_], fun k9 u1_ u2_ => by first | rfl | simp only [va_up, if_neg u1_, if_neg u2_]⟩⟩)
  · refine m_top (show (if cd1 ((ix x ns).elim true (fun i => (ix y (sn i)).isNone)) = 0 then 1 else 0) = (0 : Int32) from if_neg d6) ?_
    refine lv_if_eq (tgt := 23) hx hb dX8_becameOf_6 (by decide) (fun c6 => ?_) (fun c6 => ?_)
    · refine lv_iconst (v := 0) hx hb dX8_becameOf_23 (by decide) ?_
      rw [hQ0]
      exact e_wi hx hb hlocks hr dX8_becameOf_24 hM hS (MPo.no rfl d6 rfl ⟨fun k9 u1_ u2_ => by first | rfl | simp only [va_up, if_neg u1_, if_neg u2_], fun k9 u1_ u2_ => by first | rfl | simp only [va_up, if_neg u1_, if_neg u2_]⟩)
    · exact absurd c6 (by decide)
set_option maxHeartbeats 4000000 in
set_option maxRecDepth 100000 in
/-- X8_paid -/
theorem k_X8_paid (l : Launch) (D : va_G) (ac : Nat → ClassId) (H : Heap) (A : Nat → Prop) (adr : Nat → Nat) (sf : Nat → Int32) (af : Nat → Nat → Int32) (hM : MW D A 24 adr (mw ac adr sf af) H) (x : Int32) : WRi l yX8_paid wsX8_paid ({ frames := 1, cells := 0, slots := 0, locals := 21 }) [.ref (adr 0), .int x] D ac H A 24 adr (MPo ac adr sf af (cd1 (ix x 4).isNone) (fun r s1 a1 => ∃ k, k < 4 ∧ x = nI k ∧ r = af 20 k ∧ Scr sf af s1 a1)) := by
  refine Met.ofW (cc := cX8_paid) (maxL := 2) (ret := (some .int)) (by decide) rfl ?_
  intro p e s m args below meth c s₁ B hml hv
  obtain ⟨hargs, hsz, hK⟩ := hv
  have hx := B.exec
  have hb := B.bytes
  have hr := B.returns
  have hts := atoms_spec (ws := wsX8_paid) B.pre
  have hown : s.vm.findClass RX8 = some m.cls := findClass_of_methodNamed B.named
  have hlocks := B.notSynchronized
  subst hsz
  have inX8_ : ∀ w ∈ wsX80, w ∈ wsX8_paid := by decide +kernel
  have hS : va_S A s.heap s.heap [] := va_S.rf
  have hl := lv_entry ([.ref (adr 0), .int x]) (n := 2) (Nat.le_of_ble_eq_true rfl)
  have hen := lg_entry_eq m [.ref (adr 0), .int x] 2
  rw [← hargs] at hen
  rw [hen]
  generalize (lg_sl ([.ref (adr 0), .int x]) ++ List.replicate (2 - (lg_sl ([.ref (adr 0), .int x])).length) Slot.unset).toArray = ls at hl ⊢
  have hl : lv_has ls 2 [(0, .ref (adr 0)), (1, .int x)] := hl
  obtain ⟨Q0, hQ0⟩ : ∃ z, z = MQ below (va_Qi (MPo ac adr sf af (cd1 (ix x 4).isNone) (fun r s1 a1 => ∃ k, k < 4 ∧ x = nI k ∧ r = af 20 k ∧ Scr sf af s1 a1)) (fun c t => MW D A 24 adr c t.heap) A) args s 0 0 A := ⟨_, rfl⟩
  rw [← hQ0]
  refine lv_aload_n hx hb dX8_paid_0 rfl (lv_at hl 0 rfl) ?_
  refine lv_iload_n hx hb dX8_paid_1 rfl (lv_at hl 1 rfl) ?_
  refine lv_iconst (v := 4) hx hb dX8_paid_2 (by decide) ?_
  refine m_top (show (4 : Int32) = nI 4 from rfl) ?_
  refine r_calli (va_runS (As := [.int x, .int (nI 4)]) (rest := [.ref (adr 0)]) ⟨hx, hb, hml, hown, hts⟩ (k_X8_isIn l D ac _ x 4 (by omega)) (va_cwS 2 hts gX8_paid_X8_isIn rfl rfl rfl (by decide +kernel) ⟨Nat.le_of_ble_eq_true rfl, Nat.le_of_ble_eq_true rfl⟩) (pS hK) rfl rfl hl.1 rfl (lv_room (Nat.le_of_ble_eq_true rfl)) dX8_paid_3 ⟨Nat.le_of_ble_eq_true rfl, Nat.le_of_ble_eq_true rfl⟩) hS (fun rv_1 locs hrv_1 hS => ?_)
  subst hrv_1
  rcases hi_x : ix x 4 with _ | k_x
  · refine m_top (show _ = (0 : Int32) from rfl) ?_
    refine lv_if_eq (tgt := 13) hx hb dX8_paid_6 (by decide) (fun c6 => ?_) (fun c6 => ?_)
    · refine lv_iconst (v := 1) hx hb dX8_paid_13 (by decide) ?_
      refine w_calli (va_runV (As := [.int 1]) (rest := []) ⟨hx, hb, hml, hown, hts⟩ (k_X8_holds l D ac _ A adr sf af hM 1) (cwV 1 hts gX8_paid_X8_holds rfl rfl rfl (by decide +kernel) ⟨Nat.le_of_ble_eq_true rfl, Nat.le_of_ble_eq_true rfl⟩) (pV hK (ci := 8) rfl (hM.cel (by omega) (show (mw ac adr sf af) 0 = .inr (8, mfs adr sf) from rfl))) rfl rfl hl.1 rfl (lv_room (Nat.le_of_ble_eq_true rfl)) dX8_paid_14 ⟨Nat.le_of_ble_eq_true rfl, Nat.le_of_ble_eq_true rfl⟩) hS (fun rv_2 w_3 H locs hw_3 hM hS => ?_)
      obtain ⟨hrv_2, he_4⟩ := hw_3
      rw [he_4] at hM
      have hM := (MW.cg (s1 := (va_up sf 0 1)) (a1 := af) hM (fun j9 => if q0_ : j9 = 0 then (by subst q0_; rfl) else (by first | rfl | simp only [va_up, if_neg q0_])) (fun _ => rfl))
      subst hrv_2
      refine m_top (show _ = (0 : Int32) from rfl) ?_
      refine lv_if_eq (tgt := 29) hx hb dX8_paid_17 (by decide) (fun c17 => ?_) (fun c17 => ?_)
      · refine lv_iconst (v := 0) hx hb dX8_paid_29 (by decide) ?_
        rw [hQ0]
        exact e_wi hx hb hlocks hr dX8_paid_30 hM hS (MPo.no (c := 1) (by simp [cd1, cd2, cd3, hi_x] : cd1 (ix x 4).isNone = 1) (by decide) rfl ⟨fun k9 u1_ u2_ => by first | rfl | simp only [va_up, if_neg u1_, if_neg u2_], fun k9 u1_ u2_ => by first | rfl | simp only [va_up, if_neg u1_, if_neg u2_]⟩)
      · exact absurd c17 (by decide)
    · exact absurd c6 (by decide)
  · obtain ⟨b_x, e_x⟩ := ix_of hi_x (by omega)
    refine m_top (show _ = (1 : Int32) from rfl) ?_
    subst e_x
    refine lv_if_eq (tgt := 13) hx hb dX8_paid_6 (by decide) (fun c6 => ?_) (fun c6 => ?_)
    · exact absurd c6 (by decide)
    · refine lv_iconst (v := 0) hx hb dX8_paid_9 (by decide) ?_
      refine lv_goto (tgt := 14) hx hb dX8_paid_10 (by decide) ?_
      refine w_calli (va_runV (As := [.int 0]) (rest := []) ⟨hx, hb, hml, hown, hts⟩ (k_X8_holds l D ac _ A adr sf af hM 0) (cwV 1 hts gX8_paid_X8_holds rfl rfl rfl (by decide +kernel) ⟨Nat.le_of_ble_eq_true rfl, Nat.le_of_ble_eq_true rfl⟩) (pV hK (ci := 8) rfl (hM.cel (by omega) (show (mw ac adr sf af) 0 = .inr (8, mfs adr sf) from rfl))) rfl rfl hl.1 rfl (lv_room (Nat.le_of_ble_eq_true rfl)) dX8_paid_14 ⟨Nat.le_of_ble_eq_true rfl, Nat.le_of_ble_eq_true rfl⟩) hS (fun rv_5 w_6 H locs hw_6 hM hS => ?_)
      obtain ⟨hrv_5, he_7⟩ := hw_6
      rw [he_7] at hM
      have hM := (MW.cg (s1 := (va_up sf 0 0)) (a1 := af) hM (fun j9 => if q0_ : j9 = 0 then (by subst q0_; rfl) else (by first | rfl | simp only [va_up, if_neg q0_])) (fun _ => rfl))
      subst hrv_5
      refine m_top (show _ = (1 : Int32) from rfl) ?_
      refine lv_if_eq (tgt := 29) hx hb dX8_paid_17 (by decide) (fun c17 => ?_) (fun c17 => ?_)
      · exact absurd c17 (by decide)
      · refine lv_aload_n hx hb dX8_paid_20 rfl (lv_at hl 0 rfl) ?_
        refine m_get (ci := 8) (C := RX8) (T := TX8) (n := 35) (v := .ref (adr 20)) hx hb hts inX8_ hown hK rfl (hM.cel (by omega) (show (mw ac adr (va_up sf 0 0) af) 0 = .inr (8, mfs adr (va_up sf 0 0)) from rfl)) 30 (by decide) (hts _ (by decide +kernel)) rfl dX8_paid_21 ?_
        refine lv_iload_n hx hb dX8_paid_24 rfl (lv_at hl 1 rfl) ?_
        refine m_iald hx hb hK (hM.cel (by omega) (show (mw ac adr (va_up sf 0 0) af) 20 = .inl (ac 0, 4, .inl (af 20)) from rfl)) (vp_in_nI (by omega) (by decide)) dX8_paid_25 ?_
        refine m_top (show ((af 20) (nI k_x).toNatClampNeg) = af 20 k_x from by rw [nI_clamp (by omega)]) ?_
        refine lv_goto (tgt := 30) hx hb dX8_paid_26 (by decide) ?_
        rw [hQ0]
        exact e_wi hx hb hlocks hr dX8_paid_30 hM hS (MPo.ok (by simp [cd1, cd2, cd3, hi_x] : cd1 (ix (nI k_x) 4).isNone = 0) rfl ⟨k_x, b_x, rfl, rfl, ⟨fun k9 u1_ u2_ => by first | rfl | simp only [va_up, if_neg u1_, if_neg u2_], fun k9 u1_ u2_ => by first | rfl | simp only [va_up, if_neg u1_, if_neg u2_]⟩⟩)
set_option maxHeartbeats 4000000 in
set_option maxRecDepth 100000 in
/-- X8_earned -/
theorem k_X8_earned (l : Launch) (D : va_G) (ac : Nat → ClassId) (H : Heap) (A : Nat → Prop) (adr : Nat → Nat) (sf : Nat → Int32) (af : Nat → Nat → Int32) (hM : MW D A 24 adr (mw ac adr sf af) H) (x : Int32) : WRi l yX8_earned wsX8_earned ({ frames := 1, cells := 0, slots := 0, locals := 21 }) [.ref (adr 0), .int x] D ac H A 24 adr (MPo ac adr sf af (cd1 (ix x 4).isNone) (fun r s1 a1 => ∃ k, k < 4 ∧ x = nI k ∧ r = af 21 k ∧ Scr sf af s1 a1)) := by
  refine Met.ofW (cc := cX8_earned) (maxL := 2) (ret := (some .int)) (by decide) rfl ?_
  intro p e s m args below meth c s₁ B hml hv
  obtain ⟨hargs, hsz, hK⟩ := hv
  have hx := B.exec
  have hb := B.bytes
  have hr := B.returns
  have hts := atoms_spec (ws := wsX8_earned) B.pre
  have hown : s.vm.findClass RX8 = some m.cls := findClass_of_methodNamed B.named
  have hlocks := B.notSynchronized
  subst hsz
  have inX8_ : ∀ w ∈ wsX80, w ∈ wsX8_earned := by decide +kernel
  have hS : va_S A s.heap s.heap [] := va_S.rf
  have hl := lv_entry ([.ref (adr 0), .int x]) (n := 2) (Nat.le_of_ble_eq_true rfl)
  have hen := lg_entry_eq m [.ref (adr 0), .int x] 2
  rw [← hargs] at hen
  rw [hen]
  generalize (lg_sl ([.ref (adr 0), .int x]) ++ List.replicate (2 - (lg_sl ([.ref (adr 0), .int x])).length) Slot.unset).toArray = ls at hl ⊢
  have hl : lv_has ls 2 [(0, .ref (adr 0)), (1, .int x)] := hl
  obtain ⟨Q0, hQ0⟩ : ∃ z, z = MQ below (va_Qi (MPo ac adr sf af (cd1 (ix x 4).isNone) (fun r s1 a1 => ∃ k, k < 4 ∧ x = nI k ∧ r = af 21 k ∧ Scr sf af s1 a1)) (fun c t => MW D A 24 adr c t.heap) A) args s 0 0 A := ⟨_, rfl⟩
  rw [← hQ0]
  refine lv_aload_n hx hb dX8_earned_0 rfl (lv_at hl 0 rfl) ?_
  refine lv_iload_n hx hb dX8_earned_1 rfl (lv_at hl 1 rfl) ?_
  refine lv_iconst (v := 4) hx hb dX8_earned_2 (by decide) ?_
  refine m_top (show (4 : Int32) = nI 4 from rfl) ?_
  refine r_calli (va_runS (As := [.int x, .int (nI 4)]) (rest := [.ref (adr 0)]) ⟨hx, hb, hml, hown, hts⟩ (k_X8_isIn l D ac _ x 4 (by omega)) (va_cwS 2 hts gX8_earned_X8_isIn rfl rfl rfl (by decide +kernel) ⟨Nat.le_of_ble_eq_true rfl, Nat.le_of_ble_eq_true rfl⟩) (pS hK) rfl rfl hl.1 rfl (lv_room (Nat.le_of_ble_eq_true rfl)) dX8_earned_3 ⟨Nat.le_of_ble_eq_true rfl, Nat.le_of_ble_eq_true rfl⟩) hS (fun rv_1 locs hrv_1 hS => ?_)
  subst hrv_1
  rcases hi_x : ix x 4 with _ | k_x
  · refine m_top (show _ = (0 : Int32) from rfl) ?_
    refine lv_if_eq (tgt := 13) hx hb dX8_earned_6 (by decide) (fun c6 => ?_) (fun c6 => ?_)
    · refine lv_iconst (v := 1) hx hb dX8_earned_13 (by decide) ?_
      refine w_calli (va_runV (As := [.int 1]) (rest := []) ⟨hx, hb, hml, hown, hts⟩ (k_X8_holds l D ac _ A adr sf af hM 1) (cwV 1 hts gX8_earned_X8_holds rfl rfl rfl (by decide +kernel) ⟨Nat.le_of_ble_eq_true rfl, Nat.le_of_ble_eq_true rfl⟩) (pV hK (ci := 8) rfl (hM.cel (by omega) (show (mw ac adr sf af) 0 = .inr (8, mfs adr sf) from rfl))) rfl rfl hl.1 rfl (lv_room (Nat.le_of_ble_eq_true rfl)) dX8_earned_14 ⟨Nat.le_of_ble_eq_true rfl, Nat.le_of_ble_eq_true rfl⟩) hS (fun rv_2 w_3 H locs hw_3 hM hS => ?_)
      obtain ⟨hrv_2, he_4⟩ := hw_3
      rw [he_4] at hM
      have hM := (MW.cg (s1 := (va_up sf 0 1)) (a1 := af) hM (fun j9 => if q0_ : j9 = 0 then (by subst q0_; rfl) else (by first | rfl | simp only [va_up, if_neg q0_])) (fun _ => rfl))
      subst hrv_2
      refine m_top (show _ = (0 : Int32) from rfl) ?_
      refine lv_if_eq (tgt := 29) hx hb dX8_earned_17 (by decide) (fun c17 => ?_) (fun c17 => ?_)
      · refine lv_iconst (v := 0) hx hb dX8_earned_29 (by decide) ?_
        rw [hQ0]
        exact e_wi hx hb hlocks hr dX8_earned_30 hM hS (MPo.no (c := 1) (by simp [cd1, cd2, cd3, hi_x] : cd1 (ix x 4).isNone = 1) (by decide) rfl ⟨fun k9 u1_ u2_ => by first | rfl | simp only [va_up, if_neg u1_, if_neg u2_], fun k9 u1_ u2_ => by first | rfl | simp only [va_up, if_neg u1_, if_neg u2_]⟩)
      · exact absurd c17 (by decide)
    · exact absurd c6 (by decide)
  · obtain ⟨b_x, e_x⟩ := ix_of hi_x (by omega)
    refine m_top (show _ = (1 : Int32) from rfl) ?_
    subst e_x
    refine lv_if_eq (tgt := 13) hx hb dX8_earned_6 (by decide) (fun c6 => ?_) (fun c6 => ?_)
    · exact absurd c6 (by decide)
    · refine lv_iconst (v := 0) hx hb dX8_earned_9 (by decide) ?_
      refine lv_goto (tgt := 14) hx hb dX8_earned_10 (by decide) ?_
      refine w_calli (va_runV (As := [.int 0]) (rest := []) ⟨hx, hb, hml, hown, hts⟩ (k_X8_holds l D ac _ A adr sf af hM 0) (cwV 1 hts gX8_earned_X8_holds rfl rfl rfl (by decide +kernel) ⟨Nat.le_of_ble_eq_true rfl, Nat.le_of_ble_eq_true rfl⟩) (pV hK (ci := 8) rfl (hM.cel (by omega) (show (mw ac adr sf af) 0 = .inr (8, mfs adr sf) from rfl))) rfl rfl hl.1 rfl (lv_room (Nat.le_of_ble_eq_true rfl)) dX8_earned_14 ⟨Nat.le_of_ble_eq_true rfl, Nat.le_of_ble_eq_true rfl⟩) hS (fun rv_5 w_6 H locs hw_6 hM hS => ?_)
      obtain ⟨hrv_5, he_7⟩ := hw_6
      rw [he_7] at hM
      have hM := (MW.cg (s1 := (va_up sf 0 0)) (a1 := af) hM (fun j9 => if q0_ : j9 = 0 then (by subst q0_; rfl) else (by first | rfl | simp only [va_up, if_neg q0_])) (fun _ => rfl))
      subst hrv_5
      refine m_top (show _ = (1 : Int32) from rfl) ?_
      refine lv_if_eq (tgt := 29) hx hb dX8_earned_17 (by decide) (fun c17 => ?_) (fun c17 => ?_)
      · exact absurd c17 (by decide)
      · refine lv_aload_n hx hb dX8_earned_20 rfl (lv_at hl 0 rfl) ?_
        refine m_get (ci := 8) (C := RX8) (T := TX8) (n := 35) (v := .ref (adr 21)) hx hb hts inX8_ hown hK rfl (hM.cel (by omega) (show (mw ac adr (va_up sf 0 0) af) 0 = .inr (8, mfs adr (va_up sf 0 0)) from rfl)) 31 (by decide) (hts _ (by decide +kernel)) rfl dX8_earned_21 ?_
        refine lv_iload_n hx hb dX8_earned_24 rfl (lv_at hl 1 rfl) ?_
        refine m_iald hx hb hK (hM.cel (by omega) (show (mw ac adr (va_up sf 0 0) af) 21 = .inl (ac 0, 4, .inl (af 21)) from rfl)) (vp_in_nI (by omega) (by decide)) dX8_earned_25 ?_
        refine m_top (show ((af 21) (nI k_x).toNatClampNeg) = af 21 k_x from by rw [nI_clamp (by omega)]) ?_
        refine lv_goto (tgt := 30) hx hb dX8_earned_26 (by decide) ?_
        rw [hQ0]
        exact e_wi hx hb hlocks hr dX8_earned_30 hM hS (MPo.ok (by simp [cd1, cd2, cd3, hi_x] : cd1 (ix (nI k_x) 4).isNone = 0) rfl ⟨k_x, b_x, rfl, rfl, ⟨fun k9 u1_ u2_ => by first | rfl | simp only [va_up, if_neg u1_, if_neg u2_], fun k9 u1_ u2_ => by first | rfl | simp only [va_up, if_neg u1_, if_neg u2_]⟩⟩)
def puF (p e : Nat → Int32) : Nat → Int32
  | 0 => 0
  | n + 1 => puF p e n + (p n - e n)
set_option maxHeartbeats 4000000 in
set_option maxRecDepth 100000 in
/-- X8_purse -/
theorem k_X8_purse (l : Launch) (D : va_G) (ac : Nat → ClassId) (H : Heap) (A : Nat → Prop) (adr : Nat → Nat) (sf : Nat → Int32) (af : Nat → Nat → Int32) (hM : MW D A 24 adr (mw ac adr sf af) H)  : WRi l yX8_purse wsX8_purse ({ frames := 0, cells := 0, slots := 0, locals := 0 }) [.ref (adr 0)] D ac H A 24 adr (fun r w1 => r = puF (af 20) (af 21) 4 ∧ w1 = mw ac adr (va_up sf 0 0) af) := by
  refine Met.ofW (cc := cX8_purse) (maxL := 3) (ret := (some .int)) (by decide) rfl ?_
  intro p e s m args below meth c s₁ B hml hv
  obtain ⟨hargs, hsz, hK⟩ := hv
  have hx := B.exec
  have hb := B.bytes
  have hr := B.returns
  have hts := atoms_spec (ws := wsX8_purse) B.pre
  have hown : s.vm.findClass RX8 = some m.cls := findClass_of_methodNamed B.named
  have hlocks := B.notSynchronized
  subst hsz
  have inX8_ : ∀ w ∈ wsX80, w ∈ wsX8_purse := by decide +kernel
  have hS : va_S A s.heap s.heap [] := va_S.rf
  have hl := lv_entry ([.ref (adr 0)]) (n := 3) (Nat.le_of_ble_eq_true rfl)
  have hen := lg_entry_eq m [.ref (adr 0)] 3
  rw [← hargs] at hen
  rw [hen]
  generalize (lg_sl ([.ref (adr 0)]) ++ List.replicate (3 - (lg_sl ([.ref (adr 0)])).length) Slot.unset).toArray = ls at hl ⊢
  have hl : lv_has ls 3 [(0, .ref (adr 0))] := hl
  obtain ⟨Q0, hQ0⟩ : ∃ z, z = MQ below (va_Qi (fun r w1 => r = puF (af 20) (af 21) 4 ∧ w1 = mw ac adr (va_up sf 0 0) af) (fun c t => MW D A 24 adr c t.heap) A) args s 0 0 A := ⟨_, rfl⟩
  rw [← hQ0]
  refine lv_aload_n hx hb dX8_purse_0 rfl (lv_at hl 0 rfl) ?_
  refine lv_iconst (v := 0) hx hb dX8_purse_1 (by decide) ?_
  refine m_put (ci := 8) (C := RX8) (T := TX8) (n := 35) (v := .int 0) (ty := tyX8 0) hx hb hts inX8_ tyX8 tyX8_ok nmX8 hown hK hM hS rfl 0 (by omega) (show (mw ac adr sf af) 0 = .inr (8, mfs adr sf) from rfl) 0 (by decide) (hts _ (by decide +kernel)) rfl (by decide +kernel) rfl rfl (Nat.le_of_ble_eq_true rfl) dX8_purse_2 (fun H locs hM hS => ?_)
  have hM : MW D A 24 adr (va_up (mw ac adr sf af) 0 (.inr (8, mfs adr (va_up sf 0 0)))) H := hM
  have hM := MW.mobj (s1 := (va_up sf 0 0)) hM rfl
  refine lv_iconst (v := 0) hx hb dX8_purse_5 (by decide) ?_
  refine lv_istore_n (lv' := [(1, .int 0), (0, .ref (adr 0))]) hx hb dX8_purse_6 rfl hl (by decide) rfl (fun ls hl => ?_)
  refine lv_iconst (v := 0) hx hb dX8_purse_7 (by decide) ?_
  refine lv_istore_n (lv' := [(2, .int 0), (1, .int 0), (0, .ref (adr 0))]) hx hb dX8_purse_8 rfl hl (by decide) rfl (fun ls hl => ?_)
  have L9 : ∀ (k9 : Nat) (i : Nat) (hk : 4 - i < k9) (hi : i ≤ 4) (H : Heap) (locs : List Loc) (hM : MW D A 24 adr (mw ac adr (va_up sf 0 0) af) H) (hS : va_S A s.heap H locs) (ls : Array Slot) (hl : lv_has ls 3 [(0, .ref (adr 0)), (1, .int (puF (af 20) (af 21) i)), (2, .int (nI i))]), W p l e (headSpec wsX8_purse ({ frames := 0, cells := 0, slots := 0, locals := 0 })).room s m args below meth c H locs 0 0 Q0 (F0 m 9 ls []) := by
    intro k9
    induction k9 with
    | zero => intro i hk hi H locs hM hS ls hl; exact absurd hk (Nat.not_lt_zero _)
    | succ k9 ih9 =>
      intro i hk hi H locs hM hS ls hl
      refine lv_iload_n hx hb dX8_purse_9 rfl (lv_at hl 2 rfl) ?_
      refine lv_iconst (v := 4) hx hb dX8_purse_10 (by decide) ?_
      refine lv_icmp_ge (tgt := 36) hx hb dX8_purse_11 (by decide) (fun c11 => ?_) (fun c11 => ?_)
      · have e9 : i = 4 := by have := le_le (a := 4) c11 (by omega) (by omega); omega
        refine lv_iload_n hx hb dX8_purse_36 rfl (lv_at hl 1 rfl) ?_
        rw [hQ0]
        exact e_wi hx hb hlocks hr dX8_purse_37 hM hS (⟨by rw [e9], rfl⟩)
      · have hin : i < 4 := nle_lt (a := 4) c11 (by omega) (by omega)
        refine lv_iload_n hx hb dX8_purse_14 rfl (lv_at hl 1 rfl) ?_
        refine lv_aload_n hx hb dX8_purse_15 rfl (lv_at hl 0 rfl) ?_
        refine m_get (ci := 8) (C := RX8) (T := TX8) (n := 35) (v := .ref (adr 20)) hx hb hts inX8_ hown hK rfl (hM.cel (by omega) (show (mw ac adr (va_up sf 0 0) af) 0 = .inr (8, mfs adr (va_up sf 0 0)) from rfl)) 30 (by decide) (hts _ (by decide +kernel)) rfl dX8_purse_16 ?_
        refine lv_iload_n hx hb dX8_purse_19 rfl (lv_at hl 2 rfl) ?_
        refine m_iald hx hb hK (hM.cel (by omega) (show (mw ac adr (va_up sf 0 0) af) 20 = .inl (ac 0, 4, .inl (af 20)) from rfl)) (vp_in_nI (by omega) (by decide)) dX8_purse_20 ?_
        refine m_top (show ((af 20) (nI i).toNatClampNeg) = af 20 i from by rw [nI_clamp (by omega)]) ?_
        refine lv_aload_n hx hb dX8_purse_21 rfl (lv_at hl 0 rfl) ?_
        refine m_get (ci := 8) (C := RX8) (T := TX8) (n := 35) (v := .ref (adr 21)) hx hb hts inX8_ hown hK rfl (hM.cel (by omega) (show (mw ac adr (va_up sf 0 0) af) 0 = .inr (8, mfs adr (va_up sf 0 0)) from rfl)) 31 (by decide) (hts _ (by decide +kernel)) rfl dX8_purse_22 ?_
        refine lv_iload_n hx hb dX8_purse_25 rfl (lv_at hl 2 rfl) ?_
        refine m_iald hx hb hK (hM.cel (by omega) (show (mw ac adr (va_up sf 0 0) af) 21 = .inl (ac 0, 4, .inl (af 21)) from rfl)) (vp_in_nI (by omega) (by decide)) dX8_purse_26 ?_
        refine m_top (show ((af 21) (nI i).toNatClampNeg) = af 21 i from by rw [nI_clamp (by omega)]) ?_
        refine lv_isub hx hb dX8_purse_27 ?_
        refine lv_iadd hx hb dX8_purse_28 ?_
        refine m_top (show ((puF (af 20) (af 21) i) + ((af 20 i) - (af 21 i))) = puF (af 20) (af 21) (i + 1) from rfl) ?_
        refine lv_istore_n (lv' := [(1, .int (puF (af 20) (af 21) (i + 1))), (0, .ref (adr 0)), (2, .int (nI i))]) hx hb dX8_purse_29 rfl hl (by decide) rfl (fun ls hl => ?_)
        refine lv_iinc (v := nI (i + 1)) (lv' := [(2, .int (nI (i + 1))), (1, .int (puF (af 20) (af 21) (i + 1))), (0, .ref (adr 0))]) hx hb dX8_purse_30 hl (k := 2) rfl (nI_1 _) (by decide) rfl (fun ls hl => ?_)
        refine lv_goto (tgt := 9) hx hb dX8_purse_33 (by decide) ?_
        exact ih9 (i + 1) (by omega) (by omega) _ _ hM hS ls (lv_sub hl [2, 1, 0] rfl)
  exact L9 _ 0 (Nat.lt_succ_self _) (Nat.zero_le _) _ _ hM hS ls (lv_sub hl [2, 1, 0] rfl)
