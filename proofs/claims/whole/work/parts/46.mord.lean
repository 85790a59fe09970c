/-- the orders, as the reference holds them -/
def MOrd (sf : Nat → Int32) (af : Nat → Nat → Int32) (no : Nat) (oc on_ : Nat → Nat) (owd : Nat → Nat → Nat) (rb st : Nat → Int32) : Prop := sf 6 = nI no ∧ no ≤ 60 ∧ ∀ o, o < no → af 7 o = nI (oc o) ∧ af 8 o = nI (on_ o) ∧ (0 < on_ o ∧ on_ o ≤ 8 ∧ oc o < 4) ∧ (af 10 o = rb o ∧ af 11 o = st o) ∧ ∀ j, j < on_ o → af 9 (8 * o + j) = nI (owd o j) ∧ owd o j < 50
theorem MOrd.t {sf s1 : Nat → Int32} {af a1 : Nat → Nat → Int32} {no : Nat} {oc on_ : Nat → Nat} {owd : Nat → Nat → Nat} {rb st : Nat → Int32} (h : MOrd sf af no oc on_ owd rb st) (h6 : s1 6 = sf 6) (h7 : a1 7 = af 7) (h8 : a1 8 = af 8) (h9 : a1 9 = af 9) (ha : a1 10 = af 10) (hb : a1 11 = af 11) : MOrd s1 a1 no oc on_ owd rb st := by
  unfold MOrd at h ⊢
  rw [h6, h7, h8, h9, ha, hb]
  exact h
/-- the last of the first i orders that x holds -/
def loF (s : Nat → Int32) (x : Int32) : Nat → Int32
  | 0 => -1
  | i + 1 => if s i = x then nI i else loF s x i
theorem loF_y {s : Nat → Int32} {x : Int32} {i : Nat} (h : s i = x) : loF s x (i + 1) = nI i := if_pos h
theorem loF_n {s : Nat → Int32} {x : Int32} {i : Nat} (h : ¬ s i = x) : loF s x (i + 1) = loF s x i := if_neg h
/-- who holds what -/
def MHan (af : Nat → Nat → Int32) (no : Nat) (hd : Nat → Option Nat) : Prop := ∀ t, t < 4 → loF (af 11) (nI t) no = (hd t).elim (-1) nI ∧ ∀ o, hd t = some o → o < no
theorem MHan.t {af a1 : Nat → Nat → Int32} {no : Nat} {hd : Nat → Option Nat} (h : MHan af no hd) (hb : a1 11 = af 11) : MHan a1 no hd := by
  unfold MHan at h ⊢
  rw [hb]
  exact h
/-- what taking has fixed of the orders that are in hand -/
def MTak (af : Nat → Nat → Int32) (hd : Nat → Option Nat) (on_ : Nat → Nat) (obf : Nat → Nat → Int32) (mt co py : Nat → Int32) : Prop := ∀ t o, t < 4 → hd t = some o → (af 13 o = mt o ∧ af 15 o = co o ∧ af 16 o = py o) ∧ ∀ j, j < on_ o → af 14 (8 * o + j) = obf o j
theorem MTak.t {af a1 : Nat → Nat → Int32} {hd : Nat → Option Nat} {on_ : Nat → Nat} {obf : Nat → Nat → Int32} {mt co py : Nat → Int32} (h : MTak af hd on_ obf mt co py) (h3 : a1 13 = af 13) (h4 : a1 14 = af 14) (h5 : a1 15 = af 15) (h6 : a1 16 = af 16) : MTak a1 hd on_ obf mt co py := by
  unfold MTak at h ⊢
  rw [h3, h4, h5, h6]
  exact h
theorem aw_ex {x : Int32} {hd : Nat → Option Nat} (h : cd2 (ix x 4).isNone ((ix x 4).bind hd).isNone = 0) : ∃ t o, t < 4 ∧ x = nI t ∧ hd t = some o ∧ (ix x 4).bind hd = some o := by
  obtain ⟨h1, h2⟩ := cd2_0 h
  obtain ⟨t, e, q1, q2⟩ := ix_ex h1 (by omega)
  rw [e] at h2
  have h2 : (hd t).isNone = false := h2
  rcases e2 : hd t with _ | o
  · rw [e2] at h2; cases h2
  · exact ⟨t, o, q1, q2, e2, by rw [e]; exact e2⟩
theorem upd_blk {f : Nat → Int32} {a k j : Nat} {z : Int32} {g : Nat → Int32} (h : f (a + j) = g j) : upd f (a + k) z (a + j) = upd g k z j := by
  unfold upd
  by_cases e : j = k
  · subst e
    rw [if_pos rfl, if_pos rfl]
  · rw [if_neg e, if_neg (by omega)]
    exact h
set_option maxHeartbeats 4000000 in
set_option maxRecDepth 100000 in
/-- X8_orderOf -/
theorem k_X8_orderOf (l : Launch) (D : va_G) (ac : Nat → ClassId) (H : Heap) (A : Nat → Prop) (adr : Nat → Nat) (sf : Nat → Int32) (af : Nat → Nat → Int32) (hM : MW D A 24 adr (mw ac adr sf af) H) (no : Nat) (hno : sf 6 = nI no) (h60 : no ≤ 60) (x : Int32) : ROi l yX8_orderOf wsX8_orderOf ({ frames := 0, cells := 0, slots := 0, locals := 0 }) [.ref (adr 0), .int x] D ac H (fun r => r = loF (af 11) x no) := by
  refine Met.ofW (cc := cX8_orderOf) (maxL := 4) (ret := (some .int)) (by decide) rfl ?_
  intro p e s m args below meth c s₁ B hml hv
  obtain ⟨hargs, hsz, hK⟩ := hv
  have hx := B.exec
  have hb := B.bytes
  have hr := B.returns
  have hts := atoms_spec (ws := wsX8_orderOf) B.pre
  have hown : s.vm.findClass RX8 = some m.cls := findClass_of_methodNamed B.named
  have hlocks := B.notSynchronized
  subst hsz
  have inX8_ : ∀ w ∈ wsX80, w ∈ wsX8_orderOf := by decide +kernel
  have hS : va_S (fun _ => False) s.heap s.heap [] := va_S.rf
  have hl := lv_entry ([.ref (adr 0), .int x]) (n := 4) (Nat.le_of_ble_eq_true rfl)
  have hen := lg_entry_eq m [.ref (adr 0), .int x] 4
  rw [← hargs] at hen
  rw [hen]
  generalize (lg_sl ([.ref (adr 0), .int x]) ++ List.replicate (4 - (lg_sl ([.ref (adr 0), .int x])).length) Slot.unset).toArray = ls at hl ⊢
  have hl : lv_has ls 4 [(0, .ref (adr 0)), (1, .int x)] := hl
  obtain ⟨Q0, hQ0⟩ : ∃ z0_, z0_ = MQ below (va_Qi (fun r (_ : Unit) => (fun r => r = loF (af 11) x no) r) (fun _ t => t.heap = s.heap) (fun _ => False)) args s 0 0 (fun _ => False) := ⟨_, rfl⟩
  rw [← hQ0]
  refine lv_iconst (v := (-1)) hx hb dX8_orderOf_0 (by decide) ?_
  refine lv_istore_n (lv' := [(2, .int (-1)), (0, .ref (adr 0)), (1, .int x)]) hx hb dX8_orderOf_1 rfl hl (by decide) rfl (fun ls hl => ?_)
  refine lv_iconst (v := 0) hx hb dX8_orderOf_2 (by decide) ?_
  refine lv_istore_n (lv' := [(3, .int 0), (2, .int (-1)), (0, .ref (adr 0)), (1, .int x)]) hx hb dX8_orderOf_3 rfl hl (by decide) rfl (fun ls hl => ?_)
  have L4 : ∀ (k9 : Nat) (i : Nat) (hk : no - i < k9) (hi : i ≤ no) (locs : List Loc) (hS : va_S (fun _ => False) s.heap s.heap locs) (ls : Array Slot) (hl : lv_has ls 4 [(0, .ref (adr 0)), (1, .int x), (2, .int (loF (af 11) x i)), (3, .int (nI i))]), W p l e (headSpec wsX8_orderOf ({ frames := 0, cells := 0, slots := 0, locals := 0 })).room s m args below meth c s.heap locs 0 0 Q0 (F0 m 4 ls []) := by
    intro k9
    induction k9 with
    | zero => intro i hk hi locs hS ls hl; exact absurd hk (Nat.not_lt_zero _)
    | succ k9 ih4 =>
      intro i hk hi locs hS ls hl
      refine lv_iload_n hx hb dX8_orderOf_4 rfl (lv_at hl 3 rfl) ?_
      refine lv_aload_n hx hb dX8_orderOf_5 rfl (lv_at hl 0 rfl) ?_
      refine m_get (ci := 8) (C := RX8) (T := TX8) (n := 35) (v := .int (sf 6)) hx hb hts inX8_ hown hK rfl (hM.cel (by omega) (show (mw ac adr sf af) 0 = .inr (8, mfs adr sf) from rfl)) 12 (by decide) (hts _ (by decide +kernel)) rfl dX8_orderOf_6 ?_
      refine m_top (show (sf 6) = nI no from hno) ?_
      refine lv_icmp_ge (tgt := 34) hx hb dX8_orderOf_9 (by decide) (fun c9 => ?_) (fun c9 => ?_)
      · have e9 : i = no := by have := le_le c9 (by omega) (by omega); omega
        refine lv_iload_n hx hb dX8_orderOf_34 rfl (lv_at hl 2 rfl) ?_
        rw [hQ0]
        exact e_i hx hb hlocks hr dX8_orderOf_35 hS (by rw [e9])
      · have hin : i < no := nle_lt c9 (by omega) (by omega)
        refine lv_aload_n hx hb dX8_orderOf_12 rfl (lv_at hl 0 rfl) ?_
        refine m_get (ci := 8) (C := RX8) (T := TX8) (n := 35) (v := .ref (adr 11)) hx hb hts inX8_ hown hK rfl (hM.cel (by omega) (show (mw ac adr sf af) 0 = .inr (8, mfs adr sf) from rfl)) 17 (by decide) (hts _ (by decide +kernel)) rfl dX8_orderOf_13 ?_
        refine lv_iload_n hx hb dX8_orderOf_16 rfl (lv_at hl 3 rfl) ?_
        refine m_iald hx hb hK (hM.cel (by omega) (show (mw ac adr sf af) 11 = .inl (ac 0, 60, .inl (af 11)) from rfl)) (vp_in_nI (by omega) (by decide)) dX8_orderOf_17 ?_
        refine m_top (show ((af 11) (nI i).toNatClampNeg) = af 11 i from by rw [nI_clamp (by omega)]) ?_
        refine lv_iload_n hx hb dX8_orderOf_18 rfl (lv_at hl 1 rfl) ?_
        refine lv_icmp_ne (tgt := 26) hx hb dX8_orderOf_19 (by decide) (fun c19 => ?_) (fun c19 => ?_)
        · refine lv_iload_n hx hb dX8_orderOf_26 rfl (lv_at hl 2 rfl) ?_
          refine m_top (show (loF (af 11) x i : Int32) = loF (af 11) x (i + 1) from by first | exact (loF_y c19).symm | exact (loF_n c19).symm) ?_
          refine lv_istore_n (lv' := [(2, .int (loF (af 11) x (i + 1))), (0, .ref (adr 0)), (1, .int x), (3, .int (nI i))]) hx hb dX8_orderOf_27 rfl hl (by decide) rfl (fun ls hl => ?_)
          refine lv_iinc (v := nI (i + 1)) (lv' := [(3, .int (nI (i + 1))), (2, .int (loF (af 11) x (i + 1))), (0, .ref (adr 0)), (1, .int x)]) hx hb dX8_orderOf_28 hl (k := 3) rfl (nI_1 _) (by decide) rfl (fun ls hl => ?_)
          refine lv_goto (tgt := 4) hx hb dX8_orderOf_31 (by decide) ?_
          exact ih4 (i + 1) (by omega) (by omega) _ hS ls (lv_sub hl [2, 3, 1, 0] rfl)
        · refine lv_iload_n hx hb dX8_orderOf_22 rfl (lv_at hl 3 rfl) ?_
          refine lv_goto (tgt := 27) hx hb dX8_orderOf_23 (by decide) ?_
          refine m_top (show (nI i : Int32) = loF (af 11) x (i + 1) from by first | exact (loF_y c19).symm | exact (loF_n c19).symm) ?_
          refine lv_istore_n (lv' := [(2, .int (loF (af 11) x (i + 1))), (0, .ref (adr 0)), (1, .int x), (3, .int (nI i))]) hx hb dX8_orderOf_27 rfl hl (by decide) rfl (fun ls hl => ?_)
          refine lv_iinc (v := nI (i + 1)) (lv' := [(3, .int (nI (i + 1))), (2, .int (loF (af 11) x (i + 1))), (0, .ref (adr 0)), (1, .int x)]) hx hb dX8_orderOf_28 hl (k := 3) rfl (nI_1 _) (by decide) rfl (fun ls hl => ?_)
          refine lv_goto (tgt := 4) hx hb dX8_orderOf_31 (by decide) ?_
          exact ih4 (i + 1) (by omega) (by omega) _ hS ls (lv_sub hl [2, 3, 1, 0] rfl)
  exact L4 _ 0 (Nat.lt_succ_self _) (Nat.zero_le _) _ hS ls (lv_sub hl [2, 3, 1, 0] rfl)
set_option maxHeartbeats 4000000 in
set_option maxRecDepth 100000 in
/-- X8_isAtWork -/
theorem k_X8_isAtWork (l : Launch) (D : va_G) (ac : Nat → ClassId) (H : Heap) (A : Nat → Prop) (adr : Nat → Nat) (sf : Nat → Int32) (af : Nat → Nat → Int32) (hM : MW D A 24 adr (mw ac adr sf af) H) (no : Nat) (oc on_ : Nat → Nat) (owd : Nat → Nat → Nat) (rb st : Nat → Int32) (ho : MOrd sf af no oc on_ owd rb st) (hd : Nat → Option Nat) (hh : MHan af no hd) (x : Int32) : WRi l yX8_isAtWork wsX8_isAtWork ({ frames := 1, cells := 0, slots := 0, locals := 23 }) [.ref (adr 0), .int x] D ac H A 24 adr (fun r w1 => r = (if cd2 (ix x 4).isNone ((ix x 4).bind hd).isNone = 0 then 1 else 0) ∧ w1 = mw ac adr (va_up sf 0 (nI (cd2 (ix x 4).isNone ((ix x 4).bind hd).isNone))) af) := by
  refine Met.ofW (cc := cX8_isAtWork) (maxL := 3) (ret := (some .boolean)) (by decide) rfl ?_
  intro p e s m args below meth c s₁ B hml hv
  obtain ⟨hargs, hsz, hK⟩ := hv
  have hx := B.exec
  have hb := B.bytes
  have hr := B.returns
  have hts := atoms_spec (ws := wsX8_isAtWork) B.pre
  have hown : s.vm.findClass RX8 = some m.cls := findClass_of_methodNamed B.named
  have hlocks := B.notSynchronized
  subst hsz
  have hS : va_S A s.heap s.heap [] := va_S.rf
  have hl := lv_entry ([.ref (adr 0), .int x]) (n := 3) (Nat.le_of_ble_eq_true rfl)
  have hen := lg_entry_eq m [.ref (adr 0), .int x] 3
  rw [← hargs] at hen
  rw [hen]
  generalize (lg_sl ([.ref (adr 0), .int x]) ++ List.replicate (3 - (lg_sl ([.ref (adr 0), .int x])).length) Slot.unset).toArray = ls at hl ⊢
  have hl : lv_has ls 3 [(0, .ref (adr 0)), (1, .int x)] := hl
  obtain ⟨Q0, hQ0⟩ : ∃ z0_, z0_ = MQ below (va_Qi (fun r w1 => r = (if cd2 (ix x 4).isNone ((ix x 4).bind hd).isNone = 0 then 1 else 0) ∧ w1 = mw ac adr (va_up sf 0 (nI (cd2 (ix x 4).isNone ((ix x 4).bind hd).isNone))) af) (fun c t => MW D A 24 adr c t.heap) A) args s 0 0 A := ⟨_, rfl⟩
  rw [← hQ0]
  have h60 := ho.2.1
  refine lv_iload_n hx hb dX8_isAtWork_0 rfl (lv_at hl 1 rfl) ?_
  refine lv_iconst (v := 4) hx hb dX8_isAtWork_1 (by decide) ?_
  refine m_top (show (4 : Int32) = nI 4 from rfl) ?_
  refine r_calli (va_runS (As := [.int x, .int (nI 4)]) (rest := []) ⟨hx, hb, hml, hown, hts⟩ (k_X8_isIn l D ac _ x 4 (by omega)) (va_cwS 2 hts gX8_isAtWork_X8_isIn rfl rfl rfl (by decide +kernel) ⟨Nat.le_of_ble_eq_true rfl, Nat.le_of_ble_eq_true rfl⟩) (pS hK) rfl rfl hl.1 rfl (lv_room (Nat.le_of_ble_eq_true rfl)) dX8_isAtWork_2 ⟨Nat.le_of_ble_eq_true rfl, Nat.le_of_ble_eq_true rfl⟩) hS (fun rv_1 locs hrv_1 hS => ?_)
  subst hrv_1
  rcases hi_x : ix x 4 with _ | k_x
  · refine m_top (show _ = (0 : Int32) from rfl) ?_
    refine lv_istore_n (lv' := [(2, .int 0), (0, .ref (adr 0)), (1, .int x)]) hx hb dX8_isAtWork_5 rfl hl (by decide) rfl (fun ls hl => ?_)
    refine lv_aload_n hx hb dX8_isAtWork_6 rfl (lv_at hl 1 rfl) ?_
    refine lv_iload_n hx hb dX8_isAtWork_7 rfl (lv_at hl 0 rfl) ?_
    refine lv_if_ne (tgt := 15) hx hb dX8_isAtWork_8 (by decide) (fun c8 => ?_) (fun c8 => ?_)
    · exact absurd c8 (by decide)
    · refine lv_iconst (v := 1) hx hb dX8_isAtWork_11 (by decide) ?_
      refine lv_goto (tgt := 29) hx hb dX8_isAtWork_12 (by decide) ?_
      refine w_calli (va_runV (As := [.int 1]) (rest := []) ⟨hx, hb, hml, hown, hts⟩ (k_X8_holds l D ac _ A adr sf af hM 1) (cwV 1 hts gX8_isAtWork_X8_holds rfl rfl rfl (by decide +kernel) ⟨Nat.le_of_ble_eq_true rfl, Nat.le_of_ble_eq_true rfl⟩) (pV hK (ci := 8) rfl (hM.cel (by omega) (show (mw ac adr sf af) 0 = .inr (8, mfs adr sf) from rfl))) rfl rfl hl.1 rfl (lv_room (Nat.le_of_ble_eq_true rfl)) dX8_isAtWork_29 ⟨Nat.le_of_ble_eq_true rfl, Nat.le_of_ble_eq_true rfl⟩) hS (fun rv_2 w_3 H locs hw_3 hM hS => ?_)
      obtain ⟨hrv_2, he_4⟩ := hw_3
      rw [he_4] at hM
      have hM := (MW.cg (s1 := (va_up sf 0 1)) (a1 := af) hM (fun j9 => if q0_ : j9 = 0 then (by subst q0_; rfl) else (by first | rfl | simp only [va_up, if_neg q0_])) (fun _ => rfl))
      subst hrv_2
      refine m_top (show _ = (0 : Int32) from rfl) ?_
      have hM := MW.cg (s1 := (va_up sf 0 (nI (cd2 (ix x 4).isNone ((ix x 4).bind hd).isNone)))) (a1 := af) hM (fun j9 => if q0_ : j9 = 0 then (by subst q0_; show nI (cd2 (ix x 4).isNone ((ix x 4).bind hd).isNone) = 1; exact (by rw [(by simp [cd1, cd2, cd3, hi_x] : cd2 (ix x 4).isNone ((ix x 4).bind hd).isNone = 1)]; rfl)) else (by first | rfl | simp only [va_up, if_neg q0_])) (fun _ => rfl)
      rw [hQ0]
      exact e_wz hx hb hlocks hr dX8_isAtWork_32 (by decide) hM hS (⟨(if_neg (by rw [(by simp [cd1, cd2, cd3, hi_x] : cd2 (ix x 4).isNone ((ix x 4).bind hd).isNone = 1)]; decide)).symm, rfl⟩)
  · obtain ⟨b_x, e_x⟩ := ix_of hi_x (by omega)
    refine m_top (show _ = (1 : Int32) from rfl) ?_
    subst e_x
    refine lv_istore_n (lv' := [(2, .int 1), (0, .ref (adr 0)), (1, .int (nI k_x))]) hx hb dX8_isAtWork_5 rfl hl (by decide) rfl (fun ls hl => ?_)
    refine lv_aload_n hx hb dX8_isAtWork_6 rfl (lv_at hl 1 rfl) ?_
    refine lv_iload_n hx hb dX8_isAtWork_7 rfl (lv_at hl 0 rfl) ?_
    refine lv_if_ne (tgt := 15) hx hb dX8_isAtWork_8 (by decide) (fun c8 => ?_) (fun c8 => ?_)
    · refine lv_aload_n hx hb dX8_isAtWork_15 rfl (lv_at hl 1 rfl) ?_
      refine lv_iload_n hx hb dX8_isAtWork_16 rfl (lv_at hl 2 rfl) ?_
      refine r_calli (va_runV (As := [.int (nI k_x)]) (rest := [.ref (adr 0)]) ⟨hx, hb, hml, hown, hts⟩ (k_X8_orderOf l D ac _ A adr sf af hM no ho.1 ho.2.1 (nI k_x)) (cwV 1 hts gX8_isAtWork_X8_orderOf rfl rfl rfl (by decide +kernel) ⟨Nat.le_of_ble_eq_true rfl, Nat.le_of_ble_eq_true rfl⟩) (pV hK (ci := 8) rfl (hM.cel (by omega) (show (mw ac adr sf af) 0 = .inr (8, mfs adr sf) from rfl))) rfl rfl hl.1 rfl (lv_room (Nat.le_of_ble_eq_true rfl)) dX8_isAtWork_17 ⟨Nat.le_of_ble_eq_true rfl, Nat.le_of_ble_eq_true rfl⟩) hS (fun rv_5 locs hrv_5 hS => ?_)
      subst hrv_5
      rcases eh : hd k_x with _ | o
      · refine m_top (show (loF (af 11) (nI k_x) no) = (-1 : Int32) from by rw [(hh k_x b_x).1, eh]; rfl) ?_
        refine lv_iconst (v := (-1)) hx hb dX8_isAtWork_20 (by decide) ?_
        refine lv_icmp_ne (tgt := 28) hx hb dX8_isAtWork_21 (by decide) (fun c21 => ?_) (fun c21 => ?_)
        · exact absurd c21 (by decide)
        · refine lv_iconst (v := 2) hx hb dX8_isAtWork_24 (by decide) ?_
          refine lv_goto (tgt := 29) hx hb dX8_isAtWork_25 (by decide) ?_
          refine w_calli (va_runV (As := [.int 2]) (rest := []) ⟨hx, hb, hml, hown, hts⟩ (k_X8_holds l D ac _ A adr sf af hM 2) (cwV 1 hts gX8_isAtWork_X8_holds rfl rfl rfl (by decide +kernel) ⟨Nat.le_of_ble_eq_true rfl, Nat.le_of_ble_eq_true rfl⟩) (pV hK (ci := 8) rfl (hM.cel (by omega) (show (mw ac adr sf af) 0 = .inr (8, mfs adr sf) from rfl))) rfl rfl hl.1 rfl (lv_room (Nat.le_of_ble_eq_true rfl)) dX8_isAtWork_29 ⟨Nat.le_of_ble_eq_true rfl, Nat.le_of_ble_eq_true rfl⟩) hS (fun rv_6 w_7 H locs hw_7 hM hS => ?_)
          obtain ⟨hrv_6, he_8⟩ := hw_7
          rw [he_8] at hM
          have hM := (MW.cg (s1 := (va_up sf 0 2)) (a1 := af) hM (fun j9 => if q0_ : j9 = 0 then (by subst q0_; rfl) else (by first | rfl | simp only [va_up, if_neg q0_])) (fun _ => rfl))
          subst hrv_6
          refine m_top (show _ = (0 : Int32) from rfl) ?_
          have hM := MW.cg (s1 := (va_up sf 0 (nI (cd2 (ix (nI k_x) 4).isNone ((ix (nI k_x) 4).bind hd).isNone)))) (a1 := af) hM (fun j9 => if q0_ : j9 = 0 then (by subst q0_; show nI (cd2 (ix (nI k_x) 4).isNone ((ix (nI k_x) 4).bind hd).isNone) = 2; exact (by rw [(by simp [cd1, cd2, cd3, hi_x, eh] : cd2 (ix (nI k_x) 4).isNone ((ix (nI k_x) 4).bind hd).isNone = 2)]; rfl)) else (by first | rfl | simp only [va_up, if_neg q0_])) (fun _ => rfl)
          rw [hQ0]
          exact e_wz hx hb hlocks hr dX8_isAtWork_32 (by decide) hM hS (⟨(if_neg (by rw [(by simp [cd1, cd2, cd3, hi_x, eh] : cd2 (ix (nI k_x) 4).isNone ((ix (nI k_x) 4).bind hd).isNone = 2)]; decide)).symm, rfl⟩)
      · have ho9 := (hh k_x b_x).2 o eh
        obtain ⟨o1_, o2_, ⟨o3_, o4_, o5_⟩, ⟨o6_, o7_⟩, o8_⟩ := ho.2.2 o ho9
        refine m_top (show (loF (af 11) (nI k_x) no) = nI o from by rw [(hh k_x b_x).1, eh]; rfl) ?_
        refine lv_iconst (v := (-1)) hx hb dX8_isAtWork_20 (by decide) ?_
        refine lv_icmp_ne (tgt := 28) hx hb dX8_isAtWork_21 (by decide) (fun c21 => ?_) (fun c21 => ?_)
        · refine lv_iconst (v := 0) hx hb dX8_isAtWork_28 (by decide) ?_
          refine w_calli (va_runV (As := [.int 0]) (rest := []) ⟨hx, hb, hml, hown, hts⟩ (k_X8_holds l D ac _ A adr sf af hM 0) (cwV 1 hts gX8_isAtWork_X8_holds rfl rfl rfl (by decide +kernel) ⟨Nat.le_of_ble_eq_true rfl, Nat.le_of_ble_eq_true rfl⟩) (pV hK (ci := 8) rfl (hM.cel (by omega) (show (mw ac adr sf af) 0 = .inr (8, mfs adr sf) from rfl))) rfl rfl hl.1 rfl (lv_room (Nat.le_of_ble_eq_true rfl)) dX8_isAtWork_29 ⟨Nat.le_of_ble_eq_true rfl, Nat.le_of_ble_eq_true rfl⟩) hS (fun rv_9 w_10 H locs hw_10 hM hS => ?_)
          obtain ⟨hrv_9, he_11⟩ := hw_10
          rw [he_11] at hM
          have hM := (MW.cg (s1 := (va_up sf 0 0)) (a1 := af) hM (fun j9 => if q0_ : j9 = 0 then (by subst q0_; rfl) else (by first | rfl | simp only [va_up, if_neg q0_])) (fun _ => rfl))
          subst hrv_9
          refine m_top (show _ = (1 : Int32) from rfl) ?_
          have hM := MW.cg (s1 := (va_up sf 0 (nI (cd2 (ix (nI k_x) 4).isNone ((ix (nI k_x) 4).bind hd).isNone)))) (a1 := af) hM (fun j9 => if q0_ : j9 = 0 then (by subst q0_; show nI (cd2 (ix (nI k_x) 4).isNone ((ix (nI k_x) 4).bind hd).isNone) = 0; exact (by rw [(by simp [cd1, cd2, cd3, hi_x, eh] : cd2 (ix (nI k_x) 4).isNone ((ix (nI k_x) 4).bind hd).isNone = 0)]; rfl)) else (by first | rfl | simp only [va_up, if_neg q0_])) (fun _ => rfl)
          rw [hQ0]
          exact e_wz hx hb hlocks hr dX8_isAtWork_32 (by decide) hM hS (⟨(if_pos (by simp [cd1, cd2, cd3, hi_x, eh] : cd2 (ix (nI k_x) 4).isNone ((ix (nI k_x) 4).bind hd).isNone = 0)).symm, rfl⟩)
        · exact absurd c21 (nI_m1 (by omega))
    · exact absurd c8 (by decide)
set_option maxHeartbeats 4000000 in
set_option maxRecDepth 100000 in
/-- X8_match -/
theorem k_X8_match (l : Launch) (D : va_G) (ac : Nat → ClassId) (H : Heap) (A : Nat → Prop) (adr : Nat → Nat) (sf : Nat → Int32) (af : Nat → Nat → Int32) (hM : MW D A 24 adr (mw ac adr sf af) H) (no : Nat) (oc on_ : Nat → Nat) (owd : Nat → Nat → Nat) (rb st : Nat → Int32) (ho : MOrd sf af no oc on_ owd rb st) (hd : Nat → Option Nat) (hh : MHan af no hd) (obf : Nat → Nat → Int32) (mt co py : Nat → Int32) (hk : MTak af hd on_ obf mt co py) (x : Int32) : WRi l yX8_match wsX8_match ({ frames := 2, cells := 0, slots := 0, locals := 45 }) [.ref (adr 0), .int x] D ac H A 24 adr (MPo ac adr sf af (cd2 (ix x 4).isNone ((ix x 4).bind hd).isNone) (fun r s1 a1 => ∃ o, (ix x 4).bind hd = some o ∧ r = mt o ∧ Scr sf af s1 a1)) := by
  refine Met.ofW (cc := cX8_match) (maxL := 2) (ret := (some .int)) (by decide) rfl ?_
  intro p e s m args below meth c s₁ B hml hv
  obtain ⟨hargs, hsz, hK⟩ := hv
  have hx := B.exec
  have hb := B.bytes
  have hr := B.returns
  have hts := atoms_spec (ws := wsX8_match) B.pre
  have hown : s.vm.findClass RX8 = some m.cls := findClass_of_methodNamed B.named
  have hlocks := B.notSynchronized
  subst hsz
  have inX8_ : ∀ w ∈ wsX80, w ∈ wsX8_match := by decide +kernel
  have hS : va_S A s.heap s.heap [] := va_S.rf
  have hl := lv_entry ([.ref (adr 0), .int x]) (n := 2) (Nat.le_of_ble_eq_true rfl)
  have hen := lg_entry_eq m [.ref (adr 0), .int x] 2
  rw [← hargs] at hen
  rw [hen]
  generalize (lg_sl ([.ref (adr 0), .int x]) ++ List.replicate (2 - (lg_sl ([.ref (adr 0), .int x])).length) Slot.unset).toArray = ls at hl ⊢
  have hl : lv_has ls 2 [(0, .ref (adr 0)), (1, .int x)] := hl
  obtain ⟨Q0, hQ0⟩ : ∃ z0_, z0_ = MQ below (va_Qi (MPo ac adr sf af (cd2 (ix x 4).isNone ((ix x 4).bind hd).isNone) (fun r s1 a1 => ∃ o, (ix x 4).bind hd = some o ∧ r = mt o ∧ Scr sf af s1 a1)) (fun c t => MW D A 24 adr c t.heap) A) args s 0 0 A := ⟨_, rfl⟩
  rw [← hQ0]
  have h60 := ho.2.1
  refine lv_aload_n hx hb dX8_match_0 rfl (lv_at hl 0 rfl) ?_
  refine lv_iload_n hx hb dX8_match_1 rfl (lv_at hl 1 rfl) ?_
  refine w_calli (va_runV (As := [.int x]) (rest := []) ⟨hx, hb, hml, hown, hts⟩ (k_X8_isAtWork l D ac _ A adr sf af hM no oc on_ owd rb st (ho.t rfl rfl rfl rfl rfl rfl) hd (hh.t rfl) x) (cwV 1 hts gX8_match_X8_isAtWork rfl rfl rfl (by decide +kernel) ⟨Nat.le_of_ble_eq_true rfl, Nat.le_of_ble_eq_true rfl⟩) (pV hK (ci := 8) rfl (hM.cel (by omega) (show (mw ac adr sf af) 0 = .inr (8, mfs adr sf) from rfl))) rfl rfl hl.1 rfl (lv_room (Nat.le_of_ble_eq_true rfl)) dX8_match_2 ⟨Nat.le_of_ble_eq_true rfl, Nat.le_of_ble_eq_true rfl⟩) hS (fun rv_1 w_2 H locs hw_2 hM hS => ?_)
  obtain ⟨hrv_1, he_3⟩ := hw_2
  rw [he_3] at hM
  have hM := (MW.cg (s1 := (va_up sf 0 (nI (cd2 (ix x 4).isNone ((ix x 4).bind hd).isNone)))) (a1 := af) hM (fun j9 => if q0_ : j9 = 0 then (by subst q0_; rfl) else (by first | rfl | simp only [va_up, if_neg q0_])) (fun _ => rfl))
  subst hrv_1
  by_cases d5 : cd2 (ix x 4).isNone ((ix x 4).bind hd).isNone = 0
  · refine m_top (show (if cd2 (ix x 4).isNone ((ix x 4).bind hd).isNone = 0 then 1 else 0) = (1 : Int32) from if_pos d5) ?_
    obtain ⟨t, o, ht, ex_, eh, eb_⟩ := aw_ex d5
    have ho9 := (hh t ht).2 o eh
    obtain ⟨o1_, o2_, ⟨o3_, o4_, o5_⟩, ⟨o6_, o7_⟩, o8_⟩ := ho.2.2 o ho9
    subst ex_
    refine lv_if_eq (tgt := 21) hx hb dX8_match_5 (by decide) (fun c5 => ?_) (fun c5 => ?_)
    · exact absurd c5 (by decide)
    · refine lv_aload_n hx hb dX8_match_8 rfl (lv_at hl 0 rfl) ?_
      refine m_get (ci := 8) (C := RX8) (T := TX8) (n := 35) (v := .ref (adr 13)) hx hb hts inX8_ hown hK rfl (hM.cel (by omega) (show (mw ac adr (va_up sf 0 (nI (cd2 (ix (nI t) 4).isNone ((ix (nI t) 4).bind hd).isNone))) af) 0 = .inr (8, mfs adr (va_up sf 0 (nI (cd2 (ix (nI t) 4).isNone ((ix (nI t) 4).bind hd).isNone)))) from rfl)) 21 (by decide) (hts _ (by decide +kernel)) rfl dX8_match_9 ?_
      refine lv_aload_n hx hb dX8_match_12 rfl (lv_at hl 0 rfl) ?_
      refine lv_iload_n hx hb dX8_match_13 rfl (lv_at hl 1 rfl) ?_
      refine r_calli (va_runV (As := [.int (nI t)]) (rest := [.ref (adr 13)]) ⟨hx, hb, hml, hown, hts⟩ (k_X8_orderOf l D ac _ A adr (va_up sf 0 (nI (cd2 (ix (nI t) 4).isNone ((ix (nI t) 4).bind hd).isNone))) af hM no ho.1 ho.2.1 (nI t)) (cwV 1 hts gX8_match_X8_orderOf rfl rfl rfl (by decide +kernel) ⟨Nat.le_of_ble_eq_true rfl, Nat.le_of_ble_eq_true rfl⟩) (pV hK (ci := 8) rfl (hM.cel (by omega) (show (mw ac adr (va_up sf 0 (nI (cd2 (ix (nI t) 4).isNone ((ix (nI t) 4).bind hd).isNone))) af) 0 = .inr (8, mfs adr (va_up sf 0 (nI (cd2 (ix (nI t) 4).isNone ((ix (nI t) 4).bind hd).isNone)))) from rfl))) rfl rfl hl.1 rfl (lv_room (Nat.le_of_ble_eq_true rfl)) dX8_match_14 ⟨Nat.le_of_ble_eq_true rfl, Nat.le_of_ble_eq_true rfl⟩) hS (fun rv_4 locs hrv_4 hS => ?_)
      subst hrv_4
      refine m_top (show (loF (af 11) (nI t) no) = nI o from by rw [(hh t ht).1, eh]; rfl) ?_
      refine m_iald hx hb hK (hM.cel (by omega) (show (mw ac adr (va_up sf 0 (nI (cd2 (ix (nI t) 4).isNone ((ix (nI t) 4).bind hd).isNone))) af) 13 = .inl (ac 0, 60, .inl (af 13)) from rfl)) (vp_in_nI (by omega) (by decide)) dX8_match_17 ?_
      refine m_top (show ((af 13) (nI o).toNatClampNeg) = mt o from by rw [nI_clamp (by omega)]; exact (hk t o ht eh).1.1) ?_
      refine lv_goto (tgt := 22) hx hb dX8_match_18 (by decide) ?_
      rw [hQ0]
      exact e_wi hx hb hlocks hr dX8_match_22 hM hS (MPo.ok d5 (by show nI _ = 0; rw [d5]; rfl) ⟨o, eb_, rfl, ⟨fun k9 u1_ u2_ => by first | rfl | simp only [va_up, if_neg u1_, if_neg u2_], fun k9 u1_ u2_ => by first | rfl | simp only [va_up, if_neg u1_, if_neg u2_]⟩⟩)
  · refine m_top (show (if cd2 (ix x 4).isNone ((ix x 4).bind hd).isNone = 0 then 1 else 0) = (0 : Int32) from if_neg d5) ?_
    refine lv_if_eq (tgt := 21) hx hb dX8_match_5 (by decide) (fun c5 => ?_) (fun c5 => ?_)
    · refine lv_iconst (v := 0) hx hb dX8_match_21 (by decide) ?_
      rw [hQ0]
      exact e_wi hx hb hlocks hr dX8_match_22 hM hS (MPo.no rfl d5 rfl ⟨fun k9 u1_ u2_ => by first | rfl | simp only [va_up, if_neg u1_, if_neg u2_], fun k9 u1_ u2_ => by first | rfl | simp only [va_up, if_neg u1_, if_neg u2_]⟩)
    · exact absurd c5 (by decide)
set_option maxHeartbeats 4000000 in
set_option maxRecDepth 100000 in
/-- X8_giveBack -/
theorem k_X8_giveBack (l : Launch) (D : va_G) (ac : Nat → ClassId) (H : Heap) (A : Nat → Prop) (adr : Nat → Nat) (sf : Nat → Int32) (af : Nat → Nat → Int32) (hM : MW D A 24 adr (mw ac adr sf af) H) (no : Nat) (oc on_ : Nat → Nat) (owd : Nat → Nat → Nat) (rb st : Nat → Int32) (ho : MOrd sf af no oc on_ owd rb st) (hd : Nat → Option Nat) (hh : MHan af no hd) (x : Int32) : WRi l yX8_giveBack wsX8_giveBack ({ frames := 2, cells := 0, slots := 0, locals := 45 }) [.ref (adr 0), .int x] D ac H A 24 adr (MPo ac adr sf af (cd2 (ix x 4).isNone ((ix x 4).bind hd).isNone) (fun r s1 a1 => ∃ t o, t < 4 ∧ x = nI t ∧ hd t = some o ∧ r = nI o ∧ s1 = va_up (va_up sf 0 0) 7 (sf 7 - 1) ∧ a1 = va_up (va_up af 11 (upd (af 11) o (-1))) 12 (upd (af 12) o (sf 7 - 1)))) := by
  refine Met.ofW (cc := cX8_giveBack) (maxL := 3) (ret := (some .int)) (by decide) rfl ?_
  intro p e s m args below meth c s₁ B hml hv
  obtain ⟨hargs, hsz, hK⟩ := hv
  have hx := B.exec
  have hb := B.bytes
  have hr := B.returns
  have hts := atoms_spec (ws := wsX8_giveBack) B.pre
  have hown : s.vm.findClass RX8 = some m.cls := findClass_of_methodNamed B.named
  have hlocks := B.notSynchronized
  subst hsz
  have inX8_ : ∀ w ∈ wsX80, w ∈ wsX8_giveBack := by decide +kernel
  have hS : va_S A s.heap s.heap [] := va_S.rf
  have hl := lv_entry ([.ref (adr 0), .int x]) (n := 3) (Nat.le_of_ble_eq_true rfl)
  have hen := lg_entry_eq m [.ref (adr 0), .int x] 3
  rw [← hargs] at hen
  rw [hen]
  generalize (lg_sl ([.ref (adr 0), .int x]) ++ List.replicate (3 - (lg_sl ([.ref (adr 0), .int x])).length) Slot.unset).toArray = ls at hl ⊢
  have hl : lv_has ls 3 [(0, .ref (adr 0)), (1, .int x)] := hl
  obtain ⟨Q0, hQ0⟩ : ∃ z0_, z0_ = MQ below (va_Qi (MPo ac adr sf af (cd2 (ix x 4).isNone ((ix x 4).bind hd).isNone) (fun r s1 a1 => ∃ t o, t < 4 ∧ x = nI t ∧ hd t = some o ∧ r = nI o ∧ s1 = va_up (va_up sf 0 0) 7 (sf 7 - 1) ∧ a1 = va_up (va_up af 11 (upd (af 11) o (-1))) 12 (upd (af 12) o (sf 7 - 1)))) (fun c t => MW D A 24 adr c t.heap) A) args s 0 0 A := ⟨_, rfl⟩
  rw [← hQ0]
  have h60 := ho.2.1
  refine lv_aload_n hx hb dX8_giveBack_0 rfl (lv_at hl 0 rfl) ?_
  refine lv_iload_n hx hb dX8_giveBack_1 rfl (lv_at hl 1 rfl) ?_
  refine w_calli (va_runV (As := [.int x]) (rest := []) ⟨hx, hb, hml, hown, hts⟩ (k_X8_isAtWork l D ac _ A adr sf af hM no oc on_ owd rb st (ho.t rfl rfl rfl rfl rfl rfl) hd (hh.t rfl) x) (cwV 1 hts gX8_giveBack_X8_isAtWork rfl rfl rfl (by decide +kernel) ⟨Nat.le_of_ble_eq_true rfl, Nat.le_of_ble_eq_true rfl⟩) (pV hK (ci := 8) rfl (hM.cel (by omega) (show (mw ac adr sf af) 0 = .inr (8, mfs adr sf) from rfl))) rfl rfl hl.1 rfl (lv_room (Nat.le_of_ble_eq_true rfl)) dX8_giveBack_2 ⟨Nat.le_of_ble_eq_true rfl, Nat.le_of_ble_eq_true rfl⟩) hS (fun rv_1 w_2 H locs hw_2 hM hS => ?_)
  obtain ⟨hrv_1, he_3⟩ := hw_2
  rw [he_3] at hM
  have hM := (MW.cg (s1 := (va_up sf 0 (nI (cd2 (ix x 4).isNone ((ix x 4).bind hd).isNone)))) (a1 := af) hM (fun j9 => if q0_ : j9 = 0 then (by subst q0_; rfl) else (by first | rfl | simp only [va_up, if_neg q0_])) (fun _ => rfl))
  subst hrv_1
  by_cases d5 : cd2 (ix x 4).isNone ((ix x 4).bind hd).isNone = 0
  · refine m_top (show (if cd2 (ix x 4).isNone ((ix x 4).bind hd).isNone = 0 then 1 else 0) = (1 : Int32) from if_pos d5) ?_
    obtain ⟨t, o, ht, ex_, eh, eb_⟩ := aw_ex d5
    have ho9 := (hh t ht).2 o eh
    obtain ⟨o1_, o2_, ⟨o3_, o4_, o5_⟩, ⟨o6_, o7_⟩, o8_⟩ := ho.2.2 o ho9
    subst ex_
    refine lv_if_ne (tgt := 10) hx hb dX8_giveBack_5 (by decide) (fun c5 => ?_) (fun c5 => ?_)
    · refine lv_aload_n hx hb dX8_giveBack_10 rfl (lv_at hl 0 rfl) ?_
      refine lv_iload_n hx hb dX8_giveBack_11 rfl (lv_at hl 1 rfl) ?_
      refine r_calli (va_runV (As := [.int (nI t)]) (rest := []) ⟨hx, hb, hml, hown, hts⟩ (k_X8_orderOf l D ac _ A adr (va_up sf 0 (nI (cd2 (ix (nI t) 4).isNone ((ix (nI t) 4).bind hd).isNone))) af hM no ho.1 ho.2.1 (nI t)) (cwV 1 hts gX8_giveBack_X8_orderOf rfl rfl rfl (by decide +kernel) ⟨Nat.le_of_ble_eq_true rfl, Nat.le_of_ble_eq_true rfl⟩) (pV hK (ci := 8) rfl (hM.cel (by omega) (show (mw ac adr (va_up sf 0 (nI (cd2 (ix (nI t) 4).isNone ((ix (nI t) 4).bind hd).isNone))) af) 0 = .inr (8, mfs adr (va_up sf 0 (nI (cd2 (ix (nI t) 4).isNone ((ix (nI t) 4).bind hd).isNone)))) from rfl))) rfl rfl hl.1 rfl (lv_room (Nat.le_of_ble_eq_true rfl)) dX8_giveBack_12 ⟨Nat.le_of_ble_eq_true rfl, Nat.le_of_ble_eq_true rfl⟩) hS (fun rv_4 locs hrv_4 hS => ?_)
      subst hrv_4
      refine m_top (show (loF (af 11) (nI t) no) = nI o from by rw [(hh t ht).1, eh]; rfl) ?_
      refine lv_istore_n (lv' := [(2, .int (nI o)), (0, .ref (adr 0)), (1, .int (nI t))]) hx hb dX8_giveBack_15 rfl hl (by decide) rfl (fun ls hl => ?_)
      refine lv_aload_n hx hb dX8_giveBack_16 rfl (lv_at hl 1 rfl) ?_
      refine m_get (ci := 8) (C := RX8) (T := TX8) (n := 35) (v := .ref (adr 11)) hx hb hts inX8_ hown hK rfl (hM.cel (by omega) (show (mw ac adr (va_up sf 0 (nI (cd2 (ix (nI t) 4).isNone ((ix (nI t) 4).bind hd).isNone))) af) 0 = .inr (8, mfs adr (va_up sf 0 (nI (cd2 (ix (nI t) 4).isNone ((ix (nI t) 4).bind hd).isNone)))) from rfl)) 17 (by decide) (hts _ (by decide +kernel)) rfl dX8_giveBack_17 ?_
      refine lv_iload_n hx hb dX8_giveBack_20 rfl (lv_at hl 0 rfl) ?_
      refine lv_iconst (v := (-1)) hx hb dX8_giveBack_21 (by decide) ?_
      refine m_iast hx hb hK hM hS 11 (by omega) (show (mw ac adr (va_up sf 0 (nI (cd2 (ix (nI t) 4).isNone ((ix (nI t) 4).bind hd).isNone))) af) 11 = .inl (ac 0, 60, .inl (af 11)) from rfl) (vp_in_nI (by omega) (by decide)) dX8_giveBack_22 (fun H locs hM hS => ?_)
      have ef_ : (upd (af 11) (nI o).toNatClampNeg (-1)) = upd (af 11) o (-1) := by rw [nI_clamp (by omega)]
      rw [ef_] at hM
      clear ef_
      have hM := MW.marr (a1 := (va_up af 11 (upd (af 11) o (-1)))) hM (by decide) rfl rfl (fun j9 hj9 => by simp only [va_up, if_neg hj9])
      refine lv_aload_n hx hb dX8_giveBack_23 rfl (lv_at hl 1 rfl) ?_
      refine lv_dup hx hb dX8_giveBack_24 rfl ?_
      refine m_get (ci := 8) (C := RX8) (T := TX8) (n := 35) (v := .int (sf 7)) hx hb hts inX8_ hown hK rfl (hM.cel (by omega) (show (mw ac adr (va_up sf 0 (nI (cd2 (ix (nI t) 4).isNone ((ix (nI t) 4).bind hd).isNone))) (va_up af 11 (upd (af 11) o (-1)))) 0 = .inr (8, mfs adr (va_up sf 0 (nI (cd2 (ix (nI t) 4).isNone ((ix (nI t) 4).bind hd).isNone)))) from rfl)) 19 (by decide) (hts _ (by decide +kernel)) rfl dX8_giveBack_25 ?_
      refine lv_iconst (v := 1) hx hb dX8_giveBack_28 (by decide) ?_
      refine lv_isub hx hb dX8_giveBack_29 ?_
      refine m_put (ci := 8) (C := RX8) (T := TX8) (n := 35) (v := .int ((sf 7) - 1)) (ty := tyX8 19) hx hb hts inX8_ tyX8 tyX8_ok nmX8 hown hK hM hS rfl 0 (by omega) (show (mw ac adr (va_up sf 0 (nI (cd2 (ix (nI t) 4).isNone ((ix (nI t) 4).bind hd).isNone))) (va_up af 11 (upd (af 11) o (-1)))) 0 = .inr (8, mfs adr (va_up sf 0 (nI (cd2 (ix (nI t) 4).isNone ((ix (nI t) 4).bind hd).isNone)))) from rfl) 19 (by decide) (hts _ (by decide +kernel)) rfl (by decide +kernel) rfl rfl (Nat.le_of_ble_eq_true rfl) dX8_giveBack_30 (fun H locs hM hS => ?_)
      have hM : MW D A 24 adr (va_up (mw ac adr (va_up sf 0 (nI (cd2 (ix (nI t) 4).isNone ((ix (nI t) 4).bind hd).isNone))) (va_up af 11 (upd (af 11) o (-1)))) 0 (.inr (8, mfs adr (va_up (va_up sf 0 (nI (cd2 (ix (nI t) 4).isNone ((ix (nI t) 4).bind hd).isNone))) 7 ((sf 7) - 1))))) H := hM
      have hM := MW.mobj (s1 := (va_up (va_up sf 0 (nI (cd2 (ix (nI t) 4).isNone ((ix (nI t) 4).bind hd).isNone))) 7 ((sf 7) - 1))) hM rfl
      refine lv_aload_n hx hb dX8_giveBack_33 rfl (lv_at hl 1 rfl) ?_
      refine m_get (ci := 8) (C := RX8) (T := TX8) (n := 35) (v := .ref (adr 12)) hx hb hts inX8_ hown hK rfl (hM.cel (by omega) (show (mw ac adr (va_up (va_up sf 0 (nI (cd2 (ix (nI t) 4).isNone ((ix (nI t) 4).bind hd).isNone))) 7 ((sf 7) - 1)) (va_up af 11 (upd (af 11) o (-1)))) 0 = .inr (8, mfs adr (va_up (va_up sf 0 (nI (cd2 (ix (nI t) 4).isNone ((ix (nI t) 4).bind hd).isNone))) 7 ((sf 7) - 1))) from rfl)) 18 (by decide) (hts _ (by decide +kernel)) rfl dX8_giveBack_34 ?_
      refine lv_iload_n hx hb dX8_giveBack_37 rfl (lv_at hl 0 rfl) ?_
      refine lv_aload_n hx hb dX8_giveBack_38 rfl (lv_at hl 1 rfl) ?_
      refine m_get (ci := 8) (C := RX8) (T := TX8) (n := 35) (v := .int ((sf 7) - 1)) hx hb hts inX8_ hown hK rfl (hM.cel (by omega) (show (mw ac adr (va_up (va_up sf 0 (nI (cd2 (ix (nI t) 4).isNone ((ix (nI t) 4).bind hd).isNone))) 7 ((sf 7) - 1)) (va_up af 11 (upd (af 11) o (-1)))) 0 = .inr (8, mfs adr (va_up (va_up sf 0 (nI (cd2 (ix (nI t) 4).isNone ((ix (nI t) 4).bind hd).isNone))) 7 ((sf 7) - 1))) from rfl)) 19 (by decide) (hts _ (by decide +kernel)) rfl dX8_giveBack_39 ?_
      refine m_iast hx hb hK hM hS 12 (by omega) (show (mw ac adr (va_up (va_up sf 0 (nI (cd2 (ix (nI t) 4).isNone ((ix (nI t) 4).bind hd).isNone))) 7 ((sf 7) - 1)) (va_up af 11 (upd (af 11) o (-1)))) 12 = .inl (ac 0, 60, .inl (af 12)) from rfl) (vp_in_nI (by omega) (by decide)) dX8_giveBack_42 (fun H locs hM hS => ?_)
      have ef_ : (upd (af 12) (nI o).toNatClampNeg ((sf 7) - 1)) = upd (af 12) o ((sf 7) - 1) := by rw [nI_clamp (by omega)]
      rw [ef_] at hM
      clear ef_
      have hM := MW.marr (a1 := (va_up (va_up af 11 (upd (af 11) o (-1))) 12 (upd (af 12) o ((sf 7) - 1)))) hM (by decide) rfl rfl (fun j9 hj9 => by simp only [va_up, if_neg hj9])
      refine lv_iload_n hx hb dX8_giveBack_43 rfl (lv_at hl 0 rfl) ?_
      rw [hQ0]
      exact e_wi hx hb hlocks hr dX8_giveBack_44 hM hS (MPo.ok d5 (by show nI _ = 0; rw [d5]; rfl) ⟨t, o, ht, rfl, eh, rfl, funext (fun j9 => if q_ : j9 = 0 then (by subst q_; show nI _ = (0 : Int32); rw [d5]; rfl) else (by simp only [va_up, if_neg q_])), rfl⟩)
    · exact absurd c5 (by decide)
  · refine m_top (show (if cd2 (ix x 4).isNone ((ix x 4).bind hd).isNone = 0 then 1 else 0) = (0 : Int32) from if_neg d5) ?_
    refine lv_if_ne (tgt := 10) hx hb dX8_giveBack_5 (by decide) (fun c5 => ?_) (fun c5 => ?_)
    · exact absurd c5 (by decide)
    · refine lv_iconst (v := 0) hx hb dX8_giveBack_8 (by decide) ?_
      rw [hQ0]
      exact e_wi hx hb hlocks hr dX8_giveBack_9 hM hS (MPo.no rfl d5 rfl ⟨fun k9 u1_ u2_ => by first | rfl | simp only [va_up, if_neg u1_, if_neg u2_], fun k9 u1_ u2_ => by first | rfl | simp only [va_up, if_neg u1_, if_neg u2_]⟩)
set_option maxHeartbeats 4000000 in
set_option maxRecDepth 100000 in
/-- X8_open -/
theorem k_X8_open (l : Launch) (D : va_G) (ac : Nat → ClassId) (H : Heap) (A : Nat → Prop) (adr : Nat → Nat) (sf : Nat → Int32) (af : Nat → Nat → Int32) (hM : MW D A 24 adr (mw ac adr sf af) H) (no : Nat) (oc on_ : Nat → Nat) (owd : Nat → Nat → Nat) (rb st : Nat → Int32) (ho : MOrd sf af no oc on_ owd rb st) (o : Nat) (ho9 : o < no) (bf : Nat → Int32) (hb9 : ∀ j, j < on_ o → af 14 (8 * o + j) = bf j) : ROi l yX8_open wsX8_open ({ frames := 0, cells := 0, slots := 0, locals := 0 }) [.ref (adr 0), .int (nI o)] D ac H (fun r => r = nI (opn bf (on_ o))) := by
  refine Met.ofW (cc := cX8_open) (maxL := 4) (ret := (some .int)) (by decide) rfl ?_
  intro p e s m args below meth c s₁ B hml hv
  obtain ⟨hargs, hsz, hK⟩ := hv
  have hx := B.exec
  have hb := B.bytes
  have hr := B.returns
  have hts := atoms_spec (ws := wsX8_open) B.pre
  have hown : s.vm.findClass RX8 = some m.cls := findClass_of_methodNamed B.named
  have hlocks := B.notSynchronized
  subst hsz
  have inX8_ : ∀ w ∈ wsX80, w ∈ wsX8_open := by decide +kernel
  have hS : va_S (fun _ => False) s.heap s.heap [] := va_S.rf
  have hl := lv_entry ([.ref (adr 0), .int (nI o)]) (n := 4) (Nat.le_of_ble_eq_true rfl)
  have hen := lg_entry_eq m [.ref (adr 0), .int (nI o)] 4
  rw [← hargs] at hen
  rw [hen]
  generalize (lg_sl ([.ref (adr 0), .int (nI o)]) ++ List.replicate (4 - (lg_sl ([.ref (adr 0), .int (nI o)])).length) Slot.unset).toArray = ls at hl ⊢
  have hl : lv_has ls 4 [(0, .ref (adr 0)), (1, .int (nI o))] := hl
  obtain ⟨Q0, hQ0⟩ : ∃ z0_, z0_ = MQ below (va_Qi (fun r (_ : Unit) => (fun r => r = nI (opn bf (on_ o))) r) (fun _ t => t.heap = s.heap) (fun _ => False)) args s 0 0 (fun _ => False) := ⟨_, rfl⟩
  rw [← hQ0]
  have h60 := ho.2.1
  obtain ⟨o1_, o2_, ⟨o3_, o4_, o5_⟩, ⟨o6_, o7_⟩, o8_⟩ := ho.2.2 o ho9
  refine lv_iconst (v := 0) hx hb dX8_open_0 (by decide) ?_
  refine lv_istore_n (lv' := [(2, .int 0), (0, .ref (adr 0)), (1, .int (nI o))]) hx hb dX8_open_1 rfl hl (by decide) rfl (fun ls hl => ?_)
  refine lv_bipush (v := 8) hx hb dX8_open_2 (by decide) ?_
  refine lv_iload_n hx hb dX8_open_4 rfl (lv_at hl 2 rfl) ?_
  refine lv_imul hx hb dX8_open_5 ?_
  refine m_top (show (8 * (nI o)) = nI (8 * o) from by rw [show (8 : Int32) = nI 8 from rfl, pk_mul]) ?_
  refine lv_istore_n (lv' := [(3, .int (nI (8 * o))), (2, .int 0), (0, .ref (adr 0)), (1, .int (nI o))]) hx hb dX8_open_6 rfl hl (by decide) rfl (fun ls hl => ?_)
  have L7 : ∀ (k9 : Nat) (j : Nat) (hk : on_ o - j < k9) (hj : j ≤ on_ o) (locs : List Loc) (hS : va_S (fun _ => False) s.heap s.heap locs) (ls : Array Slot) (hl : lv_has ls 4 [(0, .ref (adr 0)), (1, .int (nI o)), (2, .int (nI (opn bf j))), (3, .int (nI (8 * o + j)))]), W p l e (headSpec wsX8_open ({ frames := 0, cells := 0, slots := 0, locals := 0 })).room s m args below meth c s.heap locs 0 0 Q0 (F0 m 7 ls []) := by
    intro k9
    induction k9 with
    | zero => intro j hk hj locs hS ls hl; exact absurd hk (Nat.not_lt_zero _)
    | succ k9 ih7 =>
      intro j hk hj locs hS ls hl
      refine lv_iload_n hx hb dX8_open_7 rfl (lv_at hl 3 rfl) ?_
      refine lv_bipush (v := 8) hx hb dX8_open_8 (by decide) ?_
      refine lv_iload_n hx hb dX8_open_10 rfl (lv_at hl 1 rfl) ?_
      refine lv_imul hx hb dX8_open_11 ?_
      refine m_top (show (8 * (nI o)) = nI (8 * o) from by rw [show (8 : Int32) = nI 8 from rfl, pk_mul]) ?_
      refine lv_aload_n hx hb dX8_open_12 rfl (lv_at hl 0 rfl) ?_
      refine m_get (ci := 8) (C := RX8) (T := TX8) (n := 35) (v := .ref (adr 8)) hx hb hts inX8_ hown hK rfl (hM.cel (by omega) (show (mw ac adr sf af) 0 = .inr (8, mfs adr sf) from rfl)) 14 (by decide) (hts _ (by decide +kernel)) rfl dX8_open_13 ?_
      refine lv_iload_n hx hb dX8_open_16 rfl (lv_at hl 1 rfl) ?_
      refine m_iald hx hb hK (hM.cel (by omega) (show (mw ac adr sf af) 8 = .inl (ac 0, 60, .inl (af 8)) from rfl)) (vp_in_nI (by omega) (by decide)) dX8_open_17 ?_
      refine m_top (show ((af 8) (nI o).toNatClampNeg) = nI (on_ o) from by rw [nI_clamp (by omega)]; exact o2_) ?_
      refine lv_iadd hx hb dX8_open_18 ?_
      refine m_top (show ((nI (8 * o)) + (nI (on_ o))) = nI (8 * o + on_ o) from nI_add _ _) ?_
      refine lv_icmp_ge (tgt := 46) hx hb dX8_open_19 (by decide) (fun c19 => ?_) (fun c19 => ?_)
      · have e9 : on_ o = j := by have := le_le c19 (by omega) (by omega); omega
        refine lv_iload_n hx hb dX8_open_46 rfl (lv_at hl 2 rfl) ?_
        rw [hQ0]
        exact e_i hx hb hlocks hr dX8_open_47 hS (by rw [e9])
      · have hjn : j < on_ o := by have := nle_lt c19 (by omega) (by omega); omega
        refine lv_iload_n hx hb dX8_open_22 rfl (lv_at hl 2 rfl) ?_
        refine lv_aload_n hx hb dX8_open_23 rfl (lv_at hl 0 rfl) ?_
        refine m_get (ci := 8) (C := RX8) (T := TX8) (n := 35) (v := .ref (adr 14)) hx hb hts inX8_ hown hK rfl (hM.cel (by omega) (show (mw ac adr sf af) 0 = .inr (8, mfs adr sf) from rfl)) 22 (by decide) (hts _ (by decide +kernel)) rfl dX8_open_24 ?_
        refine lv_iload_n hx hb dX8_open_27 rfl (lv_at hl 3 rfl) ?_
        refine m_iald hx hb hK (hM.cel (by omega) (show (mw ac adr sf af) 14 = .inl (ac 0, 480, .inl (af 14)) from rfl)) (vp_in_nI (by omega) (by decide)) dX8_open_28 ?_
        refine m_top (show ((af 14) (nI (8 * o + j)).toNatClampNeg) = bf j from by rw [nI_clamp (by omega)]; exact hb9 j hjn) ?_
        refine lv_iconst (v := (-1)) hx hb dX8_open_29 (by decide) ?_
        refine lv_icmp_ne (tgt := 37) hx hb dX8_open_30 (by decide) (fun c30 => ?_) (fun c30 => ?_)
        · refine lv_iconst (v := 0) hx hb dX8_open_37 (by decide) ?_
          refine lv_iadd hx hb dX8_open_38 ?_
          refine m_top (show ((nI (opn bf j)) + 0) = nI (opn bf (j + 1)) from by first | (rw [opn_y c30]; exact nI_1 _) | (rw [opn_n c30]; exact Int32.add_zero _)) ?_
          refine lv_istore_n (lv' := [(2, .int (nI (opn bf (j + 1)))), (0, .ref (adr 0)), (1, .int (nI o)), (3, .int (nI (8 * o + j)))]) hx hb dX8_open_39 rfl hl (by decide) rfl (fun ls hl => ?_)
          refine lv_iinc (v := nI (8 * o + (j + 1))) (lv' := [(3, .int (nI (8 * o + (j + 1)))), (2, .int (nI (opn bf (j + 1)))), (0, .ref (adr 0)), (1, .int (nI o))]) hx hb dX8_open_40 hl (k := 3) rfl (nI_1 _) (by decide) rfl (fun ls hl => ?_)
          refine lv_goto (tgt := 7) hx hb dX8_open_43 (by decide) ?_
          exact ih7 (j + 1) (by omega) (by omega) _ hS ls (lv_sub hl [2, 3, 1, 0] rfl)
        · refine lv_iconst (v := 1) hx hb dX8_open_33 (by decide) ?_
          refine lv_goto (tgt := 38) hx hb dX8_open_34 (by decide) ?_
          refine lv_iadd hx hb dX8_open_38 ?_
          refine m_top (show ((nI (opn bf j)) + 1) = nI (opn bf (j + 1)) from by first | (rw [opn_y c30]; exact nI_1 _) | (rw [opn_n c30]; exact Int32.add_zero _)) ?_
          refine lv_istore_n (lv' := [(2, .int (nI (opn bf (j + 1)))), (0, .ref (adr 0)), (1, .int (nI o)), (3, .int (nI (8 * o + j)))]) hx hb dX8_open_39 rfl hl (by decide) rfl (fun ls hl => ?_)
          refine lv_iinc (v := nI (8 * o + (j + 1))) (lv' := [(3, .int (nI (8 * o + (j + 1)))), (2, .int (nI (opn bf (j + 1)))), (0, .ref (adr 0)), (1, .int (nI o))]) hx hb dX8_open_40 hl (k := 3) rfl (nI_1 _) (by decide) rfl (fun ls hl => ?_)
          refine lv_goto (tgt := 7) hx hb dX8_open_43 (by decide) ?_
          exact ih7 (j + 1) (by omega) (by omega) _ hS ls (lv_sub hl [2, 3, 1, 0] rfl)
  exact L7 _ 0 (Nat.lt_succ_self _) (Nat.zero_le _) _ hS ls (lv_sub hl [2, 3, 1, 0] rfl)
set_option maxHeartbeats 4000000 in
set_option maxRecDepth 100000 in
/-- X8_translate -/
theorem k_X8_translate (l : Launch) (D : va_G) (ac : Nat → ClassId) (H : Heap) (A : Nat → Prop) (adr : Nat → Nat) (sf : Nat → Int32) (af : Nat → Nat → Int32) (hM : MW D A 24 adr (mw ac adr sf af) H) (no : Nat) (oc on_ : Nat → Nat) (owd : Nat → Nat → Nat) (rb st : Nat → Int32) (ho : MOrd sf af no oc on_ owd rb st) (hd : Nat → Option Nat) (hh : MHan af no hd) (obf : Nat → Nat → Int32) (mt co py : Nat → Int32) (hk : MTak af hd on_ obf mt co py) (x y z : Int32) : WRi l yX8_translate wsX8_translate ({ frames := 1, cells := 0, slots := 0, locals := 23 }) [.ref (adr 0), .int x, .int y, .int z] D ac H A 24 adr (MPo ac adr sf af (cd3 ((ix z 100).isNone || (ix x 4).isNone) ((ix x 4).bind hd).isNone (((ix x 4).bind hd).elim true (fun o => (ix y (on_ o)).isNone))) (fun r s1 a1 => ∃ t o k, t < 4 ∧ x = nI t ∧ hd t = some o ∧ k < on_ o ∧ y = nI k ∧ (ix z 100).isNone = false ∧ r = nI (opn (upd (obf o) k z) (on_ o)) ∧ s1 = va_up sf 0 0 ∧ a1 = va_up af 14 (upd (af 14) (8 * o + k) z))) := by
  refine Met.ofW (cc := cX8_translate) (maxL := 6) (ret := (some .int)) (by decide) rfl ?_
  intro p e s m args below meth c s₁ B hml hv
  obtain ⟨hargs, hsz, hK⟩ := hv
  have hx := B.exec
  have hb := B.bytes
  have hr := B.returns
  have hts := atoms_spec (ws := wsX8_translate) B.pre
  have hown : s.vm.findClass RX8 = some m.cls := findClass_of_methodNamed B.named
  have hlocks := B.notSynchronized
  subst hsz
  have inX8_ : ∀ w ∈ wsX80, w ∈ wsX8_translate := by decide +kernel
  have hS : va_S A s.heap s.heap [] := va_S.rf
  have hl := lv_entry ([.ref (adr 0), .int x, .int y, .int z]) (n := 6) (Nat.le_of_ble_eq_true rfl)
  have hen := lg_entry_eq m [.ref (adr 0), .int x, .int y, .int z] 6
  rw [← hargs] at hen
  rw [hen]
  generalize (lg_sl ([.ref (adr 0), .int x, .int y, .int z]) ++ List.replicate (6 - (lg_sl ([.ref (adr 0), .int x, .int y, .int z])).length) Slot.unset).toArray = ls at hl ⊢
  have hl : lv_has ls 6 [(0, .ref (adr 0)), (1, .int x), (2, .int y), (3, .int z)] := hl
  obtain ⟨Q0, hQ0⟩ : ∃ z0_, z0_ = MQ below (va_Qi (MPo ac adr sf af (cd3 ((ix z 100).isNone || (ix x 4).isNone) ((ix x 4).bind hd).isNone (((ix x 4).bind hd).elim true (fun o => (ix y (on_ o)).isNone))) (fun r s1 a1 => ∃ t o k, t < 4 ∧ x = nI t ∧ hd t = some o ∧ k < on_ o ∧ y = nI k ∧ (ix z 100).isNone = false ∧ r = nI (opn (upd (obf o) k z) (on_ o)) ∧ s1 = va_up sf 0 0 ∧ a1 = va_up af 14 (upd (af 14) (8 * o + k) z))) (fun c t => MW D A 24 adr c t.heap) A) args s 0 0 A := ⟨_, rfl⟩
  rw [← hQ0]
  have h60 := ho.2.1
  refine lv_iload_n hx hb dX8_translate_0 rfl (lv_at hl 1 rfl) ?_
  refine lv_iconst (v := 4) hx hb dX8_translate_1 (by decide) ?_
  refine m_top (show (4 : Int32) = nI 4 from rfl) ?_
  refine r_calli (va_runS (As := [.int x, .int (nI 4)]) (rest := []) ⟨hx, hb, hml, hown, hts⟩ (k_X8_isIn l D ac _ x 4 (by omega)) (va_cwS 2 hts gX8_translate_X8_isIn rfl rfl rfl (by decide +kernel) ⟨Nat.le_of_ble_eq_true rfl, Nat.le_of_ble_eq_true rfl⟩) (pS hK) rfl rfl hl.1 rfl (lv_room (Nat.le_of_ble_eq_true rfl)) dX8_translate_2 ⟨Nat.le_of_ble_eq_true rfl, Nat.le_of_ble_eq_true rfl⟩) hS (fun rv_1 locs hrv_1 hS => ?_)
  subst hrv_1
  rcases hi_x : ix x 4 with _ | k_x
  · refine m_top (show _ = (0 : Int32) from rfl) ?_
    refine lv_if_eq (tgt := 21) hx hb dX8_translate_5 (by decide) (fun c5 => ?_) (fun c5 => ?_)
    · refine lv_iconst (v := 0) hx hb dX8_translate_21 (by decide) ?_
      refine lv_istore (lv' := [(4, .int 0), (0, .ref (adr 0)), (1, .int x), (2, .int y), (3, .int z)]) hx hb dX8_translate_22 hl (by decide) rfl (fun ls hl => ?_)
      refine lv_iload hx hb dX8_translate_24 (lv_at hl 0 rfl) ?_
      refine lv_if_eq (tgt := 37) hx hb dX8_translate_26 (by decide) (fun c26 => ?_) (fun c26 => ?_)
      · refine lv_iconst (v := (-1)) hx hb dX8_translate_37 (by decide) ?_
        refine lv_istore (lv' := [(5, .int (-1)), (4, .int 0), (0, .ref (adr 0)), (1, .int x), (2, .int y), (3, .int z)]) hx hb dX8_translate_38 hl (by decide) rfl (fun ls hl => ?_)
        refine lv_aload_n hx hb dX8_translate_40 rfl (lv_at hl 2 rfl) ?_
        refine lv_iload hx hb dX8_translate_41 (lv_at hl 1 rfl) ?_
        refine lv_if_ne (tgt := 50) hx hb dX8_translate_43 (by decide) (fun c43 => ?_) (fun c43 => ?_)
        · exact absurd c43 (by decide)
        · refine lv_iconst (v := 1) hx hb dX8_translate_46 (by decide) ?_
          refine lv_goto (tgt := 79) hx hb dX8_translate_47 (by decide) ?_
          refine w_calli (va_runV (As := [.int 1]) (rest := []) ⟨hx, hb, hml, hown, hts⟩ (k_X8_holds l D ac _ A adr sf af hM 1) (cwV 1 hts gX8_translate_X8_holds rfl rfl rfl (by decide +kernel) ⟨Nat.le_of_ble_eq_true rfl, Nat.le_of_ble_eq_true rfl⟩) (pV hK (ci := 8) rfl (hM.cel (by omega) (show (mw ac adr sf af) 0 = .inr (8, mfs adr sf) from rfl))) rfl rfl hl.1 rfl (lv_room (Nat.le_of_ble_eq_true rfl)) dX8_translate_79 ⟨Nat.le_of_ble_eq_true rfl, Nat.le_of_ble_eq_true rfl⟩) hS (fun rv_2 w_3 H locs hw_3 hM hS => ?_)
          obtain ⟨hrv_2, he_4⟩ := hw_3
          rw [he_4] at hM
          have hM := (MW.cg (s1 := (va_up sf 0 1)) (a1 := af) hM (fun j9 => if q0_ : j9 = 0 then (by subst q0_; rfl) else (by first | rfl | simp only [va_up, if_neg q0_])) (fun _ => rfl))
          subst hrv_2
          refine m_top (show _ = (0 : Int32) from rfl) ?_
          refine lv_if_ne (tgt := 87) hx hb dX8_translate_82 (by decide) (fun c82 => ?_) (fun c82 => ?_)
          · exact absurd c82 (by decide)
          · refine lv_iconst (v := 0) hx hb dX8_translate_85 (by decide) ?_
            rw [hQ0]
            exact e_wi hx hb hlocks hr dX8_translate_86 hM hS (MPo.no (c := 1) (by simp [cd1, cd2, cd3, hi_x] : cd3 ((ix z 100).isNone || (ix x 4).isNone) ((ix x 4).bind hd).isNone (((ix x 4).bind hd).elim true (fun o => (ix y (on_ o)).isNone)) = 1) (by decide) rfl ⟨fun k9 u1_ u2_ => by first | rfl | simp only [va_up, if_neg u1_, if_neg u2_], fun k9 u1_ u2_ => by first | rfl | simp only [va_up, if_neg u1_, if_neg u2_]⟩)
      · exact absurd c26 (by decide)
    · exact absurd c5 (by decide)
  · obtain ⟨b_x, e_x⟩ := ix_of hi_x (by omega)
    refine m_top (show _ = (1 : Int32) from rfl) ?_
    subst e_x
    refine lv_if_eq (tgt := 21) hx hb dX8_translate_5 (by decide) (fun c5 => ?_) (fun c5 => ?_)
    · exact absurd c5 (by decide)
    · refine lv_iload_n hx hb dX8_translate_8 rfl (lv_at hl 3 rfl) ?_
      refine lv_bipush (v := 100) hx hb dX8_translate_9 (by decide) ?_
      refine m_top (show (100 : Int32) = nI 100 from rfl) ?_
      refine r_calli (va_runS (As := [.int z, .int (nI 100)]) (rest := []) ⟨hx, hb, hml, hown, hts⟩ (k_X8_isIn l D ac _ z 100 (by omega)) (va_cwS 2 hts gX8_translate_X8_isIn rfl rfl rfl (by decide +kernel) ⟨Nat.le_of_ble_eq_true rfl, Nat.le_of_ble_eq_true rfl⟩) (pS hK) rfl rfl hl.1 rfl (lv_room (Nat.le_of_ble_eq_true rfl)) dX8_translate_11 ⟨Nat.le_of_ble_eq_true rfl, Nat.le_of_ble_eq_true rfl⟩) hS (fun rv_5 locs hrv_5 hS => ?_)
      subst hrv_5
      rcases hi_z : ix z 100 with _ | k_z
      · refine m_top (show _ = (0 : Int32) from rfl) ?_
        refine lv_if_eq (tgt := 21) hx hb dX8_translate_14 (by decide) (fun c14 => ?_) (fun c14 => ?_)
        · refine lv_iconst (v := 0) hx hb dX8_translate_21 (by decide) ?_
          refine lv_istore (lv' := [(4, .int 0), (0, .ref (adr 0)), (1, .int (nI k_x)), (2, .int y), (3, .int z)]) hx hb dX8_translate_22 hl (by decide) rfl (fun ls hl => ?_)
          refine lv_iload hx hb dX8_translate_24 (lv_at hl 0 rfl) ?_
          refine lv_if_eq (tgt := 37) hx hb dX8_translate_26 (by decide) (fun c26 => ?_) (fun c26 => ?_)
          · refine lv_iconst (v := (-1)) hx hb dX8_translate_37 (by decide) ?_
            refine lv_istore (lv' := [(5, .int (-1)), (4, .int 0), (0, .ref (adr 0)), (1, .int (nI k_x)), (2, .int y), (3, .int z)]) hx hb dX8_translate_38 hl (by decide) rfl (fun ls hl => ?_)
            refine lv_aload_n hx hb dX8_translate_40 rfl (lv_at hl 2 rfl) ?_
            refine lv_iload hx hb dX8_translate_41 (lv_at hl 1 rfl) ?_
            refine lv_if_ne (tgt := 50) hx hb dX8_translate_43 (by decide) (fun c43 => ?_) (fun c43 => ?_)
            · exact absurd c43 (by decide)
            · refine lv_iconst (v := 1) hx hb dX8_translate_46 (by decide) ?_
              refine lv_goto (tgt := 79) hx hb dX8_translate_47 (by decide) ?_
              refine w_calli (va_runV (As := [.int 1]) (rest := []) ⟨hx, hb, hml, hown, hts⟩ (k_X8_holds l D ac _ A adr sf af hM 1) (cwV 1 hts gX8_translate_X8_holds rfl rfl rfl (by decide +kernel) ⟨Nat.le_of_ble_eq_true rfl, Nat.le_of_ble_eq_true rfl⟩) (pV hK (ci := 8) rfl (hM.cel (by omega) (show (mw ac adr sf af) 0 = .inr (8, mfs adr sf) from rfl))) rfl rfl hl.1 rfl (lv_room (Nat.le_of_ble_eq_true rfl)) dX8_translate_79 ⟨Nat.le_of_ble_eq_true rfl, Nat.le_of_ble_eq_true rfl⟩) hS (fun rv_6 w_7 H locs hw_7 hM hS => ?_)
              obtain ⟨hrv_6, he_8⟩ := hw_7
              rw [he_8] at hM
              have hM := (MW.cg (s1 := (va_up sf 0 1)) (a1 := af) hM (fun j9 => if q0_ : j9 = 0 then (by subst q0_; rfl) else (by first | rfl | simp only [va_up, if_neg q0_])) (fun _ => rfl))
              subst hrv_6
              refine m_top (show _ = (0 : Int32) from rfl) ?_
              refine lv_if_ne (tgt := 87) hx hb dX8_translate_82 (by decide) (fun c82 => ?_) (fun c82 => ?_)
              · exact absurd c82 (by decide)
              · refine lv_iconst (v := 0) hx hb dX8_translate_85 (by decide) ?_
                rw [hQ0]
                exact e_wi hx hb hlocks hr dX8_translate_86 hM hS (MPo.no (c := 1) (by simp [cd1, cd2, cd3, hi_x, hi_z] : cd3 ((ix z 100).isNone || (ix (nI k_x) 4).isNone) ((ix (nI k_x) 4).bind hd).isNone (((ix (nI k_x) 4).bind hd).elim true (fun o => (ix y (on_ o)).isNone)) = 1) (by decide) rfl ⟨fun k9 u1_ u2_ => by first | rfl | simp only [va_up, if_neg u1_, if_neg u2_], fun k9 u1_ u2_ => by first | rfl | simp only [va_up, if_neg u1_, if_neg u2_]⟩)
          · exact absurd c26 (by decide)
        · exact absurd c14 (by decide)
      · obtain ⟨b_z, e_z⟩ := ix_of hi_z (by omega)
        refine m_top (show _ = (1 : Int32) from rfl) ?_
        refine lv_if_eq (tgt := 21) hx hb dX8_translate_14 (by decide) (fun c14 => ?_) (fun c14 => ?_)
        · exact absurd c14 (by decide)
        · refine lv_iconst (v := 1) hx hb dX8_translate_17 (by decide) ?_
          refine lv_goto (tgt := 22) hx hb dX8_translate_18 (by decide) ?_
          refine lv_istore (lv' := [(4, .int 1), (0, .ref (adr 0)), (1, .int (nI k_x)), (2, .int y), (3, .int z)]) hx hb dX8_translate_22 hl (by decide) rfl (fun ls hl => ?_)
          refine lv_iload hx hb dX8_translate_24 (lv_at hl 0 rfl) ?_
          refine lv_if_eq (tgt := 37) hx hb dX8_translate_26 (by decide) (fun c26 => ?_) (fun c26 => ?_)
          · exact absurd c26 (by decide)
          · refine lv_aload_n hx hb dX8_translate_29 rfl (lv_at hl 1 rfl) ?_
            refine lv_iload_n hx hb dX8_translate_30 rfl (lv_at hl 2 rfl) ?_
            refine r_calli (va_runV (As := [.int (nI k_x)]) (rest := []) ⟨hx, hb, hml, hown, hts⟩ (k_X8_orderOf l D ac _ A adr sf af hM no ho.1 ho.2.1 (nI k_x)) (cwV 1 hts gX8_translate_X8_orderOf rfl rfl rfl (by decide +kernel) ⟨Nat.le_of_ble_eq_true rfl, Nat.le_of_ble_eq_true rfl⟩) (pV hK (ci := 8) rfl (hM.cel (by omega) (show (mw ac adr sf af) 0 = .inr (8, mfs adr sf) from rfl))) rfl rfl hl.1 rfl (lv_room (Nat.le_of_ble_eq_true rfl)) dX8_translate_31 ⟨Nat.le_of_ble_eq_true rfl, Nat.le_of_ble_eq_true rfl⟩) hS (fun rv_9 locs hrv_9 hS => ?_)
            subst hrv_9
            rcases eh : hd k_x with _ | o
            · refine m_top (show (loF (af 11) (nI k_x) no) = (-1 : Int32) from by rw [(hh k_x b_x).1, eh]; rfl) ?_
              refine lv_goto (tgt := 38) hx hb dX8_translate_34 (by decide) ?_
              refine lv_istore (lv' := [(5, .int (-1)), (4, .int 1), (0, .ref (adr 0)), (1, .int (nI k_x)), (2, .int y), (3, .int z)]) hx hb dX8_translate_38 hl (by decide) rfl (fun ls hl => ?_)
              refine lv_aload_n hx hb dX8_translate_40 rfl (lv_at hl 2 rfl) ?_
              refine lv_iload hx hb dX8_translate_41 (lv_at hl 1 rfl) ?_
              refine lv_if_ne (tgt := 50) hx hb dX8_translate_43 (by decide) (fun c43 => ?_) (fun c43 => ?_)
              · refine lv_iload hx hb dX8_translate_50 (lv_at hl 0 rfl) ?_
                refine lv_iconst (v := (-1)) hx hb dX8_translate_52 (by decide) ?_
                refine lv_icmp_ne (tgt := 60) hx hb dX8_translate_53 (by decide) (fun c53 => ?_) (fun c53 => ?_)
                · exact absurd c53 (by decide)
                · refine lv_iconst (v := 2) hx hb dX8_translate_56 (by decide) ?_
                  refine lv_goto (tgt := 79) hx hb dX8_translate_57 (by decide) ?_
                  refine w_calli (va_runV (As := [.int 2]) (rest := []) ⟨hx, hb, hml, hown, hts⟩ (k_X8_holds l D ac _ A adr sf af hM 2) (cwV 1 hts gX8_translate_X8_holds rfl rfl rfl (by decide +kernel) ⟨Nat.le_of_ble_eq_true rfl, Nat.le_of_ble_eq_true rfl⟩) (pV hK (ci := 8) rfl (hM.cel (by omega) (show (mw ac adr sf af) 0 = .inr (8, mfs adr sf) from rfl))) rfl rfl hl.1 rfl (lv_room (Nat.le_of_ble_eq_true rfl)) dX8_translate_79 ⟨Nat.le_of_ble_eq_true rfl, Nat.le_of_ble_eq_true rfl⟩) hS (fun rv_10 w_11 H locs hw_11 hM hS => ?_)
                  obtain ⟨hrv_10, he_12⟩ := hw_11
                  rw [he_12] at hM
                  have hM := (MW.cg (s1 := (va_up sf 0 2)) (a1 := af) hM (fun j9 => if q0_ : j9 = 0 then (by subst q0_; rfl) else (by first | rfl | simp only [va_up, if_neg q0_])) (fun _ => rfl))
                  subst hrv_10
                  refine m_top (show _ = (0 : Int32) from rfl) ?_
                  refine lv_if_ne (tgt := 87) hx hb dX8_translate_82 (by decide) (fun c82 => ?_) (fun c82 => ?_)
                  · exact absurd c82 (by decide)
                  · refine lv_iconst (v := 0) hx hb dX8_translate_85 (by decide) ?_
                    rw [hQ0]
                    exact e_wi hx hb hlocks hr dX8_translate_86 hM hS (MPo.no (c := 2) (by simp [cd1, cd2, cd3, hi_x, hi_z, eh] : cd3 ((ix z 100).isNone || (ix (nI k_x) 4).isNone) ((ix (nI k_x) 4).bind hd).isNone (((ix (nI k_x) 4).bind hd).elim true (fun o => (ix y (on_ o)).isNone)) = 2) (by decide) rfl ⟨fun k9 u1_ u2_ => by first | rfl | simp only [va_up, if_neg u1_, if_neg u2_], fun k9 u1_ u2_ => by first | rfl | simp only [va_up, if_neg u1_, if_neg u2_]⟩)
              · exact absurd c43 (by decide)
            · have ho9 := (hh k_x b_x).2 o eh
              obtain ⟨o1_, o2_, ⟨o3_, o4_, o5_⟩, ⟨o6_, o7_⟩, o8_⟩ := ho.2.2 o ho9
              refine m_top (show (loF (af 11) (nI k_x) no) = nI o from by rw [(hh k_x b_x).1, eh]; rfl) ?_
              refine lv_goto (tgt := 38) hx hb dX8_translate_34 (by decide) ?_
              refine lv_istore (lv' := [(5, .int (nI o)), (4, .int 1), (0, .ref (adr 0)), (1, .int (nI k_x)), (2, .int y), (3, .int z)]) hx hb dX8_translate_38 hl (by decide) rfl (fun ls hl => ?_)
              refine lv_aload_n hx hb dX8_translate_40 rfl (lv_at hl 2 rfl) ?_
              refine lv_iload hx hb dX8_translate_41 (lv_at hl 1 rfl) ?_
              refine lv_if_ne (tgt := 50) hx hb dX8_translate_43 (by decide) (fun c43 => ?_) (fun c43 => ?_)
              · refine lv_iload hx hb dX8_translate_50 (lv_at hl 0 rfl) ?_
                refine lv_iconst (v := (-1)) hx hb dX8_translate_52 (by decide) ?_
                refine lv_icmp_ne (tgt := 60) hx hb dX8_translate_53 (by decide) (fun c53 => ?_) (fun c53 => ?_)
                · refine lv_iload_n hx hb dX8_translate_60 rfl (lv_at hl 4 rfl) ?_
                  refine lv_aload_n hx hb dX8_translate_61 rfl (lv_at hl 2 rfl) ?_
                  refine m_get (ci := 8) (C := RX8) (T := TX8) (n := 35) (v := .ref (adr 8)) hx hb hts inX8_ hown hK rfl (hM.cel (by omega) (show (mw ac adr sf af) 0 = .inr (8, mfs adr sf) from rfl)) 14 (by decide) (hts _ (by decide +kernel)) rfl dX8_translate_62 ?_
                  refine lv_iload hx hb dX8_translate_65 (lv_at hl 0 rfl) ?_
                  refine m_iald hx hb hK (hM.cel (by omega) (show (mw ac adr sf af) 8 = .inl (ac 0, 60, .inl (af 8)) from rfl)) (vp_in_nI (by omega) (by decide)) dX8_translate_67 ?_
                  refine m_top (show ((af 8) (nI o).toNatClampNeg) = nI (on_ o) from by rw [nI_clamp (by omega)]; exact o2_) ?_
                  refine r_calli (va_runS (As := [.int y, .int (nI (on_ o))]) (rest := [.ref (adr 0)]) ⟨hx, hb, hml, hown, hts⟩ (k_X8_isIn l D ac _ y ((on_ o)) (by omega)) (va_cwS 2 hts gX8_translate_X8_isIn rfl rfl rfl (by decide +kernel) ⟨Nat.le_of_ble_eq_true rfl, Nat.le_of_ble_eq_true rfl⟩) (pS hK) rfl rfl hl.1 rfl (lv_room (Nat.le_of_ble_eq_true rfl)) dX8_translate_68 ⟨Nat.le_of_ble_eq_true rfl, Nat.le_of_ble_eq_true rfl⟩) hS (fun rv_13 locs hrv_13 hS => ?_)
                  subst hrv_13
                  rcases hi_y : ix y (on_ o) with _ | k_y
                  · refine m_top (show _ = (0 : Int32) from rfl) ?_
                    refine lv_if_eq (tgt := 78) hx hb dX8_translate_71 (by decide) (fun c71 => ?_) (fun c71 => ?_)
                    · refine lv_iconst (v := 3) hx hb dX8_translate_78 (by decide) ?_
                      refine w_calli (va_runV (As := [.int 3]) (rest := []) ⟨hx, hb, hml, hown, hts⟩ (k_X8_holds l D ac _ A adr sf af hM 3) (cwV 1 hts gX8_translate_X8_holds rfl rfl rfl (by decide +kernel) ⟨Nat.le_of_ble_eq_true rfl, Nat.le_of_ble_eq_true rfl⟩) (pV hK (ci := 8) rfl (hM.cel (by omega) (show (mw ac adr sf af) 0 = .inr (8, mfs adr sf) from rfl))) rfl rfl hl.1 rfl (lv_room (Nat.le_of_ble_eq_true rfl)) dX8_translate_79 ⟨Nat.le_of_ble_eq_true rfl, Nat.le_of_ble_eq_true rfl⟩) hS (fun rv_14 w_15 H locs hw_15 hM hS => ?_)
                      obtain ⟨hrv_14, he_16⟩ := hw_15
                      rw [he_16] at hM
                      have hM := (MW.cg (s1 := (va_up sf 0 3)) (a1 := af) hM (fun j9 => if q0_ : j9 = 0 then (by subst q0_; rfl) else (by first | rfl | simp only [va_up, if_neg q0_])) (fun _ => rfl))
                      subst hrv_14
                      refine m_top (show _ = (0 : Int32) from rfl) ?_
                      refine lv_if_ne (tgt := 87) hx hb dX8_translate_82 (by decide) (fun c82 => ?_) (fun c82 => ?_)
                      · exact absurd c82 (by decide)
                      · refine lv_iconst (v := 0) hx hb dX8_translate_85 (by decide) ?_
                        rw [hQ0]
                        exact e_wi hx hb hlocks hr dX8_translate_86 hM hS (MPo.no (c := 3) (by simp [cd1, cd2, cd3, hi_x, hi_z, eh, hi_y] : cd3 ((ix z 100).isNone || (ix (nI k_x) 4).isNone) ((ix (nI k_x) 4).bind hd).isNone (((ix (nI k_x) 4).bind hd).elim true (fun o => (ix y (on_ o)).isNone)) = 3) (by decide) rfl ⟨fun k9 u1_ u2_ => by first | rfl | simp only [va_up, if_neg u1_, if_neg u2_], fun k9 u1_ u2_ => by first | rfl | simp only [va_up, if_neg u1_, if_neg u2_]⟩)
                    · exact absurd c71 (by decide)
                  · obtain ⟨b_y, e_y⟩ := ix_of hi_y (by omega)
                    refine m_top (show _ = (1 : Int32) from rfl) ?_
                    subst e_y
                    refine lv_if_eq (tgt := 78) hx hb dX8_translate_71 (by decide) (fun c71 => ?_) (fun c71 => ?_)
                    · exact absurd c71 (by decide)
                    · refine lv_iconst (v := 0) hx hb dX8_translate_74 (by decide) ?_
                      refine lv_goto (tgt := 79) hx hb dX8_translate_75 (by decide) ?_
                      refine w_calli (va_runV (As := [.int 0]) (rest := []) ⟨hx, hb, hml, hown, hts⟩ (k_X8_holds l D ac _ A adr sf af hM 0) (cwV 1 hts gX8_translate_X8_holds rfl rfl rfl (by decide +kernel) ⟨Nat.le_of_ble_eq_true rfl, Nat.le_of_ble_eq_true rfl⟩) (pV hK (ci := 8) rfl (hM.cel (by omega) (show (mw ac adr sf af) 0 = .inr (8, mfs adr sf) from rfl))) rfl rfl hl.1 rfl (lv_room (Nat.le_of_ble_eq_true rfl)) dX8_translate_79 ⟨Nat.le_of_ble_eq_true rfl, Nat.le_of_ble_eq_true rfl⟩) hS (fun rv_17 w_18 H locs hw_18 hM hS => ?_)
                      obtain ⟨hrv_17, he_19⟩ := hw_18
                      rw [he_19] at hM
                      have hM := (MW.cg (s1 := (va_up sf 0 0)) (a1 := af) hM (fun j9 => if q0_ : j9 = 0 then (by subst q0_; rfl) else (by first | rfl | simp only [va_up, if_neg q0_])) (fun _ => rfl))
                      subst hrv_17
                      refine m_top (show _ = (1 : Int32) from rfl) ?_
                      refine lv_if_ne (tgt := 87) hx hb dX8_translate_82 (by decide) (fun c82 => ?_) (fun c82 => ?_)
                      · refine lv_aload_n hx hb dX8_translate_87 rfl (lv_at hl 2 rfl) ?_
                        refine m_get (ci := 8) (C := RX8) (T := TX8) (n := 35) (v := .ref (adr 14)) hx hb hts inX8_ hown hK rfl (hM.cel (by omega) (show (mw ac adr (va_up sf 0 0) af) 0 = .inr (8, mfs adr (va_up sf 0 0)) from rfl)) 22 (by decide) (hts _ (by decide +kernel)) rfl dX8_translate_88 ?_
                        refine lv_bipush (v := 8) hx hb dX8_translate_91 (by decide) ?_
                        refine lv_iload hx hb dX8_translate_93 (lv_at hl 0 rfl) ?_
                        refine lv_imul hx hb dX8_translate_95 ?_
                        refine m_top (show (8 * (nI o)) = nI (8 * o) from by rw [show (8 : Int32) = nI 8 from rfl, pk_mul]) ?_
                        refine lv_iload_n hx hb dX8_translate_96 rfl (lv_at hl 4 rfl) ?_
                        refine lv_iadd hx hb dX8_translate_97 ?_
                        refine m_top (show ((nI (8 * o)) + (nI k_y)) = nI (8 * o + k_y) from nI_add _ _) ?_
                        refine lv_iload_n hx hb dX8_translate_98 rfl (lv_at hl 5 rfl) ?_
                        refine m_iast hx hb hK hM hS 14 (by omega) (show (mw ac adr (va_up sf 0 0) af) 14 = .inl (ac 0, 480, .inl (af 14)) from rfl) (vp_in_nI (by omega) (by decide)) dX8_translate_99 (fun H locs hM hS => ?_)
                        have ef_ : (upd (af 14) (nI (8 * o + k_y)).toNatClampNeg z) = upd (af 14) (8 * o + k_y) z := by rw [nI_clamp (by omega)]
                        rw [ef_] at hM
                        clear ef_
                        have hM := MW.marr (a1 := (va_up af 14 (upd (af 14) (8 * o + k_y) z))) hM (by decide) rfl rfl (fun j9 hj9 => by simp only [va_up, if_neg hj9])
                        refine lv_aload_n hx hb dX8_translate_100 rfl (lv_at hl 2 rfl) ?_
                        refine lv_iload hx hb dX8_translate_101 (lv_at hl 0 rfl) ?_
                        refine r_calli (va_runV (As := [.int (nI o)]) (rest := []) ⟨hx, hb, hml, hown, hts⟩ (k_X8_open l D ac _ A adr (va_up sf 0 0) (va_up af 14 (upd (af 14) (8 * o + k_y) z)) hM no oc on_ owd rb st (ho.t rfl rfl rfl rfl rfl rfl) o ho9 (upd (obf o) k_y z) (fun j9 hj9 => upd_blk ((hk k_x o b_x eh).2 j9 hj9))) (cwV 1 hts gX8_translate_X8_open rfl rfl rfl (by decide +kernel) ⟨Nat.le_of_ble_eq_true rfl, Nat.le_of_ble_eq_true rfl⟩) (pV hK (ci := 8) rfl (hM.cel (by omega) (show (mw ac adr (va_up sf 0 0) (va_up af 14 (upd (af 14) (8 * o + k_y) z))) 0 = .inr (8, mfs adr (va_up sf 0 0)) from rfl))) rfl rfl hl.1 rfl (lv_room (Nat.le_of_ble_eq_true rfl)) dX8_translate_103 ⟨Nat.le_of_ble_eq_true rfl, Nat.le_of_ble_eq_true rfl⟩) hS (fun rv_21 locs hrv_21 hS => ?_)
                        subst hrv_21
                        rw [hQ0]
                        exact e_wi hx hb hlocks hr dX8_translate_106 hM hS (MPo.ok (by simp [cd1, cd2, cd3, hi_x, hi_z, eh, hi_y] : cd3 ((ix z 100).isNone || (ix (nI k_x) 4).isNone) ((ix (nI k_x) 4).bind hd).isNone (((ix (nI k_x) 4).bind hd).elim true (fun o => (ix (nI k_y) (on_ o)).isNone)) = 0) rfl ⟨k_x, o, k_y, b_x, rfl, eh, b_y, rfl, by rw [hi_z]; rfl, rfl, rfl, rfl⟩)
                      · exact absurd c82 (by decide)
                · exact absurd c53 (nI_m1 (by omega))
              · exact absurd c43 (by decide)
set_option maxHeartbeats 4000000 in
set_option maxRecDepth 100000 in
/-- X8_became -/
theorem k_X8_became (l : Launch) (D : va_G) (ac : Nat → ClassId) (H : Heap) (A : Nat → Prop) (adr : Nat → Nat) (sf : Nat → Int32) (af : Nat → Nat → Int32) (hM : MW D A 24 adr (mw ac adr sf af) H) (no : Nat) (oc on_ : Nat → Nat) (owd : Nat → Nat → Nat) (rb st : Nat → Int32) (ho : MOrd sf af no oc on_ owd rb st) (hd : Nat → Option Nat) (hh : MHan af no hd) (obf : Nat → Nat → Int32) (mt co py : Nat → Int32) (hk : MTak af hd on_ obf mt co py) (x y : Int32) : WRi l yX8_became wsX8_became ({ frames := 1, cells := 0, slots := 0, locals := 23 }) [.ref (adr 0), .int x, .int y] D ac H A 24 adr (MPo ac adr sf af (cd3 (ix x 4).isNone ((ix x 4).bind hd).isNone (((ix x 4).bind hd).elim true (fun o => (ix y (on_ o)).isNone))) (fun r s1 a1 => ∃ o k, (ix x 4).bind hd = some o ∧ k < on_ o ∧ y = nI k ∧ r = obf o k ∧ Scr sf af s1 a1)) := by
  refine Met.ofW (cc := cX8_became) (maxL := 5) (ret := (some .int)) (by decide) rfl ?_
  intro p e s m args below meth c s₁ B hml hv
  obtain ⟨hargs, hsz, hK⟩ := hv
  have hx := B.exec
  have hb := B.bytes
  have hr := B.returns
  have hts := atoms_spec (ws := wsX8_became) B.pre
  have hown : s.vm.findClass RX8 = some m.cls := findClass_of_methodNamed B.named
  have hlocks := B.notSynchronized
  subst hsz
  have inX8_ : ∀ w ∈ wsX80, w ∈ wsX8_became := by decide +kernel
  have hS : va_S A s.heap s.heap [] := va_S.rf
  have hl := lv_entry ([.ref (adr 0), .int x, .int y]) (n := 5) (Nat.le_of_ble_eq_true rfl)
  have hen := lg_entry_eq m [.ref (adr 0), .int x, .int y] 5
  rw [← hargs] at hen
  rw [hen]
  generalize (lg_sl ([.ref (adr 0), .int x, .int y]) ++ List.replicate (5 - (lg_sl ([.ref (adr 0), .int x, .int y])).length) Slot.unset).toArray = ls at hl ⊢
  have hl : lv_has ls 5 [(0, .ref (adr 0)), (1, .int x), (2, .int y)] := hl
  obtain ⟨Q0, hQ0⟩ : ∃ z0_, z0_ = MQ below (va_Qi (MPo ac adr sf af (cd3 (ix x 4).isNone ((ix x 4).bind hd).isNone (((ix x 4).bind hd).elim true (fun o => (ix y (on_ o)).isNone))) (fun r s1 a1 => ∃ o k, (ix x 4).bind hd = some o ∧ k < on_ o ∧ y = nI k ∧ r = obf o k ∧ Scr sf af s1 a1)) (fun c t => MW D A 24 adr c t.heap) A) args s 0 0 A := ⟨_, rfl⟩
  rw [← hQ0]
  have h60 := ho.2.1
  refine lv_iload_n hx hb dX8_became_0 rfl (lv_at hl 1 rfl) ?_
  refine lv_iconst (v := 4) hx hb dX8_became_1 (by decide) ?_
  refine m_top (show (4 : Int32) = nI 4 from rfl) ?_
  refine r_calli (va_runS (As := [.int x, .int (nI 4)]) (rest := []) ⟨hx, hb, hml, hown, hts⟩ (k_X8_isIn l D ac _ x 4 (by omega)) (va_cwS 2 hts gX8_became_X8_isIn rfl rfl rfl (by decide +kernel) ⟨Nat.le_of_ble_eq_true rfl, Nat.le_of_ble_eq_true rfl⟩) (pS hK) rfl rfl hl.1 rfl (lv_room (Nat.le_of_ble_eq_true rfl)) dX8_became_2 ⟨Nat.le_of_ble_eq_true rfl, Nat.le_of_ble_eq_true rfl⟩) hS (fun rv_1 locs hrv_1 hS => ?_)
  subst hrv_1
  rcases hi_x : ix x 4 with _ | k_x
  · refine m_top (show _ = (0 : Int32) from rfl) ?_
    refine lv_istore_n (lv' := [(3, .int 0), (0, .ref (adr 0)), (1, .int x), (2, .int y)]) hx hb dX8_became_5 rfl hl (by decide) rfl (fun ls hl => ?_)
    refine lv_iload_n hx hb dX8_became_6 rfl (lv_at hl 0 rfl) ?_
    refine lv_if_eq (tgt := 18) hx hb dX8_became_7 (by decide) (fun c7 => ?_) (fun c7 => ?_)
    · refine lv_iconst (v := (-1)) hx hb dX8_became_18 (by decide) ?_
      refine lv_istore (lv' := [(4, .int (-1)), (3, .int 0), (0, .ref (adr 0)), (1, .int x), (2, .int y)]) hx hb dX8_became_19 hl (by decide) rfl (fun ls hl => ?_)
      refine lv_aload_n hx hb dX8_became_21 rfl (lv_at hl 2 rfl) ?_
      refine lv_iload_n hx hb dX8_became_22 rfl (lv_at hl 1 rfl) ?_
      refine lv_if_ne (tgt := 30) hx hb dX8_became_23 (by decide) (fun c23 => ?_) (fun c23 => ?_)
      · exact absurd c23 (by decide)
      · refine lv_iconst (v := 1) hx hb dX8_became_26 (by decide) ?_
        refine lv_goto (tgt := 59) hx hb dX8_became_27 (by decide) ?_
        refine w_calli (va_runV (As := [.int 1]) (rest := []) ⟨hx, hb, hml, hown, hts⟩ (k_X8_holds l D ac _ A adr sf af hM 1) (cwV 1 hts gX8_became_X8_holds rfl rfl rfl (by decide +kernel) ⟨Nat.le_of_ble_eq_true rfl, Nat.le_of_ble_eq_true rfl⟩) (pV hK (ci := 8) rfl (hM.cel (by omega) (show (mw ac adr sf af) 0 = .inr (8, mfs adr sf) from rfl))) rfl rfl hl.1 rfl (lv_room (Nat.le_of_ble_eq_true rfl)) dX8_became_59 ⟨Nat.le_of_ble_eq_true rfl, Nat.le_of_ble_eq_true rfl⟩) hS (fun rv_2 w_3 H locs hw_3 hM hS => ?_)
        obtain ⟨hrv_2, he_4⟩ := hw_3
        rw [he_4] at hM
        have hM := (MW.cg (s1 := (va_up sf 0 1)) (a1 := af) hM (fun j9 => if q0_ : j9 = 0 then (by subst q0_; rfl) else (by first | rfl | simp only [va_up, if_neg q0_])) (fun _ => rfl))
        subst hrv_2
        refine m_top (show _ = (0 : Int32) from rfl) ?_
        refine lv_if_ne (tgt := 67) hx hb dX8_became_62 (by decide) (fun c62 => ?_) (fun c62 => ?_)
        · exact absurd c62 (by decide)
        · refine lv_iconst (v := 0) hx hb dX8_became_65 (by decide) ?_
          rw [hQ0]
          exact e_wi hx hb hlocks hr dX8_became_66 hM hS (MPo.no (c := 1) (by simp [cd1, cd2, cd3, hi_x] : cd3 (ix x 4).isNone ((ix x 4).bind hd).isNone (((ix x 4).bind hd).elim true (fun o => (ix y (on_ o)).isNone)) = 1) (by decide) rfl ⟨fun k9 u1_ u2_ => by first | rfl | simp only [va_up, if_neg u1_, if_neg u2_], fun k9 u1_ u2_ => by first | rfl | simp only [va_up, if_neg u1_, if_neg u2_]⟩)
    · exact absurd c7 (by decide)
  · obtain ⟨b_x, e_x⟩ := ix_of hi_x (by omega)
    refine m_top (show _ = (1 : Int32) from rfl) ?_
    subst e_x
    refine lv_istore_n (lv' := [(3, .int 1), (0, .ref (adr 0)), (1, .int (nI k_x)), (2, .int y)]) hx hb dX8_became_5 rfl hl (by decide) rfl (fun ls hl => ?_)
    refine lv_iload_n hx hb dX8_became_6 rfl (lv_at hl 0 rfl) ?_
    refine lv_if_eq (tgt := 18) hx hb dX8_became_7 (by decide) (fun c7 => ?_) (fun c7 => ?_)
    · exact absurd c7 (by decide)
    · refine lv_aload_n hx hb dX8_became_10 rfl (lv_at hl 1 rfl) ?_
      refine lv_iload_n hx hb dX8_became_11 rfl (lv_at hl 2 rfl) ?_
      refine r_calli (va_runV (As := [.int (nI k_x)]) (rest := []) ⟨hx, hb, hml, hown, hts⟩ (k_X8_orderOf l D ac _ A adr sf af hM no ho.1 ho.2.1 (nI k_x)) (cwV 1 hts gX8_became_X8_orderOf rfl rfl rfl (by decide +kernel) ⟨Nat.le_of_ble_eq_true rfl, Nat.le_of_ble_eq_true rfl⟩) (pV hK (ci := 8) rfl (hM.cel (by omega) (show (mw ac adr sf af) 0 = .inr (8, mfs adr sf) from rfl))) rfl rfl hl.1 rfl (lv_room (Nat.le_of_ble_eq_true rfl)) dX8_became_12 ⟨Nat.le_of_ble_eq_true rfl, Nat.le_of_ble_eq_true rfl⟩) hS (fun rv_5 locs hrv_5 hS => ?_)
      subst hrv_5
      rcases eh : hd k_x with _ | o
      · refine m_top (show (loF (af 11) (nI k_x) no) = (-1 : Int32) from by rw [(hh k_x b_x).1, eh]; rfl) ?_
        refine lv_goto (tgt := 19) hx hb dX8_became_15 (by decide) ?_
        refine lv_istore (lv' := [(4, .int (-1)), (3, .int 1), (0, .ref (adr 0)), (1, .int (nI k_x)), (2, .int y)]) hx hb dX8_became_19 hl (by decide) rfl (fun ls hl => ?_)
        refine lv_aload_n hx hb dX8_became_21 rfl (lv_at hl 2 rfl) ?_
        refine lv_iload_n hx hb dX8_became_22 rfl (lv_at hl 1 rfl) ?_
        refine lv_if_ne (tgt := 30) hx hb dX8_became_23 (by decide) (fun c23 => ?_) (fun c23 => ?_)
        · refine lv_iload hx hb dX8_became_30 (lv_at hl 0 rfl) ?_
          refine lv_iconst (v := (-1)) hx hb dX8_became_32 (by decide) ?_
          refine lv_icmp_ne (tgt := 40) hx hb dX8_became_33 (by decide) (fun c33 => ?_) (fun c33 => ?_)
          · exact absurd c33 (by decide)
          · refine lv_iconst (v := 2) hx hb dX8_became_36 (by decide) ?_
            refine lv_goto (tgt := 59) hx hb dX8_became_37 (by decide) ?_
            refine w_calli (va_runV (As := [.int 2]) (rest := []) ⟨hx, hb, hml, hown, hts⟩ (k_X8_holds l D ac _ A adr sf af hM 2) (cwV 1 hts gX8_became_X8_holds rfl rfl rfl (by decide +kernel) ⟨Nat.le_of_ble_eq_true rfl, Nat.le_of_ble_eq_true rfl⟩) (pV hK (ci := 8) rfl (hM.cel (by omega) (show (mw ac adr sf af) 0 = .inr (8, mfs adr sf) from rfl))) rfl rfl hl.1 rfl (lv_room (Nat.le_of_ble_eq_true rfl)) dX8_became_59 ⟨Nat.le_of_ble_eq_true rfl, Nat.le_of_ble_eq_true rfl⟩) hS (fun rv_6 w_7 H locs hw_7 hM hS => ?_)
            obtain ⟨hrv_6, he_8⟩ := hw_7
            rw [he_8] at hM
            have hM := (MW.cg (s1 := (va_up sf 0 2)) (a1 := af) hM (fun j9 => if q0_ : j9 = 0 then (by subst q0_; rfl) else (by first | rfl | simp only [va_up, if_neg q0_])) (fun _ => rfl))
            subst hrv_6
            refine m_top (show _ = (0 : Int32) from rfl) ?_
            refine lv_if_ne (tgt := 67) hx hb dX8_became_62 (by decide) (fun c62 => ?_) (fun c62 => ?_)
            · exact absurd c62 (by decide)
            · refine lv_iconst (v := 0) hx hb dX8_became_65 (by decide) ?_
              rw [hQ0]
              exact e_wi hx hb hlocks hr dX8_became_66 hM hS (MPo.no (c := 2) (by simp [cd1, cd2, cd3, hi_x, eh] : cd3 (ix (nI k_x) 4).isNone ((ix (nI k_x) 4).bind hd).isNone (((ix (nI k_x) 4).bind hd).elim true (fun o => (ix y (on_ o)).isNone)) = 2) (by decide) rfl ⟨fun k9 u1_ u2_ => by first | rfl | simp only [va_up, if_neg u1_, if_neg u2_], fun k9 u1_ u2_ => by first | rfl | simp only [va_up, if_neg u1_, if_neg u2_]⟩)
        · exact absurd c23 (by decide)
      · have ho9 := (hh k_x b_x).2 o eh
        obtain ⟨o1_, o2_, ⟨o3_, o4_, o5_⟩, ⟨o6_, o7_⟩, o8_⟩ := ho.2.2 o ho9
        refine m_top (show (loF (af 11) (nI k_x) no) = nI o from by rw [(hh k_x b_x).1, eh]; rfl) ?_
        refine lv_goto (tgt := 19) hx hb dX8_became_15 (by decide) ?_
        refine lv_istore (lv' := [(4, .int (nI o)), (3, .int 1), (0, .ref (adr 0)), (1, .int (nI k_x)), (2, .int y)]) hx hb dX8_became_19 hl (by decide) rfl (fun ls hl => ?_)
        refine lv_aload_n hx hb dX8_became_21 rfl (lv_at hl 2 rfl) ?_
        refine lv_iload_n hx hb dX8_became_22 rfl (lv_at hl 1 rfl) ?_
        refine lv_if_ne (tgt := 30) hx hb dX8_became_23 (by decide) (fun c23 => ?_) (fun c23 => ?_)
        · refine lv_iload hx hb dX8_became_30 (lv_at hl 0 rfl) ?_
          refine lv_iconst (v := (-1)) hx hb dX8_became_32 (by decide) ?_
          refine lv_icmp_ne (tgt := 40) hx hb dX8_became_33 (by decide) (fun c33 => ?_) (fun c33 => ?_)
          · refine lv_iload_n hx hb dX8_became_40 rfl (lv_at hl 4 rfl) ?_
            refine lv_aload_n hx hb dX8_became_41 rfl (lv_at hl 2 rfl) ?_
            refine m_get (ci := 8) (C := RX8) (T := TX8) (n := 35) (v := .ref (adr 8)) hx hb hts inX8_ hown hK rfl (hM.cel (by omega) (show (mw ac adr sf af) 0 = .inr (8, mfs adr sf) from rfl)) 14 (by decide) (hts _ (by decide +kernel)) rfl dX8_became_42 ?_
            refine lv_iload hx hb dX8_became_45 (lv_at hl 0 rfl) ?_
            refine m_iald hx hb hK (hM.cel (by omega) (show (mw ac adr sf af) 8 = .inl (ac 0, 60, .inl (af 8)) from rfl)) (vp_in_nI (by omega) (by decide)) dX8_became_47 ?_
            refine m_top (show ((af 8) (nI o).toNatClampNeg) = nI (on_ o) from by rw [nI_clamp (by omega)]; exact o2_) ?_
            refine r_calli (va_runS (As := [.int y, .int (nI (on_ o))]) (rest := [.ref (adr 0)]) ⟨hx, hb, hml, hown, hts⟩ (k_X8_isIn l D ac _ y ((on_ o)) (by omega)) (va_cwS 2 hts gX8_became_X8_isIn rfl rfl rfl (by decide +kernel) ⟨Nat.le_of_ble_eq_true rfl, Nat.le_of_ble_eq_true rfl⟩) (pS hK) rfl rfl hl.1 rfl (lv_room (Nat.le_of_ble_eq_true rfl)) dX8_became_48 ⟨Nat.le_of_ble_eq_true rfl, Nat.le_of_ble_eq_true rfl⟩) hS (fun rv_9 locs hrv_9 hS => ?_)
            subst hrv_9
            rcases hi_y : ix y (on_ o) with _ | k_y
            · refine m_top (show _ = (0 : Int32) from rfl) ?_
              refine lv_if_eq (tgt := 58) hx hb dX8_became_51 (by decide) (fun c51 => ?_) (fun c51 => ?_)
              · refine lv_iconst (v := 3) hx hb dX8_became_58 (by decide) ?_
                refine w_calli (va_runV (As := [.int 3]) (rest := []) ⟨hx, hb, hml, hown, hts⟩ (k_X8_holds l D ac _ A adr sf af hM 3) (cwV 1 hts gX8_became_X8_holds rfl rfl rfl (by decide +kernel) ⟨Nat.le_of_ble_eq_true rfl, Nat.le_of_ble_eq_true rfl⟩) (pV hK (ci := 8) rfl (hM.cel (by omega) (show (mw ac adr sf af) 0 = .inr (8, mfs adr sf) from rfl))) rfl rfl hl.1 rfl (lv_room (Nat.le_of_ble_eq_true rfl)) dX8_became_59 ⟨Nat.le_of_ble_eq_true rfl, Nat.le_of_ble_eq_true rfl⟩) hS (fun rv_10 w_11 H locs hw_11 hM hS => ?_)
                obtain ⟨hrv_10, he_12⟩ := hw_11
                rw [he_12] at hM
                have hM := (MW.cg (s1 := (va_up sf 0 3)) (a1 := af) hM (fun j9 => if q0_ : j9 = 0 then (by subst q0_; rfl) else (by first | rfl | simp only [va_up, if_neg q0_])) (fun _ => rfl))
                subst hrv_10
                refine m_top (show _ = (0 : Int32) from rfl) ?_
                refine lv_if_ne (tgt := 67) hx hb dX8_became_62 (by decide) (fun c62 => ?_) (fun c62 => ?_)
                · exact absurd c62 (by decide)
                · refine lv_iconst (v := 0) hx hb dX8_became_65 (by decide) ?_
                  rw [hQ0]
                  exact e_wi hx hb hlocks hr dX8_became_66 hM hS (MPo.no (c := 3) (by simp [cd1, cd2, cd3, hi_x, eh, hi_y] : cd3 (ix (nI k_x) 4).isNone ((ix (nI k_x) 4).bind hd).isNone (((ix (nI k_x) 4).bind hd).elim true (fun o => (ix y (on_ o)).isNone)) = 3) (by decide) rfl ⟨fun k9 u1_ u2_ => by first | rfl | simp only [va_up, if_neg u1_, if_neg u2_], fun k9 u1_ u2_ => by first | rfl | simp only [va_up, if_neg u1_, if_neg u2_]⟩)
              · exact absurd c51 (by decide)
            · obtain ⟨b_y, e_y⟩ := ix_of hi_y (by omega)
              refine m_top (show _ = (1 : Int32) from rfl) ?_
              subst e_y
              refine lv_if_eq (tgt := 58) hx hb dX8_became_51 (by decide) (fun c51 => ?_) (fun c51 => ?_)
              · exact absurd c51 (by decide)
              · refine lv_iconst (v := 0) hx hb dX8_became_54 (by decide) ?_
                refine lv_goto (tgt := 59) hx hb dX8_became_55 (by decide) ?_
                refine w_calli (va_runV (As := [.int 0]) (rest := []) ⟨hx, hb, hml, hown, hts⟩ (k_X8_holds l D ac _ A adr sf af hM 0) (cwV 1 hts gX8_became_X8_holds rfl rfl rfl (by decide +kernel) ⟨Nat.le_of_ble_eq_true rfl, Nat.le_of_ble_eq_true rfl⟩) (pV hK (ci := 8) rfl (hM.cel (by omega) (show (mw ac adr sf af) 0 = .inr (8, mfs adr sf) from rfl))) rfl rfl hl.1 rfl (lv_room (Nat.le_of_ble_eq_true rfl)) dX8_became_59 ⟨Nat.le_of_ble_eq_true rfl, Nat.le_of_ble_eq_true rfl⟩) hS (fun rv_13 w_14 H locs hw_14 hM hS => ?_)
                obtain ⟨hrv_13, he_15⟩ := hw_14
                rw [he_15] at hM
                have hM := (MW.cg (s1 := (va_up sf 0 0)) (a1 := af) hM (fun j9 => if q0_ : j9 = 0 then (by subst q0_; rfl) else (by first | rfl | simp only [va_up, if_neg q0_])) (fun _ => rfl))
                subst hrv_13
                refine m_top (show _ = (1 : Int32) from rfl) ?_
                refine lv_if_ne (tgt := 67) hx hb dX8_became_62 (by decide) (fun c62 => ?_) (fun c62 => ?_)
                · refine lv_aload_n hx hb dX8_became_67 rfl (lv_at hl 2 rfl) ?_
                  refine m_get (ci := 8) (C := RX8) (T := TX8) (n := 35) (v := .ref (adr 14)) hx hb hts inX8_ hown hK rfl (hM.cel (by omega) (show (mw ac adr (va_up sf 0 0) af) 0 = .inr (8, mfs adr (va_up sf 0 0)) from rfl)) 22 (by decide) (hts _ (by decide +kernel)) rfl dX8_became_68 ?_
                  refine lv_bipush (v := 8) hx hb dX8_became_71 (by decide) ?_
                  refine lv_iload hx hb dX8_became_73 (lv_at hl 0 rfl) ?_
                  refine lv_imul hx hb dX8_became_75 ?_
                  refine m_top (show (8 * (nI o)) = nI (8 * o) from by rw [show (8 : Int32) = nI 8 from rfl, pk_mul]) ?_
                  refine lv_iload_n hx hb dX8_became_76 rfl (lv_at hl 4 rfl) ?_
                  refine lv_iadd hx hb dX8_became_77 ?_
                  refine m_top (show ((nI (8 * o)) + (nI k_y)) = nI (8 * o + k_y) from nI_add _ _) ?_
                  refine m_iald hx hb hK (hM.cel (by omega) (show (mw ac adr (va_up sf 0 0) af) 14 = .inl (ac 0, 480, .inl (af 14)) from rfl)) (vp_in_nI (by omega) (by decide)) dX8_became_78 ?_
                  refine m_top (show ((af 14) (nI (8 * o + k_y)).toNatClampNeg) = obf o k_y from by rw [nI_clamp (by omega)]; exact (hk k_x o b_x eh).2 _ b_y) ?_
                  rw [hQ0]
                  exact e_wi hx hb hlocks hr dX8_became_79 hM hS (MPo.ok (by simp [cd1, cd2, cd3, hi_x, eh, hi_y] : cd3 (ix (nI k_x) 4).isNone ((ix (nI k_x) 4).bind hd).isNone (((ix (nI k_x) 4).bind hd).elim true (fun o => (ix (nI k_y) (on_ o)).isNone)) = 0) rfl ⟨o, k_y, by rw [hi_x]; exact eh, b_y, rfl, rfl, ⟨fun k9 u1_ u2_ => by first | rfl | simp only [va_up, if_neg u1_, if_neg u2_], fun k9 u1_ u2_ => by first | rfl | simp only [va_up, if_neg u1_, if_neg u2_]⟩⟩)
                · exact absurd c62 (by decide)
          · exact absurd c33 (nI_m1 (by omega))
        · exact absurd c23 (by decide)
set_option maxHeartbeats 4000000 in
set_option maxRecDepth 100000 in
/-- X8_orderAt -/
theorem k_X8_orderAt (l : Launch) (D : va_G) (ac : Nat → ClassId) (H : Heap) (A : Nat → Prop) (adr : Nat → Nat) (sf : Nat → Int32) (af : Nat → Nat → Int32) (hM : MW D A 24 adr (mw ac adr sf af) H) (no : Nat) (oc on_ : Nat → Nat) (owd : Nat → Nat → Nat) (rb st : Nat → Int32) (ho : MOrd sf af no oc on_ owd rb st) (x : Int32) : WRi l yX8_orderAt wsX8_orderAt ({ frames := 1, cells := 0, slots := 0, locals := 21 }) [.ref (adr 0), .int x] D ac H A 24 adr (MPo ac adr sf af (cd1 (ix x no).isNone) (fun r s1 a1 => ∃ i, i < no ∧ x = nI i ∧ r = st i ∧ Scr sf af s1 a1)) := by
  refine Met.ofW (cc := cX8_orderAt) (maxL := 2) (ret := (some .int)) (by decide) rfl ?_
  intro p e s m args below meth c s₁ B hml hv
  obtain ⟨hargs, hsz, hK⟩ := hv
  have hx := B.exec
  have hb := B.bytes
  have hr := B.returns
  have hts := atoms_spec (ws := wsX8_orderAt) B.pre
  have hown : s.vm.findClass RX8 = some m.cls := findClass_of_methodNamed B.named
  have hlocks := B.notSynchronized
  subst hsz
  have inX8_ : ∀ w ∈ wsX80, w ∈ wsX8_orderAt := by decide +kernel
  have hS : va_S A s.heap s.heap [] := va_S.rf
  have hl := lv_entry ([.ref (adr 0), .int x]) (n := 2) (Nat.le_of_ble_eq_true rfl)
  have hen := lg_entry_eq m [.ref (adr 0), .int x] 2
  rw [← hargs] at hen
  rw [hen]
  generalize (lg_sl ([.ref (adr 0), .int x]) ++ List.replicate (2 - (lg_sl ([.ref (adr 0), .int x])).length) Slot.unset).toArray = ls at hl ⊢
  have hl : lv_has ls 2 [(0, .ref (adr 0)), (1, .int x)] := hl
  obtain ⟨Q0, hQ0⟩ : ∃ z0_, z0_ = MQ below (va_Qi (MPo ac adr sf af (cd1 (ix x no).isNone) (fun r s1 a1 => ∃ i, i < no ∧ x = nI i ∧ r = st i ∧ Scr sf af s1 a1)) (fun c t => MW D A 24 adr c t.heap) A) args s 0 0 A := ⟨_, rfl⟩
  rw [← hQ0]
  have h60 := ho.2.1
  refine lv_aload_n hx hb dX8_orderAt_0 rfl (lv_at hl 0 rfl) ?_
  refine lv_iload_n hx hb dX8_orderAt_1 rfl (lv_at hl 1 rfl) ?_
  refine lv_aload_n hx hb dX8_orderAt_2 rfl (lv_at hl 0 rfl) ?_
  refine m_get (ci := 8) (C := RX8) (T := TX8) (n := 35) (v := .int (sf 6)) hx hb hts inX8_ hown hK rfl (hM.cel (by omega) (show (mw ac adr sf af) 0 = .inr (8, mfs adr sf) from rfl)) 12 (by decide) (hts _ (by decide +kernel)) rfl dX8_orderAt_3 ?_
  refine m_top (show (sf 6) = nI no from ho.1) ?_
  refine r_calli (va_runS (As := [.int x, .int (nI no)]) (rest := [.ref (adr 0)]) ⟨hx, hb, hml, hown, hts⟩ (k_X8_isIn l D ac _ x no (by omega)) (va_cwS 2 hts gX8_orderAt_X8_isIn rfl rfl rfl (by decide +kernel) ⟨Nat.le_of_ble_eq_true rfl, Nat.le_of_ble_eq_true rfl⟩) (pS hK) rfl rfl hl.1 rfl (lv_room (Nat.le_of_ble_eq_true rfl)) dX8_orderAt_6 ⟨Nat.le_of_ble_eq_true rfl, Nat.le_of_ble_eq_true rfl⟩) hS (fun rv_1 locs hrv_1 hS => ?_)
  subst hrv_1
  rcases hi_x : ix x no with _ | k_x
  · refine m_top (show _ = (0 : Int32) from rfl) ?_
    refine lv_if_eq (tgt := 16) hx hb dX8_orderAt_9 (by decide) (fun c9 => ?_) (fun c9 => ?_)
    · refine lv_iconst (v := 1) hx hb dX8_orderAt_16 (by decide) ?_
      refine w_calli (va_runV (As := [.int 1]) (rest := []) ⟨hx, hb, hml, hown, hts⟩ (k_X8_holds l D ac _ A adr sf af hM 1) (cwV 1 hts gX8_orderAt_X8_holds rfl rfl rfl (by decide +kernel) ⟨Nat.le_of_ble_eq_true rfl, Nat.le_of_ble_eq_true rfl⟩) (pV hK (ci := 8) rfl (hM.cel (by omega) (show (mw ac adr sf af) 0 = .inr (8, mfs adr sf) from rfl))) rfl rfl hl.1 rfl (lv_room (Nat.le_of_ble_eq_true rfl)) dX8_orderAt_17 ⟨Nat.le_of_ble_eq_true rfl, Nat.le_of_ble_eq_true rfl⟩) hS (fun rv_2 w_3 H locs hw_3 hM hS => ?_)
      obtain ⟨hrv_2, he_4⟩ := hw_3
      rw [he_4] at hM
      have hM := (MW.cg (s1 := (va_up sf 0 1)) (a1 := af) hM (fun j9 => if q0_ : j9 = 0 then (by subst q0_; rfl) else (by first | rfl | simp only [va_up, if_neg q0_])) (fun _ => rfl))
      subst hrv_2
      refine m_top (show _ = (0 : Int32) from rfl) ?_
      refine lv_if_eq (tgt := 32) hx hb dX8_orderAt_20 (by decide) (fun c20 => ?_) (fun c20 => ?_)
      · refine lv_iconst (v := 0) hx hb dX8_orderAt_32 (by decide) ?_
        rw [hQ0]
        exact e_wi hx hb hlocks hr dX8_orderAt_33 hM hS (MPo.no (c := 1) (by simp [cd1, cd2, cd3, hi_x] : cd1 (ix x no).isNone = 1) (by decide) rfl ⟨fun k9 u1_ u2_ => by first | rfl | simp only [va_up, if_neg u1_, if_neg u2_], fun k9 u1_ u2_ => by first | rfl | simp only [va_up, if_neg u1_, if_neg u2_]⟩)
      · exact absurd c20 (by decide)
    · exact absurd c9 (by decide)
  · obtain ⟨b_x, e_x⟩ := ix_of hi_x (by omega)
    refine m_top (show _ = (1 : Int32) from rfl) ?_
    subst e_x
    refine lv_if_eq (tgt := 16) hx hb dX8_orderAt_9 (by decide) (fun c9 => ?_) (fun c9 => ?_)
    · exact absurd c9 (by decide)
    · refine lv_iconst (v := 0) hx hb dX8_orderAt_12 (by decide) ?_
      refine lv_goto (tgt := 17) hx hb dX8_orderAt_13 (by decide) ?_
      refine w_calli (va_runV (As := [.int 0]) (rest := []) ⟨hx, hb, hml, hown, hts⟩ (k_X8_holds l D ac _ A adr sf af hM 0) (cwV 1 hts gX8_orderAt_X8_holds rfl rfl rfl (by decide +kernel) ⟨Nat.le_of_ble_eq_true rfl, Nat.le_of_ble_eq_true rfl⟩) (pV hK (ci := 8) rfl (hM.cel (by omega) (show (mw ac adr sf af) 0 = .inr (8, mfs adr sf) from rfl))) rfl rfl hl.1 rfl (lv_room (Nat.le_of_ble_eq_true rfl)) dX8_orderAt_17 ⟨Nat.le_of_ble_eq_true rfl, Nat.le_of_ble_eq_true rfl⟩) hS (fun rv_5 w_6 H locs hw_6 hM hS => ?_)
      obtain ⟨hrv_5, he_7⟩ := hw_6
      rw [he_7] at hM
      have hM := (MW.cg (s1 := (va_up sf 0 0)) (a1 := af) hM (fun j9 => if q0_ : j9 = 0 then (by subst q0_; rfl) else (by first | rfl | simp only [va_up, if_neg q0_])) (fun _ => rfl))
      subst hrv_5
      refine m_top (show _ = (1 : Int32) from rfl) ?_
      refine lv_if_eq (tgt := 32) hx hb dX8_orderAt_20 (by decide) (fun c20 => ?_) (fun c20 => ?_)
      · exact absurd c20 (by decide)
      · refine lv_aload_n hx hb dX8_orderAt_23 rfl (lv_at hl 0 rfl) ?_
        refine m_get (ci := 8) (C := RX8) (T := TX8) (n := 35) (v := .ref (adr 11)) hx hb hts inX8_ hown hK rfl (hM.cel (by omega) (show (mw ac adr (va_up sf 0 0) af) 0 = .inr (8, mfs adr (va_up sf 0 0)) from rfl)) 17 (by decide) (hts _ (by decide +kernel)) rfl dX8_orderAt_24 ?_
        refine lv_iload_n hx hb dX8_orderAt_27 rfl (lv_at hl 1 rfl) ?_
        refine m_iald hx hb hK (hM.cel (by omega) (show (mw ac adr (va_up sf 0 0) af) 11 = .inl (ac 0, 60, .inl (af 11)) from rfl)) (vp_in_nI (by omega) (by decide)) dX8_orderAt_28 ?_
        refine m_top (show ((af 11) (nI k_x).toNatClampNeg) = st k_x from by rw [nI_clamp (by omega)]; exact (ho.2.2 _ b_x).2.2.2.1.2) ?_
        refine lv_goto (tgt := 33) hx hb dX8_orderAt_29 (by decide) ?_
        rw [hQ0]
        exact e_wi hx hb hlocks hr dX8_orderAt_33 hM hS (MPo.ok (by simp [cd1, cd2, cd3, hi_x] : cd1 (ix (nI k_x) no).isNone = 0) rfl ⟨k_x, b_x, rfl, rfl, ⟨fun k9 u1_ u2_ => by first | rfl | simp only [va_up, if_neg u1_, if_neg u2_], fun k9 u1_ u2_ => by first | rfl | simp only [va_up, if_neg u1_, if_neg u2_]⟩⟩)
def wtF (st rb : Nat → Int32) (b : Int32) : Nat → Nat
  | 0 => 0
  | i + 1 => wtF st rb b i + (if st i = -1 ∧ rb i = b then 1 else 0)
theorem wtF_y {st rb : Nat → Int32} {b : Int32} {i : Nat} (h : st i = -1) (h2 : rb i = b) : wtF st rb b (i + 1) = wtF st rb b i + 1 := by simp only [wtF]; rw [if_pos ⟨h, h2⟩]
theorem wtF_n {st rb : Nat → Int32} {b : Int32} {i : Nat} (h : ¬ st i = -1 ∨ ¬ rb i = b) : wtF st rb b (i + 1) = wtF st rb b i := by simp only [wtF]; rw [if_neg (fun q => h.elim (fun z => z q.1) (fun z => z q.2))]; rfl
set_option maxHeartbeats 4000000 in
set_option maxRecDepth 100000 in
/-- X8_waiting -/
theorem k_X8_waiting (l : Launch) (D : va_G) (ac : Nat → ClassId) (H : Heap) (A : Nat → Prop) (adr : Nat → Nat) (sf : Nat → Int32) (af : Nat → Nat → Int32) (hM : MW D A 24 adr (mw ac adr sf af) H) (no : Nat) (oc on_ : Nat → Nat) (owd : Nat → Nat → Nat) (rb st : Nat → Int32) (ho : MOrd sf af no oc on_ owd rb st) (b : Int32) : WRi l yX8_waiting wsX8_waiting ({ frames := 0, cells := 0, slots := 0, locals := 0 }) [.ref (adr 0), .int b] D ac H A 24 adr (fun r w1 => r = nI (wtF (af 11) (af 10) b no) ∧ w1 = mw ac adr (va_up sf 0 0) af) := by
  refine Met.ofW (cc := cX8_waiting) (maxL := 4) (ret := (some .int)) (by decide) rfl ?_
  intro p e s m args below meth c s₁ B hml hv
  obtain ⟨hargs, hsz, hK⟩ := hv
  have hx := B.exec
  have hb := B.bytes
  have hr := B.returns
  have hts := atoms_spec (ws := wsX8_waiting) B.pre
  have hown : s.vm.findClass RX8 = some m.cls := findClass_of_methodNamed B.named
  have hlocks := B.notSynchronized
  subst hsz
  have inX8_ : ∀ w ∈ wsX80, w ∈ wsX8_waiting := by decide +kernel
  have hS : va_S A s.heap s.heap [] := va_S.rf
  have hl := lv_entry ([.ref (adr 0), .int b]) (n := 4) (Nat.le_of_ble_eq_true rfl)
  have hen := lg_entry_eq m [.ref (adr 0), .int b] 4
  rw [← hargs] at hen
  rw [hen]
  generalize (lg_sl ([.ref (adr 0), .int b]) ++ List.replicate (4 - (lg_sl ([.ref (adr 0), .int b])).length) Slot.unset).toArray = ls at hl ⊢
  have hl : lv_has ls 4 [(0, .ref (adr 0)), (1, .int b)] := hl
  obtain ⟨Q0, hQ0⟩ : ∃ z0_, z0_ = MQ below (va_Qi (fun r w1 => r = nI (wtF (af 11) (af 10) b no) ∧ w1 = mw ac adr (va_up sf 0 0) af) (fun c t => MW D A 24 adr c t.heap) A) args s 0 0 A := ⟨_, rfl⟩
  rw [← hQ0]
  have h60 := ho.2.1
  refine lv_aload_n hx hb dX8_waiting_0 rfl (lv_at hl 0 rfl) ?_
  refine lv_iconst (v := 0) hx hb dX8_waiting_1 (by decide) ?_
  refine m_put (ci := 8) (C := RX8) (T := TX8) (n := 35) (v := .int 0) (ty := tyX8 0) hx hb hts inX8_ tyX8 tyX8_ok nmX8 hown hK hM hS rfl 0 (by omega) (show (mw ac adr sf af) 0 = .inr (8, mfs adr sf) from rfl) 0 (by decide) (hts _ (by decide +kernel)) rfl (by decide +kernel) rfl rfl (Nat.le_of_ble_eq_true rfl) dX8_waiting_2 (fun H locs hM hS => ?_)
  have hM : MW D A 24 adr (va_up (mw ac adr sf af) 0 (.inr (8, mfs adr (va_up sf 0 0)))) H := hM
  have hM := MW.mobj (s1 := (va_up sf 0 0)) hM rfl
  refine lv_iconst (v := 0) hx hb dX8_waiting_5 (by decide) ?_
  refine lv_istore_n (lv' := [(2, .int 0), (0, .ref (adr 0)), (1, .int b)]) hx hb dX8_waiting_6 rfl hl (by decide) rfl (fun ls hl => ?_)
  refine lv_iconst (v := 0) hx hb dX8_waiting_7 (by decide) ?_
  refine lv_istore_n (lv' := [(3, .int 0), (2, .int 0), (0, .ref (adr 0)), (1, .int b)]) hx hb dX8_waiting_8 rfl hl (by decide) rfl (fun ls hl => ?_)
  have L9 : ∀ (k9 : Nat) (i : Nat) (hk : no - i < k9) (hi : i ≤ no) (H : Heap) (locs : List Loc) (hM : MW D A 24 adr (mw ac adr (va_up sf 0 0) af) H) (hS : va_S A s.heap H locs) (ls : Array Slot) (hl : lv_has ls 4 [(0, .ref (adr 0)), (1, .int b), (2, .int (nI (wtF (af 11) (af 10) b i))), (3, .int (nI i))]), W p l e (headSpec wsX8_waiting ({ frames := 0, cells := 0, slots := 0, locals := 0 })).room s m args below meth c H locs 0 0 Q0 (F0 m 9 ls []) := by
    intro k9
    induction k9 with
    | zero => intro i hk hi H locs hM hS ls hl; exact absurd hk (Nat.not_lt_zero _)
    | succ k9 ih9 =>
      intro i hk hi H locs hM hS ls hl
      refine lv_iload_n hx hb dX8_waiting_9 rfl (lv_at hl 3 rfl) ?_
      refine lv_aload_n hx hb dX8_waiting_10 rfl (lv_at hl 0 rfl) ?_
      refine m_get (ci := 8) (C := RX8) (T := TX8) (n := 35) (v := .int (sf 6)) hx hb hts inX8_ hown hK rfl (hM.cel (by omega) (show (mw ac adr (va_up sf 0 0) af) 0 = .inr (8, mfs adr (va_up sf 0 0)) from rfl)) 12 (by decide) (hts _ (by decide +kernel)) rfl dX8_waiting_11 ?_
      refine m_top (show (sf 6) = nI no from ho.1) ?_
      refine lv_icmp_ge (tgt := 51) hx hb dX8_waiting_14 (by decide) (fun c14 => ?_) (fun c14 => ?_)
      · have e9 : i = no := by have := le_le c14 (by omega) (by omega); omega
        refine lv_iload_n hx hb dX8_waiting_51 rfl (lv_at hl 2 rfl) ?_
        rw [hQ0]
        exact e_wi hx hb hlocks hr dX8_waiting_52 hM hS (⟨by rw [e9], rfl⟩)
      · have hin : i < no := nle_lt c14 (by omega) (by omega)
        refine lv_iload_n hx hb dX8_waiting_17 rfl (lv_at hl 2 rfl) ?_
        refine lv_aload_n hx hb dX8_waiting_18 rfl (lv_at hl 0 rfl) ?_
        refine m_get (ci := 8) (C := RX8) (T := TX8) (n := 35) (v := .ref (adr 11)) hx hb hts inX8_ hown hK rfl (hM.cel (by omega) (show (mw ac adr (va_up sf 0 0) af) 0 = .inr (8, mfs adr (va_up sf 0 0)) from rfl)) 17 (by decide) (hts _ (by decide +kernel)) rfl dX8_waiting_19 ?_
        refine lv_iload_n hx hb dX8_waiting_22 rfl (lv_at hl 3 rfl) ?_
        refine m_iald hx hb hK (hM.cel (by omega) (show (mw ac adr (va_up sf 0 0) af) 11 = .inl (ac 0, 60, .inl (af 11)) from rfl)) (vp_in_nI (by omega) (by decide)) dX8_waiting_23 ?_
        refine m_top (show ((af 11) (nI i).toNatClampNeg) = af 11 i from by rw [nI_clamp (by omega)]) ?_
        refine lv_iconst (v := (-1)) hx hb dX8_waiting_24 (by decide) ?_
        refine lv_icmp_ne (tgt := 42) hx hb dX8_waiting_25 (by decide) (fun c25 => ?_) (fun c25 => ?_)
        · refine lv_iconst (v := 0) hx hb dX8_waiting_42 (by decide) ?_
          refine lv_iadd hx hb dX8_waiting_43 ?_
          refine m_top (show ((nI (wtF (af 11) (af 10) b i)) + 0) = nI (wtF (af 11) (af 10) b (i + 1)) from by first | (rw [wtF_y c25 c35]; exact nI_1 _) | (rw [wtF_n (Or.inl c25)]; exact Int32.add_zero _) | (rw [wtF_n (Or.inr c35)]; exact Int32.add_zero _)) ?_
          refine lv_istore_n (lv' := [(2, .int (nI (wtF (af 11) (af 10) b (i + 1)))), (0, .ref (adr 0)), (1, .int b), (3, .int (nI i))]) hx hb dX8_waiting_44 rfl hl (by decide) rfl (fun ls hl => ?_)
          refine lv_iinc (v := nI (i + 1)) (lv' := [(3, .int (nI (i + 1))), (2, .int (nI (wtF (af 11) (af 10) b (i + 1)))), (0, .ref (adr 0)), (1, .int b)]) hx hb dX8_waiting_45 hl (k := 3) rfl (nI_1 _) (by decide) rfl (fun ls hl => ?_)
          refine lv_goto (tgt := 9) hx hb dX8_waiting_48 (by decide) ?_
          exact ih9 (i + 1) (by omega) (by omega) _ _ hM hS ls (lv_sub hl [2, 3, 1, 0] rfl)
        · refine lv_aload_n hx hb dX8_waiting_28 rfl (lv_at hl 0 rfl) ?_
          refine m_get (ci := 8) (C := RX8) (T := TX8) (n := 35) (v := .ref (adr 10)) hx hb hts inX8_ hown hK rfl (hM.cel (by omega) (show (mw ac adr (va_up sf 0 0) af) 0 = .inr (8, mfs adr (va_up sf 0 0)) from rfl)) 16 (by decide) (hts _ (by decide +kernel)) rfl dX8_waiting_29 ?_
          refine lv_iload_n hx hb dX8_waiting_32 rfl (lv_at hl 3 rfl) ?_
          refine m_zald hx hb hK (hM.cel (by omega) (show (mw ac adr (va_up sf 0 0) af) 10 = .inl (ac 2, 60, .inl (af 10)) from rfl)) (vp_in_nI (by omega) (by decide)) dX8_waiting_33 ?_
          refine m_top (show ((af 10) (nI i).toNatClampNeg) = af 10 i from by rw [nI_clamp (by omega)]) ?_
          refine lv_iload_n hx hb dX8_waiting_34 rfl (lv_at hl 1 rfl) ?_
          refine lv_icmp_ne (tgt := 42) hx hb dX8_waiting_35 (by decide) (fun c35 => ?_) (fun c35 => ?_)
          · refine lv_iconst (v := 0) hx hb dX8_waiting_42 (by decide) ?_
            refine lv_iadd hx hb dX8_waiting_43 ?_
            refine m_top (show ((nI (wtF (af 11) (af 10) b i)) + 0) = nI (wtF (af 11) (af 10) b (i + 1)) from by first | (rw [wtF_y c25 c35]; exact nI_1 _) | (rw [wtF_n (Or.inl c25)]; exact Int32.add_zero _) | (rw [wtF_n (Or.inr c35)]; exact Int32.add_zero _)) ?_
            refine lv_istore_n (lv' := [(2, .int (nI (wtF (af 11) (af 10) b (i + 1)))), (0, .ref (adr 0)), (1, .int b), (3, .int (nI i))]) hx hb dX8_waiting_44 rfl hl (by decide) rfl (fun ls hl => ?_)
            refine lv_iinc (v := nI (i + 1)) (lv' := [(3, .int (nI (i + 1))), (2, .int (nI (wtF (af 11) (af 10) b (i + 1)))), (0, .ref (adr 0)), (1, .int b)]) hx hb dX8_waiting_45 hl (k := 3) rfl (nI_1 _) (by decide) rfl (fun ls hl => ?_)
            refine lv_goto (tgt := 9) hx hb dX8_waiting_48 (by decide) ?_
            exact ih9 (i + 1) (by omega) (by omega) _ _ hM hS ls (lv_sub hl [2, 3, 1, 0] rfl)
          · refine lv_iconst (v := 1) hx hb dX8_waiting_38 (by decide) ?_
            refine lv_goto (tgt := 43) hx hb dX8_waiting_39 (by decide) ?_
            refine lv_iadd hx hb dX8_waiting_43 ?_
            refine m_top (show ((nI (wtF (af 11) (af 10) b i)) + 1) = nI (wtF (af 11) (af 10) b (i + 1)) from by first | (rw [wtF_y c25 c35]; exact nI_1 _) | (rw [wtF_n (Or.inl c25)]; exact Int32.add_zero _) | (rw [wtF_n (Or.inr c35)]; exact Int32.add_zero _)) ?_
            refine lv_istore_n (lv' := [(2, .int (nI (wtF (af 11) (af 10) b (i + 1)))), (0, .ref (adr 0)), (1, .int b), (3, .int (nI i))]) hx hb dX8_waiting_44 rfl hl (by decide) rfl (fun ls hl => ?_)
            refine lv_iinc (v := nI (i + 1)) (lv' := [(3, .int (nI (i + 1))), (2, .int (nI (wtF (af 11) (af 10) b (i + 1)))), (0, .ref (adr 0)), (1, .int b)]) hx hb dX8_waiting_45 hl (k := 3) rfl (nI_1 _) (by decide) rfl (fun ls hl => ?_)
            refine lv_goto (tgt := 9) hx hb dX8_waiting_48 (by decide) ?_
            exact ih9 (i + 1) (by omega) (by omega) _ _ hM hS ls (lv_sub hl [2, 3, 1, 0] rfl)
  exact L9 _ 0 (Nat.lt_succ_self _) (Nat.zero_le _) _ _ hM hS ls (lv_sub hl [2, 3, 1, 0] rfl)
