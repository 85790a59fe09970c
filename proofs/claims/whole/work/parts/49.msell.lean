theorem MSen.push {sf s1 : Nat → Int32} {af a1 : Nat → Nat → Int32} {ns : Nat} {sc sn : Nat → Nat} {sw : Nat → Nat → Nat} {sb : Nat → Nat → Int32} {cl n : Nat} {wd : Nat → Nat} {bf w4 g4 w5 g5 : Nat → Int32} (h : MSen sf af ns sc sn sw sb) (hns : ns < 40) (h5 : s1 5 = nI (ns + 1)) (h2 : a1 2 = upd (af 2) ns (nI cl)) (h3 : a1 3 = upd (af 3) ns (nI n)) (h4 : a1 4 = blk ns (mixF n w4 g4) (af 4)) (h6 : a1 5 = blk ns (mixF n w5 g5) (af 5)) (hn0 : 0 < n) (hn : n ≤ 8) (hcl : cl < 4) (hw : ∀ j, j < n → w4 j = nI (wd j) ∧ wd j < 50) (hb : ∀ j, j < n → w5 j = bf j) : MSen s1 a1 (ns + 1) (va_up sc ns cl) (va_up sn ns n) (va_up sw ns wd) (va_up sb ns bf) := by
  refine ⟨h5, by omega, fun i hi => ?_⟩
  rw [h2, h3, h4, h6]
  by_cases e : i = ns
  · subst e
    rw [pk_us, pk_us, va_up_self, va_up_self, va_up_self, va_up_self]
    refine ⟨rfl, rfl, ⟨hn0, hn, hcl⟩, fun j hj => ?_⟩
    rw [blk_at (by omega), blk_at (by omega)]
    unfold mixF
    rw [if_pos hj, if_pos hj]
    exact ⟨(hw j hj).1, (hw j hj).2, hb j hj⟩
  · rw [pk_un e, pk_un e, va_up_ne _ _ e, va_up_ne _ _ e, va_up_ne _ _ e, va_up_ne _ _ e]
    obtain ⟨q1, q2, ⟨q3, q4, q5⟩, q6⟩ := h.2.2 i (by omega)
    refine ⟨q1, q2, ⟨q3, q4, q5⟩, fun j hj => ?_⟩
    rw [blk_ne e (by omega), blk_ne e (by omega)]
    exact q6 j hj
/-- a sentence's words become others -/
theorem MSen.bf {sf s1 : Nat → Int32} {af a1 : Nat → Nat → Int32} {ns : Nat} {sc sn : Nat → Nat} {sw : Nat → Nat → Nat} {sb : Nat → Nat → Int32} {i : Nat} {b bf : Nat → Int32} (h : MSen sf af ns sc sn sw sb) (h5 : s1 5 = sf 5) (h2 : a1 2 = af 2) (h3 : a1 3 = af 3) (h4 : a1 4 = af 4) (h6 : a1 5 = blk i b (af 5)) (hb : ∀ j, j < sn i → b j = bf j) : MSen s1 a1 ns sc sn sw (va_up sb i bf) := by
  unfold MSen at h ⊢
  rw [h5, h2, h3, h4, h6]
  refine ⟨h.1, h.2.1, fun k hk => ?_⟩
  obtain ⟨q1, q2, ⟨q3, q4, q5⟩, q6⟩ := h.2.2 k hk
  refine ⟨q1, q2, ⟨q3, q4, q5⟩, fun j hj => ?_⟩
  by_cases e : k = i
  · subst e
    rw [blk_at (by omega), va_up_self]
    exact ⟨(q6 j hj).1, (q6 j hj).2.1, hb j hj⟩
  · rw [blk_ne e (by omega), va_up_ne _ _ e]
    exact q6 j hj
set_option maxHeartbeats 4000000 in
set_option maxRecDepth 100000 in
/-- X8_sells -/
theorem k_X8_sells (l : Launch) (D : va_G) (ac : Nat → ClassId) (H : Heap) (A : Nat → Prop) (adr : Nat → Nat) (sf : Nat → Int32) (af : Nat → Nat → Int32) (hM : MW D A 24 adr (mw ac adr sf af) H) (fs fr : Nat → Int32) (hSy : SayR af fs fr) (no : Nat) (oc on_ : Nat → Nat) (owd : Nat → Nat → Nat) (rb st : Nat → Int32) (ho : MOrd sf af no oc on_ owd rb st) (ns : Nat) (sc sn : Nat → Nat) (sw : Nat → Nat → Nat) (sb : Nat → Nat → Int32) (hs : MSen sf af ns sc sn sw sb) (hns : ns < 40) (o : Nat) (ho9 : o < no) (bf : Nat → Int32) (hb9 : ∀ j, j < on_ o → af 14 (8 * o + j) = bf j) : WRv l yX8_sells wsX8_sells ({ frames := 5, cells := 0, slots := 0, locals := 115 }) [.ref (adr 0), .int (nI o)] D ac H A 24 adr (fun w1 => w1 = mw ac adr (va_up (va_up (va_up sf 5 (nI (ns + 1))) 9 (sf 9 + 1)) 10 ((lsF (fun i => asB fr ((va_up sc ns (oc o)) i) ((va_up sn ns (on_ o)) i) ((va_up sw ns (owd o)) i) ((va_up sb ns bf) i)) (af 19) (sf 10) (ns + 1)).2)) (va_up (va_up (va_up (va_up (va_up (va_up (va_up af 2 (upd (af 2) ns (nI (oc o)))) 3 (upd (af 3) ns (nI (on_ o)))) 4 (blk ns (mixF (on_ o) (fun j => af 9 (8 * o + j)) (fun j => af 4 (8 * ns + j))) (af 4))) 5 (blk ns (mixF (on_ o) (fun j => af 14 (8 * o + j)) (fun j => af 5 (8 * ns + j))) (af 5))) 6 (upd (af 6) ns (sf 9 + 1))) 11 (upd (af 11) o (-2))) 19 ((lsF (fun i => asB fr ((va_up sc ns (oc o)) i) ((va_up sn ns (on_ o)) i) ((va_up sw ns (owd o)) i) ((va_up sb ns bf) i)) (af 19) (sf 10) (ns + 1)).1))) := by
  refine Met.ofW (cc := cX8_sells) (maxL := 3) (ret := none) (by decide) rfl ?_
  intro p e s m args below meth c s₁ B hml hv
  obtain ⟨hargs, hsz, hK⟩ := hv
  have hx := B.exec
  have hb := B.bytes
  have hr := B.returns
  have hts := atoms_spec (ws := wsX8_sells) B.pre
  have hown : s.vm.findClass RX8 = some m.cls := findClass_of_methodNamed B.named
  have hlocks := B.notSynchronized
  subst hsz
  have inX8_ : ∀ w ∈ wsX80, w ∈ wsX8_sells := by decide +kernel
  have hS : va_S A s.heap s.heap [] := va_S.rf
  have hl := lv_entry ([.ref (adr 0), .int (nI o)]) (n := 3) (Nat.le_of_ble_eq_true rfl)
  have hen := lg_entry_eq m [.ref (adr 0), .int (nI o)] 3
  rw [← hargs] at hen
  rw [hen]
  generalize (lg_sl ([.ref (adr 0), .int (nI o)]) ++ List.replicate (3 - (lg_sl ([.ref (adr 0), .int (nI o)])).length) Slot.unset).toArray = ls at hl ⊢
  have hl : lv_has ls 3 [(0, .ref (adr 0)), (1, .int (nI o))] := hl
  obtain ⟨Q0, hQ0⟩ : ∃ z0_, z0_ = MQ below (va_Qv (fun w1 => w1 = mw ac adr (va_up (va_up (va_up sf 5 (nI (ns + 1))) 9 (sf 9 + 1)) 10 ((lsF (fun i => asB fr ((va_up sc ns (oc o)) i) ((va_up sn ns (on_ o)) i) ((va_up sw ns (owd o)) i) ((va_up sb ns bf) i)) (af 19) (sf 10) (ns + 1)).2)) (va_up (va_up (va_up (va_up (va_up (va_up (va_up af 2 (upd (af 2) ns (nI (oc o)))) 3 (upd (af 3) ns (nI (on_ o)))) 4 (blk ns (mixF (on_ o) (fun j => af 9 (8 * o + j)) (fun j => af 4 (8 * ns + j))) (af 4))) 5 (blk ns (mixF (on_ o) (fun j => af 14 (8 * o + j)) (fun j => af 5 (8 * ns + j))) (af 5))) 6 (upd (af 6) ns (sf 9 + 1))) 11 (upd (af 11) o (-2))) 19 ((lsF (fun i => asB fr ((va_up sc ns (oc o)) i) ((va_up sn ns (on_ o)) i) ((va_up sw ns (owd o)) i) ((va_up sb ns bf) i)) (af 19) (sf 10) (ns + 1)).1))) (fun c t => MW D A 24 adr c t.heap) A) args s 0 0 A := ⟨_, rfl⟩
  rw [← hQ0]
  have h60 := ho.2.1
  obtain ⟨o1_, o2_, ⟨o3_, o4_, o5_⟩, ⟨o6_, o7_⟩, o8_⟩ := ho.2.2 o ho9
  have h7 := hs.2.1
  refine lv_aload_n hx hb dX8_sells_0 rfl (lv_at hl 0 rfl) ?_
  refine lv_dup hx hb dX8_sells_1 rfl ?_
  refine m_get (ci := 8) (C := RX8) (T := TX8) (n := 35) (v := .int (sf 9)) hx hb hts inX8_ hown hK rfl (hM.cel (by omega) (show (mw ac adr sf af) 0 = .inr (8, mfs adr sf) from rfl)) 27 (by decide) (hts _ (by decide +kernel)) rfl dX8_sells_2 ?_
  refine lv_iconst (v := 1) hx hb dX8_sells_5 (by decide) ?_
  refine lv_iadd hx hb dX8_sells_6 ?_
  refine m_put (ci := 8) (C := RX8) (T := TX8) (n := 35) (v := .int ((sf 9) + 1)) (ty := tyX8 27) hx hb hts inX8_ tyX8 tyX8_ok nmX8 hown hK hM hS rfl 0 (by omega) (show (mw ac adr sf af) 0 = .inr (8, mfs adr sf) from rfl) 27 (by decide) (hts _ (by decide +kernel)) rfl (by decide +kernel) rfl rfl (Nat.le_of_ble_eq_true rfl) dX8_sells_7 (fun H locs hM hS => ?_)
  have hM : MW D A 24 adr (va_up (mw ac adr sf af) 0 (.inr (8, mfs adr (va_up sf 9 ((sf 9) + 1))))) H := hM
  have hM := MW.mobj (s1 := (va_up sf 9 ((sf 9) + 1))) hM rfl
  refine lv_aload_n hx hb dX8_sells_10 rfl (lv_at hl 0 rfl) ?_
  refine m_get (ci := 8) (C := RX8) (T := TX8) (n := 35) (v := .ref (adr 2)) hx hb hts inX8_ hown hK rfl (hM.cel (by omega) (show (mw ac adr (va_up sf 9 ((sf 9) + 1)) af) 0 = .inr (8, mfs adr (va_up sf 9 ((sf 9) + 1))) from rfl)) 7 (by decide) (hts _ (by decide +kernel)) rfl dX8_sells_11 ?_
  refine lv_aload_n hx hb dX8_sells_14 rfl (lv_at hl 0 rfl) ?_
  refine m_get (ci := 8) (C := RX8) (T := TX8) (n := 35) (v := .int (sf 5)) hx hb hts inX8_ hown hK rfl (hM.cel (by omega) (show (mw ac adr (va_up sf 9 ((sf 9) + 1)) af) 0 = .inr (8, mfs adr (va_up sf 9 ((sf 9) + 1))) from rfl)) 6 (by decide) (hts _ (by decide +kernel)) rfl dX8_sells_15 ?_
  refine m_top (show (sf 5) = nI ns from hs.1) ?_
  refine lv_aload_n hx hb dX8_sells_18 rfl (lv_at hl 0 rfl) ?_
  refine m_get (ci := 8) (C := RX8) (T := TX8) (n := 35) (v := .ref (adr 7)) hx hb hts inX8_ hown hK rfl (hM.cel (by omega) (show (mw ac adr (va_up sf 9 ((sf 9) + 1)) af) 0 = .inr (8, mfs adr (va_up sf 9 ((sf 9) + 1))) from rfl)) 13 (by decide) (hts _ (by decide +kernel)) rfl dX8_sells_19 ?_
  refine lv_iload_n hx hb dX8_sells_22 rfl (lv_at hl 1 rfl) ?_
  refine m_iald hx hb hK (hM.cel (by omega) (show (mw ac adr (va_up sf 9 ((sf 9) + 1)) af) 7 = .inl (ac 0, 60, .inl (af 7)) from rfl)) (vp_in_nI (by omega) (by decide)) dX8_sells_23 ?_
  refine m_top (show ((af 7) (nI o).toNatClampNeg) = nI (oc o) from by rw [nI_clamp (by omega)]; exact o1_) ?_
  refine m_iast hx hb hK hM hS 2 (by omega) (show (mw ac adr (va_up sf 9 ((sf 9) + 1)) af) 2 = .inl (ac 0, 40, .inl (af 2)) from rfl) (vp_in_nI (by omega) (by decide)) dX8_sells_24 (fun H locs hM hS => ?_)
  have ef_ : (upd (af 2) (nI ns).toNatClampNeg (nI (oc o))) = upd (af 2) ns (nI (oc o)) := by rw [nI_clamp (by omega)]
  rw [ef_] at hM
  clear ef_
  have hM := MW.marr (a1 := (va_up af 2 (upd (af 2) ns (nI (oc o))))) hM (by decide) rfl rfl (fun j9 hj9 => by simp only [va_up, if_neg hj9])
  refine lv_aload_n hx hb dX8_sells_25 rfl (lv_at hl 0 rfl) ?_
  refine m_get (ci := 8) (C := RX8) (T := TX8) (n := 35) (v := .ref (adr 3)) hx hb hts inX8_ hown hK rfl (hM.cel (by omega) (show (mw ac adr (va_up sf 9 ((sf 9) + 1)) (va_up af 2 (upd (af 2) ns (nI (oc o))))) 0 = .inr (8, mfs adr (va_up sf 9 ((sf 9) + 1))) from rfl)) 8 (by decide) (hts _ (by decide +kernel)) rfl dX8_sells_26 ?_
  refine lv_aload_n hx hb dX8_sells_29 rfl (lv_at hl 0 rfl) ?_
  refine m_get (ci := 8) (C := RX8) (T := TX8) (n := 35) (v := .int (sf 5)) hx hb hts inX8_ hown hK rfl (hM.cel (by omega) (show (mw ac adr (va_up sf 9 ((sf 9) + 1)) (va_up af 2 (upd (af 2) ns (nI (oc o))))) 0 = .inr (8, mfs adr (va_up sf 9 ((sf 9) + 1))) from rfl)) 6 (by decide) (hts _ (by decide +kernel)) rfl dX8_sells_30 ?_
  refine m_top (show (sf 5) = nI ns from hs.1) ?_
  refine lv_aload_n hx hb dX8_sells_33 rfl (lv_at hl 0 rfl) ?_
  refine m_get (ci := 8) (C := RX8) (T := TX8) (n := 35) (v := .ref (adr 8)) hx hb hts inX8_ hown hK rfl (hM.cel (by omega) (show (mw ac adr (va_up sf 9 ((sf 9) + 1)) (va_up af 2 (upd (af 2) ns (nI (oc o))))) 0 = .inr (8, mfs adr (va_up sf 9 ((sf 9) + 1))) from rfl)) 14 (by decide) (hts _ (by decide +kernel)) rfl dX8_sells_34 ?_
  refine lv_iload_n hx hb dX8_sells_37 rfl (lv_at hl 1 rfl) ?_
  refine m_iald hx hb hK (hM.cel (by omega) (show (mw ac adr (va_up sf 9 ((sf 9) + 1)) (va_up af 2 (upd (af 2) ns (nI (oc o))))) 8 = .inl (ac 0, 60, .inl (af 8)) from rfl)) (vp_in_nI (by omega) (by decide)) dX8_sells_38 ?_
  refine m_top (show ((af 8) (nI o).toNatClampNeg) = nI (on_ o) from by rw [nI_clamp (by omega)]; exact o2_) ?_
  refine m_iast hx hb hK hM hS 3 (by omega) (show (mw ac adr (va_up sf 9 ((sf 9) + 1)) (va_up af 2 (upd (af 2) ns (nI (oc o))))) 3 = .inl (ac 0, 40, .inl (af 3)) from rfl) (vp_in_nI (by omega) (by decide)) dX8_sells_39 (fun H locs hM hS => ?_)
  have ef_ : (upd (af 3) (nI ns).toNatClampNeg (nI (on_ o))) = upd (af 3) ns (nI (on_ o)) := by rw [nI_clamp (by omega)]
  rw [ef_] at hM
  clear ef_
  have hM := MW.marr (a1 := (va_up (va_up af 2 (upd (af 2) ns (nI (oc o)))) 3 (upd (af 3) ns (nI (on_ o))))) hM (by decide) rfl rfl (fun j9 hj9 => by simp only [va_up, if_neg hj9])
  have hM := MW.cg (s1 := (va_up sf 9 ((sf 9) + 1))) (a1 := (va_up (va_up (va_up (va_up af 2 (upd (af 2) ns (nI (oc o)))) 3 (upd (af 3) ns (nI (on_ o)))) 4 (blk ns (mixF 0 (fun j => af 9 (8 * o + j)) (fun j => af 4 (8 * ns + j))) (af 4))) 5 (blk ns (mixF 0 (fun j => af 14 (8 * o + j)) (fun j => af 5 (8 * ns + j))) (af 5)))) hM (fun _ => rfl) (fun j9 => if q0_ : j9 = 4 then (by subst q0_; show blk ns (mixF 0 (fun j => af 9 (8 * o + j)) (fun j => af 4 (8 * ns + j))) (af 4) = af 4; exact (by rw [mixF_0]; exact blk_0)) else if q1_ : j9 = 5 then (by subst q1_; show blk ns (mixF 0 (fun j => af 14 (8 * o + j)) (fun j => af 5 (8 * ns + j))) (af 5) = af 5; exact (by rw [mixF_0]; exact blk_0)) else (by first | rfl | simp only [va_up, if_neg q0_, if_neg q1_] | fail))
  refine lv_iconst (v := 0) hx hb dX8_sells_40 (by decide) ?_
  refine lv_istore_n (lv' := [(2, .int 0), (0, .ref (adr 0)), (1, .int (nI o))]) hx hb dX8_sells_41 rfl hl (by decide) rfl (fun ls hl => ?_)
  have L42 : ∀ (k9 : Nat) (k : Nat) (hk : on_ o - k < k9) (hj : k ≤ on_ o) (H : Heap) (locs : List Loc) (hM : MW D A 24 adr (mw ac adr (va_up sf 9 ((sf 9) + 1)) (va_up (va_up (va_up (va_up af 2 (upd (af 2) ns (nI (oc o)))) 3 (upd (af 3) ns (nI (on_ o)))) 4 (blk ns (mixF k (fun j => af 9 (8 * o + j)) (fun j => af 4 (8 * ns + j))) (af 4))) 5 (blk ns (mixF k (fun j => af 14 (8 * o + j)) (fun j => af 5 (8 * ns + j))) (af 5)))) H) (hS : va_S A s.heap H locs) (ls : Array Slot) (hl : lv_has ls 3 [(0, .ref (adr 0)), (1, .int (nI o)), (2, .int (nI k))]), W p l e (headSpec wsX8_sells ({ frames := 5, cells := 0, slots := 0, locals := 115 })).room s m args below meth c H locs 0 0 Q0 (F0 m 42 ls []) := by
    intro k9
    induction k9 with
    | zero => intro k hk hj H locs hM hS ls hl; exact absurd hk (Nat.not_lt_zero _)
    | succ k9 ih42 =>
      intro k hk hj H locs hM hS ls hl
      refine lv_iload_n hx hb dX8_sells_42 rfl (lv_at hl 2 rfl) ?_
      refine lv_aload_n hx hb dX8_sells_43 rfl (lv_at hl 0 rfl) ?_
      refine m_get (ci := 8) (C := RX8) (T := TX8) (n := 35) (v := .ref (adr 8)) hx hb hts inX8_ hown hK rfl (hM.cel (by omega) (show (mw ac adr (va_up sf 9 ((sf 9) + 1)) (va_up (va_up (va_up (va_up af 2 (upd (af 2) ns (nI (oc o)))) 3 (upd (af 3) ns (nI (on_ o)))) 4 (blk ns (mixF k (fun j => af 9 (8 * o + j)) (fun j => af 4 (8 * ns + j))) (af 4))) 5 (blk ns (mixF k (fun j => af 14 (8 * o + j)) (fun j => af 5 (8 * ns + j))) (af 5)))) 0 = .inr (8, mfs adr (va_up sf 9 ((sf 9) + 1))) from rfl)) 14 (by decide) (hts _ (by decide +kernel)) rfl dX8_sells_44 ?_
      refine lv_iload_n hx hb dX8_sells_47 rfl (lv_at hl 1 rfl) ?_
      refine m_iald hx hb hK (hM.cel (by omega) (show (mw ac adr (va_up sf 9 ((sf 9) + 1)) (va_up (va_up (va_up (va_up af 2 (upd (af 2) ns (nI (oc o)))) 3 (upd (af 3) ns (nI (on_ o)))) 4 (blk ns (mixF k (fun j => af 9 (8 * o + j)) (fun j => af 4 (8 * ns + j))) (af 4))) 5 (blk ns (mixF k (fun j => af 14 (8 * o + j)) (fun j => af 5 (8 * ns + j))) (af 5)))) 8 = .inl (ac 0, 60, .inl (af 8)) from rfl)) (vp_in_nI (by omega) (by decide)) dX8_sells_48 ?_
      refine m_top (show ((af 8) (nI o).toNatClampNeg) = nI (on_ o) from by rw [nI_clamp (by omega)]; exact o2_) ?_
      refine lv_icmp_ge (tgt := 108) hx hb dX8_sells_49 (by decide) (fun c49 => ?_) (fun c49 => ?_)
      · have e9 : k = on_ o := by have := le_le c49 (by omega) (by omega); omega
        refine lv_aload_n hx hb dX8_sells_108 rfl (lv_at hl 0 rfl) ?_
        refine m_get (ci := 8) (C := RX8) (T := TX8) (n := 35) (v := .ref (adr 6)) hx hb hts inX8_ hown hK rfl (hM.cel (by omega) (show (mw ac adr (va_up sf 9 ((sf 9) + 1)) (va_up (va_up (va_up (va_up af 2 (upd (af 2) ns (nI (oc o)))) 3 (upd (af 3) ns (nI (on_ o)))) 4 (blk ns (mixF k (fun j => af 9 (8 * o + j)) (fun j => af 4 (8 * ns + j))) (af 4))) 5 (blk ns (mixF k (fun j => af 14 (8 * o + j)) (fun j => af 5 (8 * ns + j))) (af 5)))) 0 = .inr (8, mfs adr (va_up sf 9 ((sf 9) + 1))) from rfl)) 11 (by decide) (hts _ (by decide +kernel)) rfl dX8_sells_109 ?_
        refine lv_aload_n hx hb dX8_sells_112 rfl (lv_at hl 0 rfl) ?_
        refine m_get (ci := 8) (C := RX8) (T := TX8) (n := 35) (v := .int (sf 5)) hx hb hts inX8_ hown hK rfl (hM.cel (by omega) (show (mw ac adr (va_up sf 9 ((sf 9) + 1)) (va_up (va_up (va_up (va_up af 2 (upd (af 2) ns (nI (oc o)))) 3 (upd (af 3) ns (nI (on_ o)))) 4 (blk ns (mixF k (fun j => af 9 (8 * o + j)) (fun j => af 4 (8 * ns + j))) (af 4))) 5 (blk ns (mixF k (fun j => af 14 (8 * o + j)) (fun j => af 5 (8 * ns + j))) (af 5)))) 0 = .inr (8, mfs adr (va_up sf 9 ((sf 9) + 1))) from rfl)) 6 (by decide) (hts _ (by decide +kernel)) rfl dX8_sells_113 ?_
        refine m_top (show (sf 5) = nI ns from hs.1) ?_
        refine lv_aload_n hx hb dX8_sells_116 rfl (lv_at hl 0 rfl) ?_
        refine m_get (ci := 8) (C := RX8) (T := TX8) (n := 35) (v := .int ((sf 9) + 1)) hx hb hts inX8_ hown hK rfl (hM.cel (by omega) (show (mw ac adr (va_up sf 9 ((sf 9) + 1)) (va_up (va_up (va_up (va_up af 2 (upd (af 2) ns (nI (oc o)))) 3 (upd (af 3) ns (nI (on_ o)))) 4 (blk ns (mixF k (fun j => af 9 (8 * o + j)) (fun j => af 4 (8 * ns + j))) (af 4))) 5 (blk ns (mixF k (fun j => af 14 (8 * o + j)) (fun j => af 5 (8 * ns + j))) (af 5)))) 0 = .inr (8, mfs adr (va_up sf 9 ((sf 9) + 1))) from rfl)) 27 (by decide) (hts _ (by decide +kernel)) rfl dX8_sells_117 ?_
        refine m_iast hx hb hK hM hS 6 (by omega) (show (mw ac adr (va_up sf 9 ((sf 9) + 1)) (va_up (va_up (va_up (va_up af 2 (upd (af 2) ns (nI (oc o)))) 3 (upd (af 3) ns (nI (on_ o)))) 4 (blk ns (mixF k (fun j => af 9 (8 * o + j)) (fun j => af 4 (8 * ns + j))) (af 4))) 5 (blk ns (mixF k (fun j => af 14 (8 * o + j)) (fun j => af 5 (8 * ns + j))) (af 5)))) 6 = .inl (ac 0, 40, .inl (af 6)) from rfl) (vp_in_nI (by omega) (by decide)) dX8_sells_120 (fun H locs hM hS => ?_)
        have ef_ : (upd (af 6) (nI ns).toNatClampNeg ((sf 9) + 1)) = upd (af 6) ns ((sf 9) + 1) := by rw [nI_clamp (by omega)]
        rw [ef_] at hM
        clear ef_
        have hM := MW.marr (a1 := (va_up (va_up (va_up (va_up (va_up af 2 (upd (af 2) ns (nI (oc o)))) 3 (upd (af 3) ns (nI (on_ o)))) 4 (blk ns (mixF k (fun j => af 9 (8 * o + j)) (fun j => af 4 (8 * ns + j))) (af 4))) 5 (blk ns (mixF k (fun j => af 14 (8 * o + j)) (fun j => af 5 (8 * ns + j))) (af 5))) 6 (upd (af 6) ns ((sf 9) + 1)))) hM (by decide) rfl rfl (fun j9 hj9 => by simp only [va_up, if_neg hj9])
        refine lv_aload_n hx hb dX8_sells_121 rfl (lv_at hl 0 rfl) ?_
        refine lv_dup hx hb dX8_sells_122 rfl ?_
        refine m_get (ci := 8) (C := RX8) (T := TX8) (n := 35) (v := .int (sf 5)) hx hb hts inX8_ hown hK rfl (hM.cel (by omega) (show (mw ac adr (va_up sf 9 ((sf 9) + 1)) (va_up (va_up (va_up (va_up (va_up af 2 (upd (af 2) ns (nI (oc o)))) 3 (upd (af 3) ns (nI (on_ o)))) 4 (blk ns (mixF k (fun j => af 9 (8 * o + j)) (fun j => af 4 (8 * ns + j))) (af 4))) 5 (blk ns (mixF k (fun j => af 14 (8 * o + j)) (fun j => af 5 (8 * ns + j))) (af 5))) 6 (upd (af 6) ns ((sf 9) + 1)))) 0 = .inr (8, mfs adr (va_up sf 9 ((sf 9) + 1))) from rfl)) 6 (by decide) (hts _ (by decide +kernel)) rfl dX8_sells_123 ?_
        refine m_top (show (sf 5) = nI ns from hs.1) ?_
        refine lv_iconst (v := 1) hx hb dX8_sells_126 (by decide) ?_
        refine lv_iadd hx hb dX8_sells_127 ?_
        refine m_top (show ((nI ns) + 1) = nI (ns + 1) from nI_1 _) ?_
        refine m_put (ci := 8) (C := RX8) (T := TX8) (n := 35) (v := .int (nI (ns + 1))) (ty := tyX8 6) hx hb hts inX8_ tyX8 tyX8_ok nmX8 hown hK hM hS rfl 0 (by omega) (show (mw ac adr (va_up sf 9 ((sf 9) + 1)) (va_up (va_up (va_up (va_up (va_up af 2 (upd (af 2) ns (nI (oc o)))) 3 (upd (af 3) ns (nI (on_ o)))) 4 (blk ns (mixF k (fun j => af 9 (8 * o + j)) (fun j => af 4 (8 * ns + j))) (af 4))) 5 (blk ns (mixF k (fun j => af 14 (8 * o + j)) (fun j => af 5 (8 * ns + j))) (af 5))) 6 (upd (af 6) ns ((sf 9) + 1)))) 0 = .inr (8, mfs adr (va_up sf 9 ((sf 9) + 1))) from rfl) 6 (by decide) (hts _ (by decide +kernel)) rfl (by decide +kernel) rfl rfl (Nat.le_of_ble_eq_true rfl) dX8_sells_128 (fun H locs hM hS => ?_)
        have hM : MW D A 24 adr (va_up (mw ac adr (va_up sf 9 ((sf 9) + 1)) (va_up (va_up (va_up (va_up (va_up af 2 (upd (af 2) ns (nI (oc o)))) 3 (upd (af 3) ns (nI (on_ o)))) 4 (blk ns (mixF k (fun j => af 9 (8 * o + j)) (fun j => af 4 (8 * ns + j))) (af 4))) 5 (blk ns (mixF k (fun j => af 14 (8 * o + j)) (fun j => af 5 (8 * ns + j))) (af 5))) 6 (upd (af 6) ns ((sf 9) + 1)))) 0 (.inr (8, mfs adr (va_up (va_up sf 5 (nI (ns + 1))) 9 ((sf 9) + 1))))) H := hM
        have hM := MW.mobj (s1 := (va_up (va_up sf 5 (nI (ns + 1))) 9 ((sf 9) + 1))) hM rfl
        refine lv_aload_n hx hb dX8_sells_131 rfl (lv_at hl 0 rfl) ?_
        refine m_get (ci := 8) (C := RX8) (T := TX8) (n := 35) (v := .ref (adr 11)) hx hb hts inX8_ hown hK rfl (hM.cel (by omega) (show (mw ac adr (va_up (va_up sf 5 (nI (ns + 1))) 9 ((sf 9) + 1)) (va_up (va_up (va_up (va_up (va_up af 2 (upd (af 2) ns (nI (oc o)))) 3 (upd (af 3) ns (nI (on_ o)))) 4 (blk ns (mixF k (fun j => af 9 (8 * o + j)) (fun j => af 4 (8 * ns + j))) (af 4))) 5 (blk ns (mixF k (fun j => af 14 (8 * o + j)) (fun j => af 5 (8 * ns + j))) (af 5))) 6 (upd (af 6) ns ((sf 9) + 1)))) 0 = .inr (8, mfs adr (va_up (va_up sf 5 (nI (ns + 1))) 9 ((sf 9) + 1))) from rfl)) 17 (by decide) (hts _ (by decide +kernel)) rfl dX8_sells_132 ?_
        refine lv_iload_n hx hb dX8_sells_135 rfl (lv_at hl 1 rfl) ?_
        refine lv_bipush (v := (-2)) hx hb dX8_sells_136 (by decide) ?_
        refine m_iast hx hb hK hM hS 11 (by omega) (show (mw ac adr (va_up (va_up sf 5 (nI (ns + 1))) 9 ((sf 9) + 1)) (va_up (va_up (va_up (va_up (va_up af 2 (upd (af 2) ns (nI (oc o)))) 3 (upd (af 3) ns (nI (on_ o)))) 4 (blk ns (mixF k (fun j => af 9 (8 * o + j)) (fun j => af 4 (8 * ns + j))) (af 4))) 5 (blk ns (mixF k (fun j => af 14 (8 * o + j)) (fun j => af 5 (8 * ns + j))) (af 5))) 6 (upd (af 6) ns ((sf 9) + 1)))) 11 = .inl (ac 0, 60, .inl (af 11)) from rfl) (vp_in_nI (by omega) (by decide)) dX8_sells_138 (fun H locs hM hS => ?_)
        have ef_ : (upd (af 11) (nI o).toNatClampNeg (-2)) = upd (af 11) o (-2) := by rw [nI_clamp (by omega)]
        rw [ef_] at hM
        clear ef_
        have hM := MW.marr (a1 := (va_up (va_up (va_up (va_up (va_up (va_up af 2 (upd (af 2) ns (nI (oc o)))) 3 (upd (af 3) ns (nI (on_ o)))) 4 (blk ns (mixF k (fun j => af 9 (8 * o + j)) (fun j => af 4 (8 * ns + j))) (af 4))) 5 (blk ns (mixF k (fun j => af 14 (8 * o + j)) (fun j => af 5 (8 * ns + j))) (af 5))) 6 (upd (af 6) ns ((sf 9) + 1))) 11 (upd (af 11) o (-2)))) hM (by decide) rfl rfl (fun j9 hj9 => by simp only [va_up, if_neg hj9])
        have hs2 : MSen (va_up (va_up sf 5 (nI (ns + 1))) 9 ((sf 9) + 1)) (va_up (va_up (va_up (va_up (va_up (va_up af 2 (upd (af 2) ns (nI (oc o)))) 3 (upd (af 3) ns (nI (on_ o)))) 4 (blk ns (mixF k (fun j => af 9 (8 * o + j)) (fun j => af 4 (8 * ns + j))) (af 4))) 5 (blk ns (mixF k (fun j => af 14 (8 * o + j)) (fun j => af 5 (8 * ns + j))) (af 5))) 6 (upd (af 6) ns ((sf 9) + 1))) 11 (upd (af 11) o (-2))) (ns + 1) (va_up sc ns (oc o)) (va_up sn ns (on_ o)) (va_up sw ns (owd o)) (va_up sb ns bf) := MSen.push hs hns rfl rfl rfl (by rw [← e9]; rfl) (by rw [← e9]; rfl) o3_ o4_ o5_ o8_ hb9
        refine lv_aload_n hx hb dX8_sells_139 rfl (lv_at hl 0 rfl) ?_
        refine w_callv (va_runV (As := []) (rest := []) ⟨hx, hb, hml, hown, hts⟩ (k_X8_lists l D ac _ A adr (va_up (va_up sf 5 (nI (ns + 1))) 9 ((sf 9) + 1)) (va_up (va_up (va_up (va_up (va_up (va_up af 2 (upd (af 2) ns (nI (oc o)))) 3 (upd (af 3) ns (nI (on_ o)))) 4 (blk ns (mixF k (fun j => af 9 (8 * o + j)) (fun j => af 4 (8 * ns + j))) (af 4))) 5 (blk ns (mixF k (fun j => af 14 (8 * o + j)) (fun j => af 5 (8 * ns + j))) (af 5))) 6 (upd (af 6) ns ((sf 9) + 1))) 11 (upd (af 11) o (-2))) hM fs fr (hSy.t rfl) (ns + 1) (va_up sc ns (oc o)) (va_up sn ns (on_ o)) (va_up sw ns (owd o)) (va_up sb ns bf) hs2) (cwV 0 hts gX8_sells_X8_lists rfl rfl rfl (by decide +kernel) ⟨Nat.le_of_ble_eq_true rfl, Nat.le_of_ble_eq_true rfl⟩) (pV hK (ci := 8) rfl (hM.cel (by omega) (show (mw ac adr (va_up (va_up sf 5 (nI (ns + 1))) 9 ((sf 9) + 1)) (va_up (va_up (va_up (va_up (va_up (va_up af 2 (upd (af 2) ns (nI (oc o)))) 3 (upd (af 3) ns (nI (on_ o)))) 4 (blk ns (mixF k (fun j => af 9 (8 * o + j)) (fun j => af 4 (8 * ns + j))) (af 4))) 5 (blk ns (mixF k (fun j => af 14 (8 * o + j)) (fun j => af 5 (8 * ns + j))) (af 5))) 6 (upd (af 6) ns ((sf 9) + 1))) 11 (upd (af 11) o (-2)))) 0 = .inr (8, mfs adr (va_up (va_up sf 5 (nI (ns + 1))) 9 ((sf 9) + 1))) from rfl))) rfl rfl hl.1 rfl (lv_room (Nat.le_of_ble_eq_true rfl)) dX8_sells_140 ⟨Nat.le_of_ble_eq_true rfl, Nat.le_of_ble_eq_true rfl⟩) hS (fun w_6 H locs hw_6 hM hS => ?_)
        have he_7 := hw_6
        rw [he_7] at hM
        have hM := (MW.cg (s1 := (va_up (va_up (va_up sf 5 (nI (ns + 1))) 9 ((sf 9) + 1)) 10 ((lsF (fun i => asB fr ((va_up sc ns (oc o)) i) ((va_up sn ns (on_ o)) i) ((va_up sw ns (owd o)) i) ((va_up sb ns bf) i)) (af 19) (sf 10) (ns + 1)).2))) (a1 := (va_up (va_up (va_up (va_up (va_up (va_up (va_up af 2 (upd (af 2) ns (nI (oc o)))) 3 (upd (af 3) ns (nI (on_ o)))) 4 (blk ns (mixF k (fun j => af 9 (8 * o + j)) (fun j => af 4 (8 * ns + j))) (af 4))) 5 (blk ns (mixF k (fun j => af 14 (8 * o + j)) (fun j => af 5 (8 * ns + j))) (af 5))) 6 (upd (af 6) ns ((sf 9) + 1))) 11 (upd (af 11) o (-2))) 19 ((lsF (fun i => asB fr ((va_up sc ns (oc o)) i) ((va_up sn ns (on_ o)) i) ((va_up sw ns (owd o)) i) ((va_up sb ns bf) i)) (af 19) (sf 10) (ns + 1)).1))) hM (fun j9 => if q0_ : j9 = 10 then (by subst q0_; rfl) else (by first | rfl | simp only [va_up, if_neg q0_] | fail)) (fun j9 => if q0_ : j9 = 19 then (by subst q0_; rfl) else (by first | rfl | simp only [va_up, if_neg q0_] | fail)))
        rw [hQ0]
        exact e_wv hx hb hlocks hr dX8_sells_143 hM hS (by rw [e9])
      · have hkn : k < on_ o := nle_lt c49 (by omega) (by omega)
        refine lv_aload_n hx hb dX8_sells_52 rfl (lv_at hl 0 rfl) ?_
        refine m_get (ci := 8) (C := RX8) (T := TX8) (n := 35) (v := .ref (adr 4)) hx hb hts inX8_ hown hK rfl (hM.cel (by omega) (show (mw ac adr (va_up sf 9 ((sf 9) + 1)) (va_up (va_up (va_up (va_up af 2 (upd (af 2) ns (nI (oc o)))) 3 (upd (af 3) ns (nI (on_ o)))) 4 (blk ns (mixF k (fun j => af 9 (8 * o + j)) (fun j => af 4 (8 * ns + j))) (af 4))) 5 (blk ns (mixF k (fun j => af 14 (8 * o + j)) (fun j => af 5 (8 * ns + j))) (af 5)))) 0 = .inr (8, mfs adr (va_up sf 9 ((sf 9) + 1))) from rfl)) 9 (by decide) (hts _ (by decide +kernel)) rfl dX8_sells_53 ?_
        refine lv_bipush (v := 8) hx hb dX8_sells_56 (by decide) ?_
        refine lv_aload_n hx hb dX8_sells_58 rfl (lv_at hl 0 rfl) ?_
        refine m_get (ci := 8) (C := RX8) (T := TX8) (n := 35) (v := .int (sf 5)) hx hb hts inX8_ hown hK rfl (hM.cel (by omega) (show (mw ac adr (va_up sf 9 ((sf 9) + 1)) (va_up (va_up (va_up (va_up af 2 (upd (af 2) ns (nI (oc o)))) 3 (upd (af 3) ns (nI (on_ o)))) 4 (blk ns (mixF k (fun j => af 9 (8 * o + j)) (fun j => af 4 (8 * ns + j))) (af 4))) 5 (blk ns (mixF k (fun j => af 14 (8 * o + j)) (fun j => af 5 (8 * ns + j))) (af 5)))) 0 = .inr (8, mfs adr (va_up sf 9 ((sf 9) + 1))) from rfl)) 6 (by decide) (hts _ (by decide +kernel)) rfl dX8_sells_59 ?_
        refine m_top (show (sf 5) = nI ns from hs.1) ?_
        refine lv_imul hx hb dX8_sells_62 ?_
        refine m_top (show (8 * (nI ns)) = nI (8 * ns) from by rw [show (8 : Int32) = nI 8 from rfl, pk_mul]) ?_
        refine lv_iload_n hx hb dX8_sells_63 rfl (lv_at hl 2 rfl) ?_
        refine lv_iadd hx hb dX8_sells_64 ?_
        refine m_top (show ((nI (8 * ns)) + (nI k)) = nI (8 * ns + k) from nI_add _ _) ?_
        refine lv_aload_n hx hb dX8_sells_65 rfl (lv_at hl 0 rfl) ?_
        refine m_get (ci := 8) (C := RX8) (T := TX8) (n := 35) (v := .ref (adr 9)) hx hb hts inX8_ hown hK rfl (hM.cel (by omega) (show (mw ac adr (va_up sf 9 ((sf 9) + 1)) (va_up (va_up (va_up (va_up af 2 (upd (af 2) ns (nI (oc o)))) 3 (upd (af 3) ns (nI (on_ o)))) 4 (blk ns (mixF k (fun j => af 9 (8 * o + j)) (fun j => af 4 (8 * ns + j))) (af 4))) 5 (blk ns (mixF k (fun j => af 14 (8 * o + j)) (fun j => af 5 (8 * ns + j))) (af 5)))) 0 = .inr (8, mfs adr (va_up sf 9 ((sf 9) + 1))) from rfl)) 15 (by decide) (hts _ (by decide +kernel)) rfl dX8_sells_66 ?_
        refine lv_bipush (v := 8) hx hb dX8_sells_69 (by decide) ?_
        refine lv_iload_n hx hb dX8_sells_71 rfl (lv_at hl 1 rfl) ?_
        refine lv_imul hx hb dX8_sells_72 ?_
        refine m_top (show (8 * (nI o)) = nI (8 * o) from by rw [show (8 : Int32) = nI 8 from rfl, pk_mul]) ?_
        refine lv_iload_n hx hb dX8_sells_73 rfl (lv_at hl 2 rfl) ?_
        refine lv_iadd hx hb dX8_sells_74 ?_
        refine m_top (show ((nI (8 * o)) + (nI k)) = nI (8 * o + k) from nI_add _ _) ?_
        refine m_iald hx hb hK (hM.cel (by omega) (show (mw ac adr (va_up sf 9 ((sf 9) + 1)) (va_up (va_up (va_up (va_up af 2 (upd (af 2) ns (nI (oc o)))) 3 (upd (af 3) ns (nI (on_ o)))) 4 (blk ns (mixF k (fun j => af 9 (8 * o + j)) (fun j => af 4 (8 * ns + j))) (af 4))) 5 (blk ns (mixF k (fun j => af 14 (8 * o + j)) (fun j => af 5 (8 * ns + j))) (af 5)))) 9 = .inl (ac 0, 480, .inl (af 9)) from rfl)) (vp_in_nI (by omega) (by decide)) dX8_sells_75 ?_
        refine m_top (show ((af 9) (nI (8 * o + k)).toNatClampNeg) = af 9 (8 * o + k) from by rw [nI_clamp (by omega)]) ?_
        refine m_iast hx hb hK hM hS 4 (by omega) (show (mw ac adr (va_up sf 9 ((sf 9) + 1)) (va_up (va_up (va_up (va_up af 2 (upd (af 2) ns (nI (oc o)))) 3 (upd (af 3) ns (nI (on_ o)))) 4 (blk ns (mixF k (fun j => af 9 (8 * o + j)) (fun j => af 4 (8 * ns + j))) (af 4))) 5 (blk ns (mixF k (fun j => af 14 (8 * o + j)) (fun j => af 5 (8 * ns + j))) (af 5)))) 4 = .inl (ac 0, 320, .inl (blk ns (mixF k (fun j => af 9 (8 * o + j)) (fun j => af 4 (8 * ns + j))) (af 4))) from rfl) (vp_in_nI (by omega) (by decide)) dX8_sells_76 (fun H locs hM hS => ?_)
        have ef_ : (upd (blk ns (mixF k (fun j => af 9 (8 * o + j)) (fun j => af 4 (8 * ns + j))) (af 4)) (nI (8 * ns + k)).toNatClampNeg (af 9 (8 * o + k))) = blk ns (mixF (k + 1) (fun j => af 9 (8 * o + j)) (fun j => af 4 (8 * ns + j))) (af 4) := by rw [nI_clamp (by omega)]; exact (blk_u (by omega)).trans (congrArg (fun z => blk ns z (af 4)) (mixF_s (f := (fun j => af 9 (8 * o + j)))))
        rw [ef_] at hM
        clear ef_
        have hM := MW.marr (a1 := (va_up (va_up (va_up (va_up af 2 (upd (af 2) ns (nI (oc o)))) 3 (upd (af 3) ns (nI (on_ o)))) 4 (blk ns (mixF (k + 1) (fun j => af 9 (8 * o + j)) (fun j => af 4 (8 * ns + j))) (af 4))) 5 (blk ns (mixF k (fun j => af 14 (8 * o + j)) (fun j => af 5 (8 * ns + j))) (af 5)))) hM (by decide) rfl rfl (fun j9 hj9 => by simp only [va_up, if_neg hj9])
        refine lv_aload_n hx hb dX8_sells_77 rfl (lv_at hl 0 rfl) ?_
        refine m_get (ci := 8) (C := RX8) (T := TX8) (n := 35) (v := .ref (adr 5)) hx hb hts inX8_ hown hK rfl (hM.cel (by omega) (show (mw ac adr (va_up sf 9 ((sf 9) + 1)) (va_up (va_up (va_up (va_up af 2 (upd (af 2) ns (nI (oc o)))) 3 (upd (af 3) ns (nI (on_ o)))) 4 (blk ns (mixF (k + 1) (fun j => af 9 (8 * o + j)) (fun j => af 4 (8 * ns + j))) (af 4))) 5 (blk ns (mixF k (fun j => af 14 (8 * o + j)) (fun j => af 5 (8 * ns + j))) (af 5)))) 0 = .inr (8, mfs adr (va_up sf 9 ((sf 9) + 1))) from rfl)) 10 (by decide) (hts _ (by decide +kernel)) rfl dX8_sells_78 ?_
        refine lv_bipush (v := 8) hx hb dX8_sells_81 (by decide) ?_
        refine lv_aload_n hx hb dX8_sells_83 rfl (lv_at hl 0 rfl) ?_
        refine m_get (ci := 8) (C := RX8) (T := TX8) (n := 35) (v := .int (sf 5)) hx hb hts inX8_ hown hK rfl (hM.cel (by omega) (show (mw ac adr (va_up sf 9 ((sf 9) + 1)) (va_up (va_up (va_up (va_up af 2 (upd (af 2) ns (nI (oc o)))) 3 (upd (af 3) ns (nI (on_ o)))) 4 (blk ns (mixF (k + 1) (fun j => af 9 (8 * o + j)) (fun j => af 4 (8 * ns + j))) (af 4))) 5 (blk ns (mixF k (fun j => af 14 (8 * o + j)) (fun j => af 5 (8 * ns + j))) (af 5)))) 0 = .inr (8, mfs adr (va_up sf 9 ((sf 9) + 1))) from rfl)) 6 (by decide) (hts _ (by decide +kernel)) rfl dX8_sells_84 ?_
        refine m_top (show (sf 5) = nI ns from hs.1) ?_
        refine lv_imul hx hb dX8_sells_87 ?_
        refine m_top (show (8 * (nI ns)) = nI (8 * ns) from by rw [show (8 : Int32) = nI 8 from rfl, pk_mul]) ?_
        refine lv_iload_n hx hb dX8_sells_88 rfl (lv_at hl 2 rfl) ?_
        refine lv_iadd hx hb dX8_sells_89 ?_
        refine m_top (show ((nI (8 * ns)) + (nI k)) = nI (8 * ns + k) from nI_add _ _) ?_
        refine lv_aload_n hx hb dX8_sells_90 rfl (lv_at hl 0 rfl) ?_
        refine m_get (ci := 8) (C := RX8) (T := TX8) (n := 35) (v := .ref (adr 14)) hx hb hts inX8_ hown hK rfl (hM.cel (by omega) (show (mw ac adr (va_up sf 9 ((sf 9) + 1)) (va_up (va_up (va_up (va_up af 2 (upd (af 2) ns (nI (oc o)))) 3 (upd (af 3) ns (nI (on_ o)))) 4 (blk ns (mixF (k + 1) (fun j => af 9 (8 * o + j)) (fun j => af 4 (8 * ns + j))) (af 4))) 5 (blk ns (mixF k (fun j => af 14 (8 * o + j)) (fun j => af 5 (8 * ns + j))) (af 5)))) 0 = .inr (8, mfs adr (va_up sf 9 ((sf 9) + 1))) from rfl)) 22 (by decide) (hts _ (by decide +kernel)) rfl dX8_sells_91 ?_
        refine lv_bipush (v := 8) hx hb dX8_sells_94 (by decide) ?_
        refine lv_iload_n hx hb dX8_sells_96 rfl (lv_at hl 1 rfl) ?_
        refine lv_imul hx hb dX8_sells_97 ?_
        refine m_top (show (8 * (nI o)) = nI (8 * o) from by rw [show (8 : Int32) = nI 8 from rfl, pk_mul]) ?_
        refine lv_iload_n hx hb dX8_sells_98 rfl (lv_at hl 2 rfl) ?_
        refine lv_iadd hx hb dX8_sells_99 ?_
        refine m_top (show ((nI (8 * o)) + (nI k)) = nI (8 * o + k) from nI_add _ _) ?_
        refine m_iald hx hb hK (hM.cel (by omega) (show (mw ac adr (va_up sf 9 ((sf 9) + 1)) (va_up (va_up (va_up (va_up af 2 (upd (af 2) ns (nI (oc o)))) 3 (upd (af 3) ns (nI (on_ o)))) 4 (blk ns (mixF (k + 1) (fun j => af 9 (8 * o + j)) (fun j => af 4 (8 * ns + j))) (af 4))) 5 (blk ns (mixF k (fun j => af 14 (8 * o + j)) (fun j => af 5 (8 * ns + j))) (af 5)))) 14 = .inl (ac 0, 480, .inl (af 14)) from rfl)) (vp_in_nI (by omega) (by decide)) dX8_sells_100 ?_
        refine m_top (show ((af 14) (nI (8 * o + k)).toNatClampNeg) = af 14 (8 * o + k) from by rw [nI_clamp (by omega)]) ?_
        refine m_iast hx hb hK hM hS 5 (by omega) (show (mw ac adr (va_up sf 9 ((sf 9) + 1)) (va_up (va_up (va_up (va_up af 2 (upd (af 2) ns (nI (oc o)))) 3 (upd (af 3) ns (nI (on_ o)))) 4 (blk ns (mixF (k + 1) (fun j => af 9 (8 * o + j)) (fun j => af 4 (8 * ns + j))) (af 4))) 5 (blk ns (mixF k (fun j => af 14 (8 * o + j)) (fun j => af 5 (8 * ns + j))) (af 5)))) 5 = .inl (ac 0, 320, .inl (blk ns (mixF k (fun j => af 14 (8 * o + j)) (fun j => af 5 (8 * ns + j))) (af 5))) from rfl) (vp_in_nI (by omega) (by decide)) dX8_sells_101 (fun H locs hM hS => ?_)
        have ef_ : (upd (blk ns (mixF k (fun j => af 14 (8 * o + j)) (fun j => af 5 (8 * ns + j))) (af 5)) (nI (8 * ns + k)).toNatClampNeg (af 14 (8 * o + k))) = blk ns (mixF (k + 1) (fun j => af 14 (8 * o + j)) (fun j => af 5 (8 * ns + j))) (af 5) := by rw [nI_clamp (by omega)]; exact (blk_u (by omega)).trans (congrArg (fun z => blk ns z (af 5)) (mixF_s (f := (fun j => af 14 (8 * o + j)))))
        rw [ef_] at hM
        clear ef_
        have hM := MW.marr (a1 := (va_up (va_up (va_up (va_up af 2 (upd (af 2) ns (nI (oc o)))) 3 (upd (af 3) ns (nI (on_ o)))) 4 (blk ns (mixF (k + 1) (fun j => af 9 (8 * o + j)) (fun j => af 4 (8 * ns + j))) (af 4))) 5 (blk ns (mixF (k + 1) (fun j => af 14 (8 * o + j)) (fun j => af 5 (8 * ns + j))) (af 5)))) hM (by decide) rfl rfl (fun j9 hj9 => by simp only [va_up, if_neg hj9])
        refine lv_iinc (v := nI (k + 1)) (lv' := [(2, .int (nI (k + 1))), (0, .ref (adr 0)), (1, .int (nI o))]) hx hb dX8_sells_102 hl (k := 2) rfl (nI_1 _) (by decide) rfl (fun ls hl => ?_)
        refine lv_goto (tgt := 42) hx hb dX8_sells_105 (by decide) ?_
        exact ih42 (k + 1) (by omega) (by omega) _ _ (MW.cg hM (fun _ => rfl) (fun j9 => if q0_ : j9 = 4 then (by subst q0_; rfl) else if q1_ : j9 = 5 then (by subst q1_; rfl) else (by first | rfl | simp only [va_up, if_neg q0_, if_neg q1_] | fail))) hS ls (lv_sub hl [1, 2, 0] rfl)
  exact L42 _ 0 (Nat.lt_succ_self _) (Nat.zero_le _) _ _ (MW.cg hM (fun _ => rfl) (fun j9 => if q0_ : j9 = 4 then (by subst q0_; rfl) else if q1_ : j9 = 5 then (by subst q1_; rfl) else (by first | rfl | simp only [va_up, if_neg q0_, if_neg q1_] | fail))) hS ls (lv_sub hl [1, 2, 0] rfl)
set_option maxHeartbeats 4000000 in
set_option maxRecDepth 100000 in
/-- X8_deliver -/
theorem k_X8_deliver (l : Launch) (D : va_G) (ac : Nat → ClassId) (H : Heap) (A : Nat → Prop) (adr : Nat → Nat) (sf : Nat → Int32) (af : Nat → Nat → Int32) (hM : MW D A 24 adr (mw ac adr sf af) H) (fs fr : Nat → Int32) (hSy : SayR af fs fr) (no : Nat) (oc on_ : Nat → Nat) (owd : Nat → Nat → Nat) (rb st : Nat → Int32) (ho : MOrd sf af no oc on_ owd rb st) (ns : Nat) (sc sn : Nat → Nat) (sw : Nat → Nat → Nat) (sb : Nat → Nat → Int32) (hs : MSen sf af ns sc sn sw sb) (hd : Nat → Option Nat) (hh : MHan af no hd) (obf : Nat → Nat → Int32) (mt co py : Nat → Int32) (hk : MTak af hd on_ obf mt co py) (x : Int32) : WRi l yX8_deliver wsX8_deliver ({ frames := 6, cells := 0, slots := 0, locals := 137 }) [.ref (adr 0), .int x] D ac H A 24 adr (MPo ac adr sf af (cd2 (ix x 4).isNone (((ix x 4).bind hd).elim true (fun o => !dlv (rb o) (on_ o) fr (oc o) (owd o) (obf o) || decide (ns = 40)))) (fun r s1 a1 => ∃ t o, t < 4 ∧ x = nI t ∧ hd t = some o ∧ dlv (rb o) (on_ o) fr (oc o) (owd o) (obf o) = true ∧ ns < 40 ∧ r = nI ns ∧ s1 = (va_up (va_up (va_up (va_up sf 0 0) 5 (nI (ns + 1))) 9 (sf 9 + 1)) 10 ((lsF (fun i => asB fr ((va_up sc ns (oc o)) i) ((va_up sn ns (on_ o)) i) ((va_up sw ns (owd o)) i) ((va_up sb ns (obf o)) i)) (af 19) (sf 10) (ns + 1)).2)) ∧ a1 = (va_up (va_up (va_up (va_up (va_up (va_up (va_up (va_up (va_up af 2 (upd (af 2) ns (nI (oc o)))) 3 (upd (af 3) ns (nI (on_ o)))) 4 (blk ns (mixF (on_ o) (fun j => af 9 (8 * o + j)) (fun j => af 4 (8 * ns + j))) (af 4))) 5 (blk ns (mixF (on_ o) (fun j => af 14 (8 * o + j)) (fun j => af 5 (8 * ns + j))) (af 5))) 6 (upd (af 6) ns (sf 9 + 1))) 11 (upd (af 11) o (-2))) 19 ((lsF (fun i => asB fr ((va_up sc ns (oc o)) i) ((va_up sn ns (on_ o)) i) ((va_up sw ns (owd o)) i) ((va_up sb ns (obf o)) i)) (af 19) (sf 10) (ns + 1)).1)) 20 (upd (af 20) (oc o) (af 20 (oc o) + co o))) 21 (upd (af 21) t (af 21 t + py o))))) := by
  refine Met.ofW (cc := cX8_deliver) (maxL := 4) (ret := (some .int)) (by decide) rfl ?_
  intro p e s m args below meth c s₁ B hml hv
  obtain ⟨hargs, hsz, hK⟩ := hv
  have hx := B.exec
  have hb := B.bytes
  have hr := B.returns
  have hts := atoms_spec (ws := wsX8_deliver) B.pre
  have hown : s.vm.findClass RX8 = some m.cls := findClass_of_methodNamed B.named
  have hlocks := B.notSynchronized
  subst hsz
  have inX8_ : ∀ w ∈ wsX80, w ∈ wsX8_deliver := by decide +kernel
  have hS : va_S A s.heap s.heap [] := va_S.rf
  have hl := lv_entry ([.ref (adr 0), .int x]) (n := 4) (Nat.le_of_ble_eq_true rfl)
  have hen := lg_entry_eq m [.ref (adr 0), .int x] 4
  rw [← hargs] at hen
  rw [hen]
  generalize (lg_sl ([.ref (adr 0), .int x]) ++ List.replicate (4 - (lg_sl ([.ref (adr 0), .int x])).length) Slot.unset).toArray = ls at hl ⊢
  have hl : lv_has ls 4 [(0, .ref (adr 0)), (1, .int x)] := hl
  obtain ⟨Q0, hQ0⟩ : ∃ z0_, z0_ = MQ below (va_Qi (MPo ac adr sf af (cd2 (ix x 4).isNone (((ix x 4).bind hd).elim true (fun o => !dlv (rb o) (on_ o) fr (oc o) (owd o) (obf o) || decide (ns = 40)))) (fun r s1 a1 => ∃ t o, t < 4 ∧ x = nI t ∧ hd t = some o ∧ dlv (rb o) (on_ o) fr (oc o) (owd o) (obf o) = true ∧ ns < 40 ∧ r = nI ns ∧ s1 = (va_up (va_up (va_up (va_up sf 0 0) 5 (nI (ns + 1))) 9 (sf 9 + 1)) 10 ((lsF (fun i => asB fr ((va_up sc ns (oc o)) i) ((va_up sn ns (on_ o)) i) ((va_up sw ns (owd o)) i) ((va_up sb ns (obf o)) i)) (af 19) (sf 10) (ns + 1)).2)) ∧ a1 = (va_up (va_up (va_up (va_up (va_up (va_up (va_up (va_up (va_up af 2 (upd (af 2) ns (nI (oc o)))) 3 (upd (af 3) ns (nI (on_ o)))) 4 (blk ns (mixF (on_ o) (fun j => af 9 (8 * o + j)) (fun j => af 4 (8 * ns + j))) (af 4))) 5 (blk ns (mixF (on_ o) (fun j => af 14 (8 * o + j)) (fun j => af 5 (8 * ns + j))) (af 5))) 6 (upd (af 6) ns (sf 9 + 1))) 11 (upd (af 11) o (-2))) 19 ((lsF (fun i => asB fr ((va_up sc ns (oc o)) i) ((va_up sn ns (on_ o)) i) ((va_up sw ns (owd o)) i) ((va_up sb ns (obf o)) i)) (af 19) (sf 10) (ns + 1)).1)) 20 (upd (af 20) (oc o) (af 20 (oc o) + co o))) 21 (upd (af 21) t (af 21 t + py o))))) (fun c t => MW D A 24 adr c t.heap) A) args s 0 0 A := ⟨_, rfl⟩
  rw [← hQ0]
  have h60 := ho.2.1
  have h7 := hs.2.1
  refine lv_iload_n hx hb dX8_deliver_0 rfl (lv_at hl 1 rfl) ?_
  refine lv_iconst (v := 4) hx hb dX8_deliver_1 (by decide) ?_
  refine m_top (show (4 : Int32) = nI 4 from rfl) ?_
  refine r_calli (va_runS (As := [.int x, .int (nI 4)]) (rest := []) ⟨hx, hb, hml, hown, hts⟩ (k_X8_isIn l D ac _ x 4 (by omega)) (va_cwS 2 hts gX8_deliver_X8_isIn rfl rfl rfl (by decide +kernel) ⟨Nat.le_of_ble_eq_true rfl, Nat.le_of_ble_eq_true rfl⟩) (pS hK) rfl rfl hl.1 rfl (lv_room (Nat.le_of_ble_eq_true rfl)) dX8_deliver_2 ⟨Nat.le_of_ble_eq_true rfl, Nat.le_of_ble_eq_true rfl⟩) hS (fun rv_1 locs hrv_1 hS => ?_)
  subst hrv_1
  rcases hi_x : ix x 4 with _ | k_x
  · refine m_top (show _ = (0 : Int32) from rfl) ?_
    refine lv_istore_n (lv' := [(2, .int 0), (0, .ref (adr 0)), (1, .int x)]) hx hb dX8_deliver_5 rfl hl (by decide) rfl (fun ls hl => ?_)
    refine lv_iload_n hx hb dX8_deliver_6 rfl (lv_at hl 0 rfl) ?_
    refine lv_if_eq (tgt := 18) hx hb dX8_deliver_7 (by decide) (fun c7 => ?_) (fun c7 => ?_)
    · refine lv_iconst (v := (-1)) hx hb dX8_deliver_18 (by decide) ?_
      refine lv_istore_n (lv' := [(3, .int (-1)), (2, .int 0), (0, .ref (adr 0)), (1, .int x)]) hx hb dX8_deliver_19 rfl hl (by decide) rfl (fun ls hl => ?_)
      refine lv_aload_n hx hb dX8_deliver_20 rfl (lv_at hl 2 rfl) ?_
      refine lv_iload_n hx hb dX8_deliver_21 rfl (lv_at hl 1 rfl) ?_
      refine lv_if_ne (tgt := 29) hx hb dX8_deliver_22 (by decide) (fun c22 => ?_) (fun c22 => ?_)
      · exact absurd c22 (by decide)
      · refine lv_iconst (v := 1) hx hb dX8_deliver_25 (by decide) ?_
        refine lv_goto (tgt := 57) hx hb dX8_deliver_26 (by decide) ?_
        refine w_calli (va_runV (As := [.int 1]) (rest := []) ⟨hx, hb, hml, hown, hts⟩ (k_X8_holds l D ac _ A adr sf af hM 1) (cwV 1 hts gX8_deliver_X8_holds rfl rfl rfl (by decide +kernel) ⟨Nat.le_of_ble_eq_true rfl, Nat.le_of_ble_eq_true rfl⟩) (pV hK (ci := 8) rfl (hM.cel (by omega) (show (mw ac adr sf af) 0 = .inr (8, mfs adr sf) from rfl))) rfl rfl hl.1 rfl (lv_room (Nat.le_of_ble_eq_true rfl)) dX8_deliver_57 ⟨Nat.le_of_ble_eq_true rfl, Nat.le_of_ble_eq_true rfl⟩) hS (fun rv_2 w_3 H locs hw_3 hM hS => ?_)
        obtain ⟨hrv_2, he_4⟩ := hw_3
        rw [he_4] at hM
        have hM := (MW.cg (s1 := (va_up sf 0 1)) (a1 := af) hM (fun j9 => if q0_ : j9 = 0 then (by subst q0_; rfl) else (by first | rfl | simp only [va_up, if_neg q0_] | fail)) (fun _ => rfl))
        subst hrv_2
        refine m_top (show _ = (0 : Int32) from rfl) ?_
        refine lv_if_ne (tgt := 65) hx hb dX8_deliver_60 (by decide) (fun c60 => ?_) (fun c60 => ?_)
        · exact absurd c60 (by decide)
        · refine lv_iconst (v := 0) hx hb dX8_deliver_63 (by decide) ?_
          rw [hQ0]
          exact e_wi hx hb hlocks hr dX8_deliver_64 hM hS (MPo.no (c := 1) (by simp [cd1, cd2, cd3, hi_x] : cd2 (ix x 4).isNone (((ix x 4).bind hd).elim true (fun o => !dlv (rb o) (on_ o) fr (oc o) (owd o) (obf o) || decide (ns = 40))) = 1) (by decide) rfl ⟨fun k9 u1_ u2_ => by first | rfl | simp only [va_up, if_neg u1_, if_neg u2_] | fail, fun k9 u1_ u2_ => by first | rfl | simp only [va_up, if_neg u1_, if_neg u2_] | fail⟩)
    · exact absurd c7 (by decide)
  · obtain ⟨b_x, e_x⟩ := ix_of hi_x (by omega)
    refine m_top (show _ = (1 : Int32) from rfl) ?_
    subst e_x
    refine lv_istore_n (lv' := [(2, .int 1), (0, .ref (adr 0)), (1, .int (nI k_x))]) hx hb dX8_deliver_5 rfl hl (by decide) rfl (fun ls hl => ?_)
    refine lv_iload_n hx hb dX8_deliver_6 rfl (lv_at hl 0 rfl) ?_
    refine lv_if_eq (tgt := 18) hx hb dX8_deliver_7 (by decide) (fun c7 => ?_) (fun c7 => ?_)
    · exact absurd c7 (by decide)
    · refine lv_aload_n hx hb dX8_deliver_10 rfl (lv_at hl 1 rfl) ?_
      refine lv_iload_n hx hb dX8_deliver_11 rfl (lv_at hl 2 rfl) ?_
      refine r_calli (va_runV (As := [.int (nI k_x)]) (rest := []) ⟨hx, hb, hml, hown, hts⟩ (k_X8_orderOf l D ac _ A adr sf af hM no ho.1 ho.2.1 (nI k_x)) (cwV 1 hts gX8_deliver_X8_orderOf rfl rfl rfl (by decide +kernel) ⟨Nat.le_of_ble_eq_true rfl, Nat.le_of_ble_eq_true rfl⟩) (pV hK (ci := 8) rfl (hM.cel (by omega) (show (mw ac adr sf af) 0 = .inr (8, mfs adr sf) from rfl))) rfl rfl hl.1 rfl (lv_room (Nat.le_of_ble_eq_true rfl)) dX8_deliver_12 ⟨Nat.le_of_ble_eq_true rfl, Nat.le_of_ble_eq_true rfl⟩) hS (fun rv_5 locs hrv_5 hS => ?_)
      subst hrv_5
      rcases eh : hd k_x with _ | o
      · refine m_top (show (loF (af 11) (nI k_x) no) = (-1 : Int32) from by rw [(hh k_x b_x).1, eh]; rfl) ?_
        refine lv_goto (tgt := 19) hx hb dX8_deliver_15 (by decide) ?_
        refine lv_istore_n (lv' := [(3, .int (-1)), (2, .int 1), (0, .ref (adr 0)), (1, .int (nI k_x))]) hx hb dX8_deliver_19 rfl hl (by decide) rfl (fun ls hl => ?_)
        refine lv_aload_n hx hb dX8_deliver_20 rfl (lv_at hl 2 rfl) ?_
        refine lv_iload_n hx hb dX8_deliver_21 rfl (lv_at hl 1 rfl) ?_
        refine lv_if_ne (tgt := 29) hx hb dX8_deliver_22 (by decide) (fun c22 => ?_) (fun c22 => ?_)
        · refine lv_iload_n hx hb dX8_deliver_29 rfl (lv_at hl 0 rfl) ?_
          refine lv_iconst (v := (-1)) hx hb dX8_deliver_30 (by decide) ?_
          refine lv_icmp_eq (tgt := 52) hx hb dX8_deliver_31 (by decide) (fun c31 => ?_) (fun c31 => ?_)
          · refine lv_iconst (v := 2) hx hb dX8_deliver_52 (by decide) ?_
            refine lv_goto (tgt := 57) hx hb dX8_deliver_53 (by decide) ?_
            refine w_calli (va_runV (As := [.int 2]) (rest := []) ⟨hx, hb, hml, hown, hts⟩ (k_X8_holds l D ac _ A adr sf af hM 2) (cwV 1 hts gX8_deliver_X8_holds rfl rfl rfl (by decide +kernel) ⟨Nat.le_of_ble_eq_true rfl, Nat.le_of_ble_eq_true rfl⟩) (pV hK (ci := 8) rfl (hM.cel (by omega) (show (mw ac adr sf af) 0 = .inr (8, mfs adr sf) from rfl))) rfl rfl hl.1 rfl (lv_room (Nat.le_of_ble_eq_true rfl)) dX8_deliver_57 ⟨Nat.le_of_ble_eq_true rfl, Nat.le_of_ble_eq_true rfl⟩) hS (fun rv_6 w_7 H locs hw_7 hM hS => ?_)
            obtain ⟨hrv_6, he_8⟩ := hw_7
            rw [he_8] at hM
            have hM := (MW.cg (s1 := (va_up sf 0 2)) (a1 := af) hM (fun j9 => if q0_ : j9 = 0 then (by subst q0_; rfl) else (by first | rfl | simp only [va_up, if_neg q0_] | fail)) (fun _ => rfl))
            subst hrv_6
            refine m_top (show _ = (0 : Int32) from rfl) ?_
            refine lv_if_ne (tgt := 65) hx hb dX8_deliver_60 (by decide) (fun c60 => ?_) (fun c60 => ?_)
            · exact absurd c60 (by decide)
            · refine lv_iconst (v := 0) hx hb dX8_deliver_63 (by decide) ?_
              rw [hQ0]
              exact e_wi hx hb hlocks hr dX8_deliver_64 hM hS (MPo.no (c := 2) (by simp [cd1, cd2, cd3, hi_x, eh] : cd2 (ix (nI k_x) 4).isNone (((ix (nI k_x) 4).bind hd).elim true (fun o => !dlv (rb o) (on_ o) fr (oc o) (owd o) (obf o) || decide (ns = 40))) = 2) (by decide) rfl ⟨fun k9 u1_ u2_ => by first | rfl | simp only [va_up, if_neg u1_, if_neg u2_] | fail, fun k9 u1_ u2_ => by first | rfl | simp only [va_up, if_neg u1_, if_neg u2_] | fail⟩)
          · exact absurd c31 (by decide)
        · exact absurd c22 (by decide)
      · have ho9 := (hh k_x b_x).2 o eh
        obtain ⟨o1_, o2_, ⟨o3_, o4_, o5_⟩, ⟨o6_, o7_⟩, o8_⟩ := ho.2.2 o ho9
        refine m_top (show (loF (af 11) (nI k_x) no) = nI o from by rw [(hh k_x b_x).1, eh]; rfl) ?_
        refine lv_goto (tgt := 19) hx hb dX8_deliver_15 (by decide) ?_
        refine lv_istore_n (lv' := [(3, .int (nI o)), (2, .int 1), (0, .ref (adr 0)), (1, .int (nI k_x))]) hx hb dX8_deliver_19 rfl hl (by decide) rfl (fun ls hl => ?_)
        refine lv_aload_n hx hb dX8_deliver_20 rfl (lv_at hl 2 rfl) ?_
        refine lv_iload_n hx hb dX8_deliver_21 rfl (lv_at hl 1 rfl) ?_
        refine lv_if_ne (tgt := 29) hx hb dX8_deliver_22 (by decide) (fun c22 => ?_) (fun c22 => ?_)
        · refine lv_iload_n hx hb dX8_deliver_29 rfl (lv_at hl 0 rfl) ?_
          refine lv_iconst (v := (-1)) hx hb dX8_deliver_30 (by decide) ?_
          refine lv_icmp_eq (tgt := 52) hx hb dX8_deliver_31 (by decide) (fun c31 => ?_) (fun c31 => ?_)
          · exact absurd c31 (nI_m1 (by omega))
          · refine lv_aload_n hx hb dX8_deliver_34 rfl (lv_at hl 2 rfl) ?_
            refine lv_iload_n hx hb dX8_deliver_35 rfl (lv_at hl 0 rfl) ?_
            refine r_calli (va_runV (As := [.int (nI o)]) (rest := [.ref (adr 0)]) ⟨hx, hb, hml, hown, hts⟩ (k_X8_hindered l D ac _ A adr sf af hM fs fr (hSy.t rfl) no oc on_ owd rb st (ho.t rfl rfl rfl rfl rfl rfl) o ho9 (obf o) ((hk k_x o b_x eh).2)) (cwV 1 hts gX8_deliver_X8_hindered rfl rfl rfl (by decide +kernel) ⟨Nat.le_of_ble_eq_true rfl, Nat.le_of_ble_eq_true rfl⟩) (pV hK (ci := 8) rfl (hM.cel (by omega) (show (mw ac adr sf af) 0 = .inr (8, mfs adr sf) from rfl))) rfl rfl hl.1 rfl (lv_room (Nat.le_of_ble_eq_true rfl)) dX8_deliver_36 ⟨Nat.le_of_ble_eq_true rfl, Nat.le_of_ble_eq_true rfl⟩) hS (fun rv_9 locs hrv_9 hS => ?_)
            have dv_ := whe_dlv o4_ hrv_9
            refine lv_iconst (v := (-1)) hx hb dX8_deliver_39 (by decide) ?_
            refine lv_icmp_ne (tgt := 52) hx hb dX8_deliver_40 (by decide) (fun c40 => ?_) (fun c40 => ?_)
            · have f40 : dlv (rb o) (on_ o) fr (oc o) (owd o) (obf o) = false := Bool.eq_false_iff.mpr (fun q => c40 (dv_.mpr q))
              refine lv_iconst (v := 2) hx hb dX8_deliver_52 (by decide) ?_
              refine lv_goto (tgt := 57) hx hb dX8_deliver_53 (by decide) ?_
              refine w_calli (va_runV (As := [.int 2]) (rest := []) ⟨hx, hb, hml, hown, hts⟩ (k_X8_holds l D ac _ A adr sf af hM 2) (cwV 1 hts gX8_deliver_X8_holds rfl rfl rfl (by decide +kernel) ⟨Nat.le_of_ble_eq_true rfl, Nat.le_of_ble_eq_true rfl⟩) (pV hK (ci := 8) rfl (hM.cel (by omega) (show (mw ac adr sf af) 0 = .inr (8, mfs adr sf) from rfl))) rfl rfl hl.1 rfl (lv_room (Nat.le_of_ble_eq_true rfl)) dX8_deliver_57 ⟨Nat.le_of_ble_eq_true rfl, Nat.le_of_ble_eq_true rfl⟩) hS (fun rv_10 w_11 H locs hw_11 hM hS => ?_)
              obtain ⟨hrv_10, he_12⟩ := hw_11
              rw [he_12] at hM
              have hM := (MW.cg (s1 := (va_up sf 0 2)) (a1 := af) hM (fun j9 => if q0_ : j9 = 0 then (by subst q0_; rfl) else (by first | rfl | simp only [va_up, if_neg q0_] | fail)) (fun _ => rfl))
              subst hrv_10
              refine m_top (show _ = (0 : Int32) from rfl) ?_
              refine lv_if_ne (tgt := 65) hx hb dX8_deliver_60 (by decide) (fun c60 => ?_) (fun c60 => ?_)
              · exact absurd c60 (by decide)
              · refine lv_iconst (v := 0) hx hb dX8_deliver_63 (by decide) ?_
                rw [hQ0]
                exact e_wi hx hb hlocks hr dX8_deliver_64 hM hS (MPo.no (c := 2) (by simp [cd1, cd2, cd3, hi_x, eh, f40] : cd2 (ix (nI k_x) 4).isNone (((ix (nI k_x) 4).bind hd).elim true (fun o => !dlv (rb o) (on_ o) fr (oc o) (owd o) (obf o) || decide (ns = 40))) = 2) (by decide) rfl ⟨fun k9 u1_ u2_ => by first | rfl | simp only [va_up, if_neg u1_, if_neg u2_] | fail, fun k9 u1_ u2_ => by first | rfl | simp only [va_up, if_neg u1_, if_neg u2_] | fail⟩)
            · have f40 : dlv (rb o) (on_ o) fr (oc o) (owd o) (obf o) = true := dv_.mp c40
              refine lv_aload_n hx hb dX8_deliver_43 rfl (lv_at hl 2 rfl) ?_
              refine m_get (ci := 8) (C := RX8) (T := TX8) (n := 35) (v := .int (sf 5)) hx hb hts inX8_ hown hK rfl (hM.cel (by omega) (show (mw ac adr sf af) 0 = .inr (8, mfs adr sf) from rfl)) 6 (by decide) (hts _ (by decide +kernel)) rfl dX8_deliver_44 ?_
              refine m_top (show (sf 5) = nI ns from hs.1) ?_
              refine lv_bipush (v := 40) hx hb dX8_deliver_47 (by decide) ?_
              refine lv_icmp_ne (tgt := 56) hx hb dX8_deliver_49 (by decide) (fun c49 => ?_) (fun c49 => ?_)
              · have f48 : ¬ ns = 40 := fun q => c49 (congrArg nI q)
                have f49 : ns < 40 := by omega
                refine lv_iconst (v := 0) hx hb dX8_deliver_56 (by decide) ?_
                refine w_calli (va_runV (As := [.int 0]) (rest := []) ⟨hx, hb, hml, hown, hts⟩ (k_X8_holds l D ac _ A adr sf af hM 0) (cwV 1 hts gX8_deliver_X8_holds rfl rfl rfl (by decide +kernel) ⟨Nat.le_of_ble_eq_true rfl, Nat.le_of_ble_eq_true rfl⟩) (pV hK (ci := 8) rfl (hM.cel (by omega) (show (mw ac adr sf af) 0 = .inr (8, mfs adr sf) from rfl))) rfl rfl hl.1 rfl (lv_room (Nat.le_of_ble_eq_true rfl)) dX8_deliver_57 ⟨Nat.le_of_ble_eq_true rfl, Nat.le_of_ble_eq_true rfl⟩) hS (fun rv_13 w_14 H locs hw_14 hM hS => ?_)
                obtain ⟨hrv_13, he_15⟩ := hw_14
                rw [he_15] at hM
                have hM := (MW.cg (s1 := (va_up sf 0 0)) (a1 := af) hM (fun j9 => if q0_ : j9 = 0 then (by subst q0_; rfl) else (by first | rfl | simp only [va_up, if_neg q0_] | fail)) (fun _ => rfl))
                subst hrv_13
                refine m_top (show _ = (1 : Int32) from rfl) ?_
                refine lv_if_ne (tgt := 65) hx hb dX8_deliver_60 (by decide) (fun c60 => ?_) (fun c60 => ?_)
                · refine lv_aload_n hx hb dX8_deliver_65 rfl (lv_at hl 2 rfl) ?_
                  refine m_get (ci := 8) (C := RX8) (T := TX8) (n := 35) (v := .ref (adr 20)) hx hb hts inX8_ hown hK rfl (hM.cel (by omega) (show (mw ac adr (va_up sf 0 0) af) 0 = .inr (8, mfs adr (va_up sf 0 0)) from rfl)) 30 (by decide) (hts _ (by decide +kernel)) rfl dX8_deliver_66 ?_
                  refine lv_aload_n hx hb dX8_deliver_69 rfl (lv_at hl 2 rfl) ?_
                  refine m_get (ci := 8) (C := RX8) (T := TX8) (n := 35) (v := .ref (adr 7)) hx hb hts inX8_ hown hK rfl (hM.cel (by omega) (show (mw ac adr (va_up sf 0 0) af) 0 = .inr (8, mfs adr (va_up sf 0 0)) from rfl)) 13 (by decide) (hts _ (by decide +kernel)) rfl dX8_deliver_70 ?_
                  refine lv_iload_n hx hb dX8_deliver_73 rfl (lv_at hl 0 rfl) ?_
                  refine m_iald hx hb hK (hM.cel (by omega) (show (mw ac adr (va_up sf 0 0) af) 7 = .inl (ac 0, 60, .inl (af 7)) from rfl)) (vp_in_nI (by omega) (by decide)) dX8_deliver_74 ?_
                  refine m_top (show ((af 7) (nI o).toNatClampNeg) = nI (oc o) from by rw [nI_clamp (by omega)]; exact o1_) ?_
                  refine lv_dup2_11 hx hb dX8_deliver_75 rfl rfl ?_
                  refine m_iald hx hb hK (hM.cel (by omega) (show (mw ac adr (va_up sf 0 0) af) 20 = .inl (ac 0, 4, .inl (af 20)) from rfl)) (vp_in_nI (by omega) (by decide)) dX8_deliver_76 ?_
                  refine m_top (show ((af 20) (nI (oc o)).toNatClampNeg) = af 20 (oc o) from by rw [nI_clamp (by omega)]) ?_
                  refine lv_aload_n hx hb dX8_deliver_77 rfl (lv_at hl 2 rfl) ?_
                  refine m_get (ci := 8) (C := RX8) (T := TX8) (n := 35) (v := .ref (adr 15)) hx hb hts inX8_ hown hK rfl (hM.cel (by omega) (show (mw ac adr (va_up sf 0 0) af) 0 = .inr (8, mfs adr (va_up sf 0 0)) from rfl)) 23 (by decide) (hts _ (by decide +kernel)) rfl dX8_deliver_78 ?_
                  refine lv_iload_n hx hb dX8_deliver_81 rfl (lv_at hl 0 rfl) ?_
                  refine m_iald hx hb hK (hM.cel (by omega) (show (mw ac adr (va_up sf 0 0) af) 15 = .inl (ac 0, 60, .inl (af 15)) from rfl)) (vp_in_nI (by omega) (by decide)) dX8_deliver_82 ?_
                  refine m_top (show ((af 15) (nI o).toNatClampNeg) = co o from by rw [nI_clamp (by omega)]; exact (hk k_x o b_x eh).1.2.1) ?_
                  refine lv_iadd hx hb dX8_deliver_83 ?_
                  refine m_iast hx hb hK hM hS 20 (by omega) (show (mw ac adr (va_up sf 0 0) af) 20 = .inl (ac 0, 4, .inl (af 20)) from rfl) (vp_in_nI (by omega) (by decide)) dX8_deliver_84 (fun H locs hM hS => ?_)
                  have ef_ : (upd (af 20) (nI (oc o)).toNatClampNeg ((af 20 (oc o)) + (co o))) = upd (af 20) (oc o) (af 20 (oc o) + co o) := by rw [nI_clamp (by omega)]
                  rw [ef_] at hM
                  clear ef_
                  have hM := MW.marr (a1 := (va_up af 20 (upd (af 20) (oc o) (af 20 (oc o) + co o)))) hM (by decide) rfl rfl (fun j9 hj9 => by simp only [va_up, if_neg hj9])
                  refine lv_aload_n hx hb dX8_deliver_85 rfl (lv_at hl 2 rfl) ?_
                  refine m_get (ci := 8) (C := RX8) (T := TX8) (n := 35) (v := .ref (adr 21)) hx hb hts inX8_ hown hK rfl (hM.cel (by omega) (show (mw ac adr (va_up sf 0 0) (va_up af 20 (upd (af 20) (oc o) (af 20 (oc o) + co o)))) 0 = .inr (8, mfs adr (va_up sf 0 0)) from rfl)) 31 (by decide) (hts _ (by decide +kernel)) rfl dX8_deliver_86 ?_
                  refine lv_iload_n hx hb dX8_deliver_89 rfl (lv_at hl 3 rfl) ?_
                  refine lv_dup2_11 hx hb dX8_deliver_90 rfl rfl ?_
                  refine m_iald hx hb hK (hM.cel (by omega) (show (mw ac adr (va_up sf 0 0) (va_up af 20 (upd (af 20) (oc o) (af 20 (oc o) + co o)))) 21 = .inl (ac 0, 4, .inl (af 21)) from rfl)) (vp_in_nI (by omega) (by decide)) dX8_deliver_91 ?_
                  refine m_top (show ((af 21) (nI k_x).toNatClampNeg) = af 21 k_x from by rw [nI_clamp (by omega)]) ?_
                  refine lv_aload_n hx hb dX8_deliver_92 rfl (lv_at hl 2 rfl) ?_
                  refine m_get (ci := 8) (C := RX8) (T := TX8) (n := 35) (v := .ref (adr 16)) hx hb hts inX8_ hown hK rfl (hM.cel (by omega) (show (mw ac adr (va_up sf 0 0) (va_up af 20 (upd (af 20) (oc o) (af 20 (oc o) + co o)))) 0 = .inr (8, mfs adr (va_up sf 0 0)) from rfl)) 24 (by decide) (hts _ (by decide +kernel)) rfl dX8_deliver_93 ?_
                  refine lv_iload_n hx hb dX8_deliver_96 rfl (lv_at hl 0 rfl) ?_
                  refine m_iald hx hb hK (hM.cel (by omega) (show (mw ac adr (va_up sf 0 0) (va_up af 20 (upd (af 20) (oc o) (af 20 (oc o) + co o)))) 16 = .inl (ac 0, 60, .inl (af 16)) from rfl)) (vp_in_nI (by omega) (by decide)) dX8_deliver_97 ?_
                  refine m_top (show ((af 16) (nI o).toNatClampNeg) = py o from by rw [nI_clamp (by omega)]; exact (hk k_x o b_x eh).1.2.2) ?_
                  refine lv_iadd hx hb dX8_deliver_98 ?_
                  refine m_iast hx hb hK hM hS 21 (by omega) (show (mw ac adr (va_up sf 0 0) (va_up af 20 (upd (af 20) (oc o) (af 20 (oc o) + co o)))) 21 = .inl (ac 0, 4, .inl (af 21)) from rfl) (vp_in_nI (by omega) (by decide)) dX8_deliver_99 (fun H locs hM hS => ?_)
                  have ef_ : (upd (af 21) (nI k_x).toNatClampNeg ((af 21 k_x) + (py o))) = upd (af 21) k_x (af 21 k_x + py o) := by rw [nI_clamp (by omega)]
                  rw [ef_] at hM
                  clear ef_
                  have hM := MW.marr (a1 := (va_up (va_up af 20 (upd (af 20) (oc o) (af 20 (oc o) + co o))) 21 (upd (af 21) k_x (af 21 k_x + py o)))) hM (by decide) rfl rfl (fun j9 hj9 => by simp only [va_up, if_neg hj9])
                  refine lv_aload_n hx hb dX8_deliver_100 rfl (lv_at hl 2 rfl) ?_
                  refine lv_iload_n hx hb dX8_deliver_101 rfl (lv_at hl 0 rfl) ?_
                  refine w_callv (va_runV (As := [.int (nI o)]) (rest := []) ⟨hx, hb, hml, hown, hts⟩ (k_X8_sells l D ac _ A adr (va_up sf 0 0) (va_up (va_up af 20 (upd (af 20) (oc o) (af 20 (oc o) + co o))) 21 (upd (af 21) k_x (af 21 k_x + py o))) hM fs fr (hSy.t rfl) no oc on_ owd rb st (ho.t rfl rfl rfl rfl rfl rfl) ns sc sn sw sb (hs.t rfl rfl rfl rfl rfl) f49 o ho9 (obf o) (hk k_x o b_x eh).2) (cwV 1 hts gX8_deliver_X8_sells rfl rfl rfl (by decide +kernel) ⟨Nat.le_of_ble_eq_true rfl, Nat.le_of_ble_eq_true rfl⟩) (pV hK (ci := 8) rfl (hM.cel (by omega) (show (mw ac adr (va_up sf 0 0) (va_up (va_up af 20 (upd (af 20) (oc o) (af 20 (oc o) + co o))) 21 (upd (af 21) k_x (af 21 k_x + py o)))) 0 = .inr (8, mfs adr (va_up sf 0 0)) from rfl))) rfl rfl hl.1 rfl (lv_room (Nat.le_of_ble_eq_true rfl)) dX8_deliver_102 ⟨Nat.le_of_ble_eq_true rfl, Nat.le_of_ble_eq_true rfl⟩) hS (fun w_19 H locs hw_19 hM hS => ?_)
                  have he_20 := hw_19
                  rw [he_20] at hM
                  have hM := (MW.cg (s1 := (va_up (va_up (va_up (va_up sf 0 0) 5 (nI (ns + 1))) 9 (sf 9 + 1)) 10 ((lsF (fun i => asB fr ((va_up sc ns (oc o)) i) ((va_up sn ns (on_ o)) i) ((va_up sw ns (owd o)) i) ((va_up sb ns (obf o)) i)) (af 19) (sf 10) (ns + 1)).2))) (a1 := (va_up (va_up (va_up (va_up (va_up (va_up (va_up (va_up (va_up af 2 (upd (af 2) ns (nI (oc o)))) 3 (upd (af 3) ns (nI (on_ o)))) 4 (blk ns (mixF (on_ o) (fun j => af 9 (8 * o + j)) (fun j => af 4 (8 * ns + j))) (af 4))) 5 (blk ns (mixF (on_ o) (fun j => af 14 (8 * o + j)) (fun j => af 5 (8 * ns + j))) (af 5))) 6 (upd (af 6) ns (sf 9 + 1))) 11 (upd (af 11) o (-2))) 19 ((lsF (fun i => asB fr ((va_up sc ns (oc o)) i) ((va_up sn ns (on_ o)) i) ((va_up sw ns (owd o)) i) ((va_up sb ns (obf o)) i)) (af 19) (sf 10) (ns + 1)).1)) 20 (upd (af 20) (oc o) (af 20 (oc o) + co o))) 21 (upd (af 21) k_x (af 21 k_x + py o)))) hM (fun j9 => if q0_ : j9 = 5 then (by subst q0_; rfl) else if q1_ : j9 = 9 then (by subst q1_; rfl) else if q2_ : j9 = 10 then (by subst q2_; rfl) else (by first | rfl | simp only [va_up, if_neg q0_, if_neg q1_, if_neg q2_] | fail)) (fun j9 => if q0_ : j9 = 2 then (by subst q0_; rfl) else if q1_ : j9 = 3 then (by subst q1_; rfl) else if q2_ : j9 = 4 then (by subst q2_; rfl) else if q3_ : j9 = 5 then (by subst q3_; rfl) else if q4_ : j9 = 6 then (by subst q4_; rfl) else if q5_ : j9 = 11 then (by subst q5_; rfl) else if q6_ : j9 = 19 then (by subst q6_; rfl) else (by first | rfl | simp only [va_up, if_neg q0_, if_neg q1_, if_neg q2_, if_neg q3_, if_neg q4_, if_neg q5_, if_neg q6_] | fail)))
                  refine lv_aload_n hx hb dX8_deliver_105 rfl (lv_at hl 2 rfl) ?_
                  refine m_get (ci := 8) (C := RX8) (T := TX8) (n := 35) (v := .int (nI (ns + 1))) hx hb hts inX8_ hown hK rfl (hM.cel (by omega) (show (mw ac adr (va_up (va_up (va_up (va_up sf 0 0) 5 (nI (ns + 1))) 9 (sf 9 + 1)) 10 ((lsF (fun i => asB fr ((va_up sc ns (oc o)) i) ((va_up sn ns (on_ o)) i) ((va_up sw ns (owd o)) i) ((va_up sb ns (obf o)) i)) (af 19) (sf 10) (ns + 1)).2)) (va_up (va_up (va_up (va_up (va_up (va_up (va_up (va_up (va_up af 2 (upd (af 2) ns (nI (oc o)))) 3 (upd (af 3) ns (nI (on_ o)))) 4 (blk ns (mixF (on_ o) (fun j => af 9 (8 * o + j)) (fun j => af 4 (8 * ns + j))) (af 4))) 5 (blk ns (mixF (on_ o) (fun j => af 14 (8 * o + j)) (fun j => af 5 (8 * ns + j))) (af 5))) 6 (upd (af 6) ns (sf 9 + 1))) 11 (upd (af 11) o (-2))) 19 ((lsF (fun i => asB fr ((va_up sc ns (oc o)) i) ((va_up sn ns (on_ o)) i) ((va_up sw ns (owd o)) i) ((va_up sb ns (obf o)) i)) (af 19) (sf 10) (ns + 1)).1)) 20 (upd (af 20) (oc o) (af 20 (oc o) + co o))) 21 (upd (af 21) k_x (af 21 k_x + py o)))) 0 = .inr (8, mfs adr (va_up (va_up (va_up (va_up sf 0 0) 5 (nI (ns + 1))) 9 (sf 9 + 1)) 10 ((lsF (fun i => asB fr ((va_up sc ns (oc o)) i) ((va_up sn ns (on_ o)) i) ((va_up sw ns (owd o)) i) ((va_up sb ns (obf o)) i)) (af 19) (sf 10) (ns + 1)).2))) from rfl)) 6 (by decide) (hts _ (by decide +kernel)) rfl dX8_deliver_106 ?_
                  refine lv_iconst (v := 1) hx hb dX8_deliver_109 (by decide) ?_
                  refine lv_isub hx hb dX8_deliver_110 ?_
                  refine m_top (show ((nI (ns + 1)) - 1) = nI ns from pk_sub (a := ns + 1) (b := 1) (by omega)) ?_
                  rw [hQ0]
                  exact e_wi hx hb hlocks hr dX8_deliver_111 hM hS (MPo.ok (by simp [cd1, cd2, cd3, hi_x, eh, f40, f48] : cd2 (ix (nI k_x) 4).isNone (((ix (nI k_x) 4).bind hd).elim true (fun o => !dlv (rb o) (on_ o) fr (oc o) (owd o) (obf o) || decide (ns = 40))) = 0) rfl ⟨k_x, o, b_x, rfl, eh, f40, f49, rfl, rfl, rfl⟩)
                · exact absurd c60 (by decide)
              · have f48 : ns = 40 := (nI_eq (a := ns) (b := 40) (by omega) (by omega)).mp c49
                refine lv_iconst (v := 2) hx hb dX8_deliver_52 (by decide) ?_
                refine lv_goto (tgt := 57) hx hb dX8_deliver_53 (by decide) ?_
                refine w_calli (va_runV (As := [.int 2]) (rest := []) ⟨hx, hb, hml, hown, hts⟩ (k_X8_holds l D ac _ A adr sf af hM 2) (cwV 1 hts gX8_deliver_X8_holds rfl rfl rfl (by decide +kernel) ⟨Nat.le_of_ble_eq_true rfl, Nat.le_of_ble_eq_true rfl⟩) (pV hK (ci := 8) rfl (hM.cel (by omega) (show (mw ac adr sf af) 0 = .inr (8, mfs adr sf) from rfl))) rfl rfl hl.1 rfl (lv_room (Nat.le_of_ble_eq_true rfl)) dX8_deliver_57 ⟨Nat.le_of_ble_eq_true rfl, Nat.le_of_ble_eq_true rfl⟩) hS (fun rv_21 w_22 H locs hw_22 hM hS => ?_)
                obtain ⟨hrv_21, he_23⟩ := hw_22
                rw [he_23] at hM
                have hM := (MW.cg (s1 := (va_up sf 0 2)) (a1 := af) hM (fun j9 => if q0_ : j9 = 0 then (by subst q0_; rfl) else (by first | rfl | simp only [va_up, if_neg q0_] | fail)) (fun _ => rfl))
                subst hrv_21
                refine m_top (show _ = (0 : Int32) from rfl) ?_
                refine lv_if_ne (tgt := 65) hx hb dX8_deliver_60 (by decide) (fun c60 => ?_) (fun c60 => ?_)
                · exact absurd c60 (by decide)
                · refine lv_iconst (v := 0) hx hb dX8_deliver_63 (by decide) ?_
                  rw [hQ0]
                  exact e_wi hx hb hlocks hr dX8_deliver_64 hM hS (MPo.no (c := 2) (by simp [cd1, cd2, cd3, hi_x, eh, f40, f48] : cd2 (ix (nI k_x) 4).isNone (((ix (nI k_x) 4).bind hd).elim true (fun o => !dlv (rb o) (on_ o) fr (oc o) (owd o) (obf o) || decide (ns = 40))) = 2) (by decide) rfl ⟨fun k9 u1_ u2_ => by first | rfl | simp only [va_up, if_neg u1_, if_neg u2_] | fail, fun k9 u1_ u2_ => by first | rfl | simp only [va_up, if_neg u1_, if_neg u2_] | fail⟩)
        · exact absurd c22 (by decide)
/-- how many of the first i are listed ahead of v -/
def ahF (L : Nat → Int32) (v : Int32) : Nat → Nat
  | 0 => 0
  | i + 1 => ahF L v i + (if 0 < L i ∧ L i < v then 1 else 0)
theorem ahF_y {L : Nat → Int32} {v : Int32} {i : Nat} (h : ¬ L i ≤ 0) (h2 : ¬ v ≤ L i) : ahF L v (i + 1) = ahF L v i + 1 := by simp only [ahF]; rw [if_pos ⟨gt_of_nle h, gt_of_nle h2⟩]
theorem ahF_n {L : Nat → Int32} {v : Int32} {i : Nat} (h : L i ≤ 0 ∨ v ≤ L i) : ahF L v (i + 1) = ahF L v i := by simp only [ahF]; rw [if_neg (fun q => h.elim (fun z => ngt_of_le z q.1) (fun z => ngt_of_le z q.2))]; rfl
def daF (L : Nat → Int32) (n : Nat) (x : Int32) : Nat → Int32
  | 0 => -1
  | i + 1 => if 0 < L i ∧ nI (ahF L (L i) n) = x then nI i else daF L n x i
theorem daF_y {L : Nat → Int32} {n : Nat} {x : Int32} {i : Nat} (h : ¬ L i ≤ 0) (h2 : nI (ahF L (L i) n) = x) : daF L n x (i + 1) = nI i := if_pos ⟨gt_of_nle h, h2⟩
theorem daF_n {L : Nat → Int32} {n : Nat} {x : Int32} {i : Nat} (h : L i ≤ 0 ∨ ¬ nI (ahF L (L i) n) = x) : daF L n x (i + 1) = daF L n x i := if_neg (fun q => h.elim (fun z => ngt_of_le z q.1) (fun z => z q.2))
set_option maxHeartbeats 4000000 in
set_option maxRecDepth 100000 in
/-- X8_dueAt -/
theorem k_X8_dueAt (l : Launch) (D : va_G) (ac : Nat → ClassId) (H : Heap) (A : Nat → Prop) (adr : Nat → Nat) (sf : Nat → Int32) (af : Nat → Nat → Int32) (hM : MW D A 24 adr (mw ac adr sf af) H) (ns : Nat) (sc sn : Nat → Nat) (sw : Nat → Nat → Nat) (sb : Nat → Nat → Int32) (hs : MSen sf af ns sc sn sw sb) (nd : Nat) (hnd : dnF (af 19) ns = nd) (hd40 : nd ≤ 40) (x : Int32) : WRi l yX8_dueAt wsX8_dueAt ({ frames := 1, cells := 0, slots := 0, locals := 22 }) [.ref (adr 0), .int x] D ac H A 24 adr (MPo ac adr sf af (cd1 (ix x nd).isNone) (fun r s1 a1 => ∃ k, k < nd ∧ x = nI k ∧ r = daF (af 19) ns x ns ∧ Scr sf af s1 a1)) := by
  refine Met.ofW (cc := cX8_dueAt) (maxL := 6) (ret := (some .int)) (by decide) rfl ?_
  intro p e s m args below meth c s₁ B hml hv
  obtain ⟨hargs, hsz, hK⟩ := hv
  have hx := B.exec
  have hb := B.bytes
  have hr := B.returns
  have hts := atoms_spec (ws := wsX8_dueAt) B.pre
  have hown : s.vm.findClass RX8 = some m.cls := findClass_of_methodNamed B.named
  have hlocks := B.notSynchronized
  subst hsz
  have inX8_ : ∀ w ∈ wsX80, w ∈ wsX8_dueAt := by decide +kernel
  have hS : va_S A s.heap s.heap [] := va_S.rf
  have hl := lv_entry ([.ref (adr 0), .int x]) (n := 6) (Nat.le_of_ble_eq_true rfl)
  have hen := lg_entry_eq m [.ref (adr 0), .int x] 6
  rw [← hargs] at hen
  rw [hen]
  generalize (lg_sl ([.ref (adr 0), .int x]) ++ List.replicate (6 - (lg_sl ([.ref (adr 0), .int x])).length) Slot.unset).toArray = ls at hl ⊢
  have hl : lv_has ls 6 [(0, .ref (adr 0)), (1, .int x)] := hl
  obtain ⟨Q0, hQ0⟩ : ∃ z0_, z0_ = MQ below (va_Qi (MPo ac adr sf af (cd1 (ix x nd).isNone) (fun r s1 a1 => ∃ k, k < nd ∧ x = nI k ∧ r = daF (af 19) ns x ns ∧ Scr sf af s1 a1)) (fun c t => MW D A 24 adr c t.heap) A) args s 0 0 A := ⟨_, rfl⟩
  rw [← hQ0]
  have h7 := hs.2.1
  refine lv_aload_n hx hb dX8_dueAt_0 rfl (lv_at hl 0 rfl) ?_
  refine lv_iload_n hx hb dX8_dueAt_1 rfl (lv_at hl 1 rfl) ?_
  refine lv_aload_n hx hb dX8_dueAt_2 rfl (lv_at hl 0 rfl) ?_
  refine r_calli (va_runV (As := []) (rest := [.int x, .ref (adr 0)]) ⟨hx, hb, hml, hown, hts⟩ (k_X8_dueNow l D ac _ A adr sf af hM ns hs.1 hs.2.1) (cwV 0 hts gX8_dueAt_X8_dueNow rfl rfl rfl (by decide +kernel) ⟨Nat.le_of_ble_eq_true rfl, Nat.le_of_ble_eq_true rfl⟩) (pV hK (ci := 8) rfl (hM.cel (by omega) (show (mw ac adr sf af) 0 = .inr (8, mfs adr sf) from rfl))) rfl rfl hl.1 rfl (lv_room (Nat.le_of_ble_eq_true rfl)) dX8_dueAt_3 ⟨Nat.le_of_ble_eq_true rfl, Nat.le_of_ble_eq_true rfl⟩) hS (fun rv_1 locs hrv_1 hS => ?_)
  subst hrv_1
  refine m_top (show (nI (dnF (af 19) ns)) = nI nd from congrArg nI hnd) ?_
  refine r_calli (va_runS (As := [.int x, .int (nI nd)]) (rest := [.ref (adr 0)]) ⟨hx, hb, hml, hown, hts⟩ (k_X8_isIn l D ac _ x nd (by omega)) (va_cwS 2 hts gX8_dueAt_X8_isIn rfl rfl rfl (by decide +kernel) ⟨Nat.le_of_ble_eq_true rfl, Nat.le_of_ble_eq_true rfl⟩) (pS hK) rfl rfl hl.1 rfl (lv_room (Nat.le_of_ble_eq_true rfl)) dX8_dueAt_6 ⟨Nat.le_of_ble_eq_true rfl, Nat.le_of_ble_eq_true rfl⟩) hS (fun rv_2 locs hrv_2 hS => ?_)
  subst hrv_2
  rcases hi_x : ix x nd with _ | k_x
  · refine m_top (show _ = (0 : Int32) from rfl) ?_
    refine lv_if_eq (tgt := 16) hx hb dX8_dueAt_9 (by decide) (fun c9 => ?_) (fun c9 => ?_)
    · refine lv_iconst (v := 1) hx hb dX8_dueAt_16 (by decide) ?_
      refine w_calli (va_runV (As := [.int 1]) (rest := []) ⟨hx, hb, hml, hown, hts⟩ (k_X8_holds l D ac _ A adr sf af hM 1) (cwV 1 hts gX8_dueAt_X8_holds rfl rfl rfl (by decide +kernel) ⟨Nat.le_of_ble_eq_true rfl, Nat.le_of_ble_eq_true rfl⟩) (pV hK (ci := 8) rfl (hM.cel (by omega) (show (mw ac adr sf af) 0 = .inr (8, mfs adr sf) from rfl))) rfl rfl hl.1 rfl (lv_room (Nat.le_of_ble_eq_true rfl)) dX8_dueAt_17 ⟨Nat.le_of_ble_eq_true rfl, Nat.le_of_ble_eq_true rfl⟩) hS (fun rv_3 w_4 H locs hw_4 hM hS => ?_)
      obtain ⟨hrv_3, he_5⟩ := hw_4
      rw [he_5] at hM
      have hM := (MW.cg (s1 := (va_up sf 0 1)) (a1 := af) hM (fun j9 => if q0_ : j9 = 0 then (by subst q0_; rfl) else (by first | rfl | simp only [va_up, if_neg q0_] | fail)) (fun _ => rfl))
      subst hrv_3
      refine m_top (show _ = (0 : Int32) from rfl) ?_
      refine lv_if_ne (tgt := 25) hx hb dX8_dueAt_20 (by decide) (fun c20 => ?_) (fun c20 => ?_)
      · exact absurd c20 (by decide)
      · refine lv_iconst (v := 0) hx hb dX8_dueAt_23 (by decide) ?_
        rw [hQ0]
        exact e_wi hx hb hlocks hr dX8_dueAt_24 hM hS (MPo.no (c := 1) (by simp [cd1, cd2, cd3, hi_x] : cd1 (ix x nd).isNone = 1) (by decide) rfl ⟨fun k9 u1_ u2_ => by first | rfl | simp only [va_up, if_neg u1_, if_neg u2_] | fail, fun k9 u1_ u2_ => by first | rfl | simp only [va_up, if_neg u1_, if_neg u2_] | fail⟩)
    · exact absurd c9 (by decide)
  · obtain ⟨b_x, e_x⟩ := ix_of hi_x (by omega)
    refine m_top (show _ = (1 : Int32) from rfl) ?_
    subst e_x
    refine lv_if_eq (tgt := 16) hx hb dX8_dueAt_9 (by decide) (fun c9 => ?_) (fun c9 => ?_)
    · exact absurd c9 (by decide)
    · refine lv_iconst (v := 0) hx hb dX8_dueAt_12 (by decide) ?_
      refine lv_goto (tgt := 17) hx hb dX8_dueAt_13 (by decide) ?_
      refine w_calli (va_runV (As := [.int 0]) (rest := []) ⟨hx, hb, hml, hown, hts⟩ (k_X8_holds l D ac _ A adr sf af hM 0) (cwV 1 hts gX8_dueAt_X8_holds rfl rfl rfl (by decide +kernel) ⟨Nat.le_of_ble_eq_true rfl, Nat.le_of_ble_eq_true rfl⟩) (pV hK (ci := 8) rfl (hM.cel (by omega) (show (mw ac adr sf af) 0 = .inr (8, mfs adr sf) from rfl))) rfl rfl hl.1 rfl (lv_room (Nat.le_of_ble_eq_true rfl)) dX8_dueAt_17 ⟨Nat.le_of_ble_eq_true rfl, Nat.le_of_ble_eq_true rfl⟩) hS (fun rv_6 w_7 H locs hw_7 hM hS => ?_)
      obtain ⟨hrv_6, he_8⟩ := hw_7
      rw [he_8] at hM
      have hM := (MW.cg (s1 := (va_up sf 0 0)) (a1 := af) hM (fun j9 => if q0_ : j9 = 0 then (by subst q0_; rfl) else (by first | rfl | simp only [va_up, if_neg q0_] | fail)) (fun _ => rfl))
      subst hrv_6
      refine m_top (show _ = (1 : Int32) from rfl) ?_
      refine lv_if_ne (tgt := 25) hx hb dX8_dueAt_20 (by decide) (fun c20 => ?_) (fun c20 => ?_)
      · refine lv_iconst (v := (-1)) hx hb dX8_dueAt_25 (by decide) ?_
        refine lv_istore_n (lv' := [(2, .int (-1)), (0, .ref (adr 0)), (1, .int (nI k_x))]) hx hb dX8_dueAt_26 rfl hl (by decide) rfl (fun ls hl => ?_)
        refine lv_iconst (v := 0) hx hb dX8_dueAt_27 (by decide) ?_
        refine lv_istore_n (lv' := [(3, .int 0), (2, .int (-1)), (0, .ref (adr 0)), (1, .int (nI k_x))]) hx hb dX8_dueAt_28 rfl hl (by decide) rfl (fun ls hl => ?_)
        have L29 : ∀ (k9 : Nat) (i : Nat) (hk : ns - i < k9) (hi : i ≤ ns) (H : Heap) (locs : List Loc) (hM : MW D A 24 adr (mw ac adr (va_up sf 0 0) af) H) (hS : va_S A s.heap H locs) (ls : Array Slot) (hl : lv_has ls 6 [(0, .ref (adr 0)), (1, .int (nI k_x)), (2, .int (daF (af 19) ns (nI k_x) i)), (3, .int (nI i))]), W p l e (headSpec wsX8_dueAt ({ frames := 1, cells := 0, slots := 0, locals := 22 })).room s m args below meth c H locs 0 0 Q0 (F0 m 29 ls []) := by
          intro k9
          induction k9 with
          | zero => intro i hk hi H locs hM hS ls hl; exact absurd hk (Nat.not_lt_zero _)
          | succ k9 ih29 =>
            intro i hk hi H locs hM hS ls hl
            refine lv_iload_n hx hb dX8_dueAt_29 rfl (lv_at hl 3 rfl) ?_
            refine lv_aload_n hx hb dX8_dueAt_30 rfl (lv_at hl 0 rfl) ?_
            refine m_get (ci := 8) (C := RX8) (T := TX8) (n := 35) (v := .int (sf 5)) hx hb hts inX8_ hown hK rfl (hM.cel (by omega) (show (mw ac adr (va_up sf 0 0) af) 0 = .inr (8, mfs adr (va_up sf 0 0)) from rfl)) 6 (by decide) (hts _ (by decide +kernel)) rfl dX8_dueAt_31 ?_
            refine m_top (show (sf 5) = nI ns from hs.1) ?_
            refine lv_icmp_ge (tgt := 121) hx hb dX8_dueAt_34 (by decide) (fun c34 => ?_) (fun c34 => ?_)
            · have e9 : i = ns := by have := le_le c34 (by omega) (by omega); omega
              refine lv_iload_n hx hb dX8_dueAt_121 rfl (lv_at hl 2 rfl) ?_
              rw [hQ0]
              exact e_wi hx hb hlocks hr dX8_dueAt_122 hM hS (MPo.ok (by simp [cd1, cd2, cd3, hi_x] : cd1 (ix (nI k_x) nd).isNone = 0) rfl ⟨k_x, b_x, rfl, by rw [e9], ⟨fun k9 u1_ u2_ => by first | rfl | simp only [va_up, if_neg u1_, if_neg u2_] | fail, fun k9 u1_ u2_ => by first | rfl | simp only [va_up, if_neg u1_, if_neg u2_] | fail⟩⟩)
            · have hin : i < ns := nle_lt c34 (by omega) (by omega)
              refine lv_iconst (v := 0) hx hb dX8_dueAt_37 (by decide) ?_
              refine lv_istore (lv' := [(4, .int 0), (0, .ref (adr 0)), (1, .int (nI k_x)), (2, .int (daF (af 19) ns (nI k_x) i)), (3, .int (nI i))]) hx hb dX8_dueAt_38 hl (by decide) rfl (fun ls hl => ?_)
              refine lv_iconst (v := 0) hx hb dX8_dueAt_40 (by decide) ?_
              refine lv_istore (lv' := [(5, .int 0), (4, .int 0), (0, .ref (adr 0)), (1, .int (nI k_x)), (2, .int (daF (af 19) ns (nI k_x) i)), (3, .int (nI i))]) hx hb dX8_dueAt_41 hl (by decide) rfl (fun ls hl => ?_)
              have L43 : ∀ (k9 : Nat) (j : Nat) (hkj : ns - j < k9) (hj : j ≤ ns) (H : Heap) (locs : List Loc) (hM : MW D A 24 adr (mw ac adr (va_up sf 0 0) af) H) (hS : va_S A s.heap H locs) (ls : Array Slot) (hl : lv_has ls 6 [(0, .ref (adr 0)), (1, .int (nI k_x)), (2, .int (daF (af 19) ns (nI k_x) i)), (3, .int (nI i)), (4, .int (nI (ahF (af 19) (af 19 i) j))), (5, .int (nI j))]), W p l e (headSpec wsX8_dueAt ({ frames := 1, cells := 0, slots := 0, locals := 22 })).room s m args below meth c H locs 0 0 Q0 (F0 m 43 ls []) := by
                intro k9
                induction k9 with
                | zero => intro j hkj hj H locs hM hS ls hl; exact absurd hkj (Nat.not_lt_zero _)
                | succ k9 ih43 =>
                  intro j hkj hj H locs hM hS ls hl
                  refine lv_iload hx hb dX8_dueAt_43 (lv_at hl 5 rfl) ?_
                  refine lv_aload_n hx hb dX8_dueAt_45 rfl (lv_at hl 0 rfl) ?_
                  refine m_get (ci := 8) (C := RX8) (T := TX8) (n := 35) (v := .int (sf 5)) hx hb hts inX8_ hown hK rfl (hM.cel (by omega) (show (mw ac adr (va_up sf 0 0) af) 0 = .inr (8, mfs adr (va_up sf 0 0)) from rfl)) 6 (by decide) (hts _ (by decide +kernel)) rfl dX8_dueAt_46 ?_
                  refine m_top (show (sf 5) = nI ns from hs.1) ?_
                  refine lv_icmp_ge (tgt := 94) hx hb dX8_dueAt_49 (by decide) (fun c49 => ?_) (fun c49 => ?_)
                  · have e8 : j = ns := by have := le_le c49 (by omega) (by omega); omega
                    have e7 : nI (ahF (af 19) (af 19 i) j) = nI (ahF (af 19) (af 19 i) ns) := by rw [e8]
                    refine lv_aload_n hx hb dX8_dueAt_94 rfl (lv_at hl 0 rfl) ?_
                    refine m_get (ci := 8) (C := RX8) (T := TX8) (n := 35) (v := .ref (adr 19)) hx hb hts inX8_ hown hK rfl (hM.cel (by omega) (show (mw ac adr (va_up sf 0 0) af) 0 = .inr (8, mfs adr (va_up sf 0 0)) from rfl)) 28 (by decide) (hts _ (by decide +kernel)) rfl dX8_dueAt_95 ?_
                    refine lv_iload_n hx hb dX8_dueAt_98 rfl (lv_at hl 3 rfl) ?_
                    refine m_iald hx hb hK (hM.cel (by omega) (show (mw ac adr (va_up sf 0 0) af) 19 = .inl (ac 0, 40, .inl (af 19)) from rfl)) (vp_in_nI (by omega) (by decide)) dX8_dueAt_99 ?_
                    refine m_top (show ((af 19) (nI i).toNatClampNeg) = (af 19) i from by rw [nI_clamp (by omega)]) ?_
                    refine lv_if_le (tgt := 113) hx hb dX8_dueAt_100 (by decide) (fun c100 => ?_) (fun c100 => ?_)
                    · refine lv_iload_n hx hb dX8_dueAt_113 rfl (lv_at hl 2 rfl) ?_
                      refine m_top (show (daF (af 19) ns (nI k_x) i : Int32) = daF (af 19) ns (nI k_x) (i + 1) from by first | exact (daF_y c100 (e7.symm.trans c106)).symm | exact (daF_n (Or.inl c100)).symm | exact (daF_n (Or.inr (fun q => c106 (e7.trans q)))).symm | fail) ?_
                      refine lv_istore_n (lv' := [(2, .int (daF (af 19) ns (nI k_x) (i + 1))), (0, .ref (adr 0)), (1, .int (nI k_x)), (3, .int (nI i)), (4, .int (nI (ahF (af 19) (af 19 i) j))), (5, .int (nI j))]) hx hb dX8_dueAt_114 rfl hl (by decide) rfl (fun ls hl => ?_)
                      refine lv_iinc (v := nI (i + 1)) (lv' := [(3, .int (nI (i + 1))), (2, .int (daF (af 19) ns (nI k_x) (i + 1))), (0, .ref (adr 0)), (1, .int (nI k_x)), (4, .int (nI (ahF (af 19) (af 19 i) j))), (5, .int (nI j))]) hx hb dX8_dueAt_115 hl (k := 3) rfl (nI_1 _) (by decide) rfl (fun ls hl => ?_)
                      refine lv_goto (tgt := 29) hx hb dX8_dueAt_118 (by decide) ?_
                      exact ih29 (i + 1) (by omega) (by omega) _ _ hM hS ls (lv_sub hl [2, 3, 1, 0] rfl)
                    · refine lv_iload hx hb dX8_dueAt_103 (lv_at hl 4 rfl) ?_
                      refine lv_iload_n hx hb dX8_dueAt_105 rfl (lv_at hl 1 rfl) ?_
                      refine lv_icmp_ne (tgt := 113) hx hb dX8_dueAt_106 (by decide) (fun c106 => ?_) (fun c106 => ?_)
                      · refine lv_iload_n hx hb dX8_dueAt_113 rfl (lv_at hl 2 rfl) ?_
                        refine m_top (show (daF (af 19) ns (nI k_x) i : Int32) = daF (af 19) ns (nI k_x) (i + 1) from by first | exact (daF_y c100 (e7.symm.trans c106)).symm | exact (daF_n (Or.inl c100)).symm | exact (daF_n (Or.inr (fun q => c106 (e7.trans q)))).symm | fail) ?_
                        refine lv_istore_n (lv' := [(2, .int (daF (af 19) ns (nI k_x) (i + 1))), (0, .ref (adr 0)), (1, .int (nI k_x)), (3, .int (nI i)), (4, .int (nI (ahF (af 19) (af 19 i) j))), (5, .int (nI j))]) hx hb dX8_dueAt_114 rfl hl (by decide) rfl (fun ls hl => ?_)
                        refine lv_iinc (v := nI (i + 1)) (lv' := [(3, .int (nI (i + 1))), (2, .int (daF (af 19) ns (nI k_x) (i + 1))), (0, .ref (adr 0)), (1, .int (nI k_x)), (4, .int (nI (ahF (af 19) (af 19 i) j))), (5, .int (nI j))]) hx hb dX8_dueAt_115 hl (k := 3) rfl (nI_1 _) (by decide) rfl (fun ls hl => ?_)
                        refine lv_goto (tgt := 29) hx hb dX8_dueAt_118 (by decide) ?_
                        exact ih29 (i + 1) (by omega) (by omega) _ _ hM hS ls (lv_sub hl [2, 3, 1, 0] rfl)
                      · refine lv_iload_n hx hb dX8_dueAt_109 rfl (lv_at hl 3 rfl) ?_
                        refine lv_goto (tgt := 114) hx hb dX8_dueAt_110 (by decide) ?_
                        refine m_top (show (nI i : Int32) = daF (af 19) ns (nI k_x) (i + 1) from by first | exact (daF_y c100 (e7.symm.trans c106)).symm | exact (daF_n (Or.inl c100)).symm | exact (daF_n (Or.inr (fun q => c106 (e7.trans q)))).symm | fail) ?_
                        refine lv_istore_n (lv' := [(2, .int (daF (af 19) ns (nI k_x) (i + 1))), (0, .ref (adr 0)), (1, .int (nI k_x)), (3, .int (nI i)), (4, .int (nI (ahF (af 19) (af 19 i) j))), (5, .int (nI j))]) hx hb dX8_dueAt_114 rfl hl (by decide) rfl (fun ls hl => ?_)
                        refine lv_iinc (v := nI (i + 1)) (lv' := [(3, .int (nI (i + 1))), (2, .int (daF (af 19) ns (nI k_x) (i + 1))), (0, .ref (adr 0)), (1, .int (nI k_x)), (4, .int (nI (ahF (af 19) (af 19 i) j))), (5, .int (nI j))]) hx hb dX8_dueAt_115 hl (k := 3) rfl (nI_1 _) (by decide) rfl (fun ls hl => ?_)
                        refine lv_goto (tgt := 29) hx hb dX8_dueAt_118 (by decide) ?_
                        exact ih29 (i + 1) (by omega) (by omega) _ _ hM hS ls (lv_sub hl [2, 3, 1, 0] rfl)
                  · have hjn : j < ns := nle_lt c49 (by omega) (by omega)
                    refine lv_iload hx hb dX8_dueAt_52 (lv_at hl 4 rfl) ?_
                    refine lv_aload_n hx hb dX8_dueAt_54 rfl (lv_at hl 0 rfl) ?_
                    refine m_get (ci := 8) (C := RX8) (T := TX8) (n := 35) (v := .ref (adr 19)) hx hb hts inX8_ hown hK rfl (hM.cel (by omega) (show (mw ac adr (va_up sf 0 0) af) 0 = .inr (8, mfs adr (va_up sf 0 0)) from rfl)) 28 (by decide) (hts _ (by decide +kernel)) rfl dX8_dueAt_55 ?_
                    refine lv_iload hx hb dX8_dueAt_58 (lv_at hl 5 rfl) ?_
                    refine m_iald hx hb hK (hM.cel (by omega) (show (mw ac adr (va_up sf 0 0) af) 19 = .inl (ac 0, 40, .inl (af 19)) from rfl)) (vp_in_nI (by omega) (by decide)) dX8_dueAt_60 ?_
                    refine m_top (show ((af 19) (nI j).toNatClampNeg) = (af 19) j from by rw [nI_clamp (by omega)]) ?_
                    refine lv_if_le (tgt := 84) hx hb dX8_dueAt_61 (by decide) (fun c61 => ?_) (fun c61 => ?_)
                    · refine lv_iconst (v := 0) hx hb dX8_dueAt_84 (by decide) ?_
                      refine lv_iadd hx hb dX8_dueAt_85 ?_
                      refine m_top (show ((nI (ahF (af 19) (af 19 i) j)) + 0) = nI (ahF (af 19) (af 19 i) (j + 1)) from by first | (rw [ahF_y c61 c77]; exact nI_1 _) | (rw [ahF_n (Or.inl c61)]; exact Int32.add_zero _) | (rw [ahF_n (Or.inr c77)]; exact Int32.add_zero _) | fail) ?_
                      refine lv_istore (lv' := [(4, .int (nI (ahF (af 19) (af 19 i) (j + 1)))), (0, .ref (adr 0)), (1, .int (nI k_x)), (2, .int (daF (af 19) ns (nI k_x) i)), (3, .int (nI i)), (5, .int (nI j))]) hx hb dX8_dueAt_86 hl (by decide) rfl (fun ls hl => ?_)
                      refine lv_iinc (v := nI (j + 1)) (lv' := [(5, .int (nI (j + 1))), (4, .int (nI (ahF (af 19) (af 19 i) (j + 1)))), (0, .ref (adr 0)), (1, .int (nI k_x)), (2, .int (daF (af 19) ns (nI k_x) i)), (3, .int (nI i))]) hx hb dX8_dueAt_88 hl (k := 5) rfl (nI_1 _) (by decide) rfl (fun ls hl => ?_)
                      refine lv_goto (tgt := 43) hx hb dX8_dueAt_91 (by decide) ?_
                      exact ih43 (j + 1) (by omega) (by omega) _ _ hM hS ls (lv_sub hl [2, 3, 4, 5, 1, 0] rfl)
                    · refine lv_aload_n hx hb dX8_dueAt_64 rfl (lv_at hl 0 rfl) ?_
                      refine m_get (ci := 8) (C := RX8) (T := TX8) (n := 35) (v := .ref (adr 19)) hx hb hts inX8_ hown hK rfl (hM.cel (by omega) (show (mw ac adr (va_up sf 0 0) af) 0 = .inr (8, mfs adr (va_up sf 0 0)) from rfl)) 28 (by decide) (hts _ (by decide +kernel)) rfl dX8_dueAt_65 ?_
                      refine lv_iload hx hb dX8_dueAt_68 (lv_at hl 5 rfl) ?_
                      refine m_iald hx hb hK (hM.cel (by omega) (show (mw ac adr (va_up sf 0 0) af) 19 = .inl (ac 0, 40, .inl (af 19)) from rfl)) (vp_in_nI (by omega) (by decide)) dX8_dueAt_70 ?_
                      refine m_top (show ((af 19) (nI j).toNatClampNeg) = (af 19) j from by rw [nI_clamp (by omega)]) ?_
                      refine lv_aload_n hx hb dX8_dueAt_71 rfl (lv_at hl 0 rfl) ?_
                      refine m_get (ci := 8) (C := RX8) (T := TX8) (n := 35) (v := .ref (adr 19)) hx hb hts inX8_ hown hK rfl (hM.cel (by omega) (show (mw ac adr (va_up sf 0 0) af) 0 = .inr (8, mfs adr (va_up sf 0 0)) from rfl)) 28 (by decide) (hts _ (by decide +kernel)) rfl dX8_dueAt_72 ?_
                      refine lv_iload_n hx hb dX8_dueAt_75 rfl (lv_at hl 3 rfl) ?_
                      refine m_iald hx hb hK (hM.cel (by omega) (show (mw ac adr (va_up sf 0 0) af) 19 = .inl (ac 0, 40, .inl (af 19)) from rfl)) (vp_in_nI (by omega) (by decide)) dX8_dueAt_76 ?_
                      refine m_top (show ((af 19) (nI i).toNatClampNeg) = (af 19) i from by rw [nI_clamp (by omega)]) ?_
                      refine lv_icmp_ge (tgt := 84) hx hb dX8_dueAt_77 (by decide) (fun c77 => ?_) (fun c77 => ?_)
                      · refine lv_iconst (v := 0) hx hb dX8_dueAt_84 (by decide) ?_
                        refine lv_iadd hx hb dX8_dueAt_85 ?_
                        refine m_top (show ((nI (ahF (af 19) (af 19 i) j)) + 0) = nI (ahF (af 19) (af 19 i) (j + 1)) from by first | (rw [ahF_y c61 c77]; exact nI_1 _) | (rw [ahF_n (Or.inl c61)]; exact Int32.add_zero _) | (rw [ahF_n (Or.inr c77)]; exact Int32.add_zero _) | fail) ?_
                        refine lv_istore (lv' := [(4, .int (nI (ahF (af 19) (af 19 i) (j + 1)))), (0, .ref (adr 0)), (1, .int (nI k_x)), (2, .int (daF (af 19) ns (nI k_x) i)), (3, .int (nI i)), (5, .int (nI j))]) hx hb dX8_dueAt_86 hl (by decide) rfl (fun ls hl => ?_)
                        refine lv_iinc (v := nI (j + 1)) (lv' := [(5, .int (nI (j + 1))), (4, .int (nI (ahF (af 19) (af 19 i) (j + 1)))), (0, .ref (adr 0)), (1, .int (nI k_x)), (2, .int (daF (af 19) ns (nI k_x) i)), (3, .int (nI i))]) hx hb dX8_dueAt_88 hl (k := 5) rfl (nI_1 _) (by decide) rfl (fun ls hl => ?_)
                        refine lv_goto (tgt := 43) hx hb dX8_dueAt_91 (by decide) ?_
                        exact ih43 (j + 1) (by omega) (by omega) _ _ hM hS ls (lv_sub hl [2, 3, 4, 5, 1, 0] rfl)
                      · refine lv_iconst (v := 1) hx hb dX8_dueAt_80 (by decide) ?_
                        refine lv_goto (tgt := 85) hx hb dX8_dueAt_81 (by decide) ?_
                        refine lv_iadd hx hb dX8_dueAt_85 ?_
                        refine m_top (show ((nI (ahF (af 19) (af 19 i) j)) + 1) = nI (ahF (af 19) (af 19 i) (j + 1)) from by first | (rw [ahF_y c61 c77]; exact nI_1 _) | (rw [ahF_n (Or.inl c61)]; exact Int32.add_zero _) | (rw [ahF_n (Or.inr c77)]; exact Int32.add_zero _) | fail) ?_
                        refine lv_istore (lv' := [(4, .int (nI (ahF (af 19) (af 19 i) (j + 1)))), (0, .ref (adr 0)), (1, .int (nI k_x)), (2, .int (daF (af 19) ns (nI k_x) i)), (3, .int (nI i)), (5, .int (nI j))]) hx hb dX8_dueAt_86 hl (by decide) rfl (fun ls hl => ?_)
                        refine lv_iinc (v := nI (j + 1)) (lv' := [(5, .int (nI (j + 1))), (4, .int (nI (ahF (af 19) (af 19 i) (j + 1)))), (0, .ref (adr 0)), (1, .int (nI k_x)), (2, .int (daF (af 19) ns (nI k_x) i)), (3, .int (nI i))]) hx hb dX8_dueAt_88 hl (k := 5) rfl (nI_1 _) (by decide) rfl (fun ls hl => ?_)
                        refine lv_goto (tgt := 43) hx hb dX8_dueAt_91 (by decide) ?_
                        exact ih43 (j + 1) (by omega) (by omega) _ _ hM hS ls (lv_sub hl [2, 3, 4, 5, 1, 0] rfl)
              exact L43 _ 0 (Nat.lt_succ_self _) (Nat.zero_le _) _ _ hM hS ls (lv_sub hl [2, 3, 4, 5, 1, 0] rfl)
        exact L29 _ 0 (Nat.lt_succ_self _) (Nat.zero_le _) _ _ hM hS ls (lv_sub hl [2, 3, 1, 0] rfl)
      · exact absurd c20 (by decide)
theorem int_i32 (x : Int32) : -2147483648 ≤ x.toInt ∧ x.toInt < 2147483648 := ⟨Int32.le_toInt x, Int32.toInt_lt x⟩
theorem ix_iff {x : Int32} {n : Nat} (hn : n < 2 ^ 31) : (ix x n).isNone = (decide (x < 0) || decide (nI n ≤ x)) := by
  unfold ix
  by_cases h0 : x < 0
  · rw [if_pos h0, decide_eq_true h0]; rfl
  · rw [if_neg h0, decide_eq_false h0]
    by_cases h1 : nI n ≤ x
    · rw [if_pos h1, decide_eq_true h1]; rfl
    · rw [if_neg h1, decide_eq_false h1]; rfl
theorem i32_sub1 {x : Int32} (h : -2147483648 < x.toInt) : (x - 1).toInt = x.toInt - 1 := by
  have h1 := int_i32 x
  have h2 : (1 : Int32).toInt = 1 := by decide
  rw [Int32.toInt_sub, h2]
  exact Int.bmod_eq_of_le (by omega) (by omega)
theorem i32_add1 {x : Int32} (h : x.toInt < 2147483647) : (x + 1).toInt = x.toInt + 1 := by
  have h1 := int_i32 x
  have h2 : (1 : Int32).toInt = 1 := by decide
  rw [Int32.toInt_add, h2]
  exact Int.bmod_eq_of_le (by omega) (by omega)
theorem i32_min {x : Int32} (h : x.toInt = -2147483648) : x = -2147483648 := Int32.toInt_inj.mp (h.trans (by decide))
theorem i32_max {x : Int32} (h : x.toInt = 2147483647) : x = 2147483647 := Int32.toInt_inj.mp (h.trans (by decide))
theorem ixm1 {x : Int32} : (ix (x - 1) 100).isNone = (decide (x < 1) || decide (100 < x)) := by
  rw [ix_iff (by decide)]
  by_cases e : x.toInt = -2147483648
  · rw [i32_min e]; decide
  · have h1 := int_i32 x
    have h2 := i32_sub1 (x := x) (by omega)
    have a1 : (0 : Int32).toInt = 0 := by decide
    have a2 : (1 : Int32).toInt = 1 := by decide
    have a3 : (100 : Int32).toInt = 100 := by decide
    have a4 : (nI 100).toInt = 100 := by decide
    rw [Bool.eq_iff_iff, Bool.or_eq_true, Bool.or_eq_true, decide_eq_true_eq, decide_eq_true_eq, decide_eq_true_eq, decide_eq_true_eq, Int32.lt_iff_toInt_lt, Int32.lt_iff_toInt_lt, Int32.lt_iff_toInt_lt, Int32.le_iff_toInt_le, h2, a1, a2, a3, a4]
    omega
theorem ix101 {x : Int32} : (ix x 101).isNone = (decide (x < 0) || decide (100 < x)) := by
  rw [ix_iff (by decide)]
  have a1 : (0 : Int32).toInt = 0 := by decide
  have a3 : (100 : Int32).toInt = 100 := by decide
  have a4 : (nI 101).toInt = 101 := by decide
  rw [Bool.eq_iff_iff, Bool.or_eq_true, Bool.or_eq_true, decide_eq_true_eq, decide_eq_true_eq, decide_eq_true_eq, Int32.lt_iff_toInt_lt, Int32.lt_iff_toInt_lt, Int32.le_iff_toInt_le, a1, a3, a4]
  omega
theorem ixp1 {x : Int32} : (ix (x + 1) 101).isNone = (decide (x < -1) || !decide (x < 100)) := by
  rw [ix_iff (by decide)]
  by_cases e : x.toInt = 2147483647
  · rw [i32_max e]; decide
  · have h1 := int_i32 x
    have h2 := i32_add1 (x := x) (by omega)
    have a1 : (0 : Int32).toInt = 0 := by decide
    have a2 : (-1 : Int32).toInt = -1 := by decide
    have a3 : (100 : Int32).toInt = 100 := by decide
    have a4 : (nI 101).toInt = 101 := by decide
    rw [Bool.eq_iff_iff, Bool.or_eq_true, Bool.or_eq_true, Bool.not_eq_true', decide_eq_true_eq, decide_eq_true_eq, decide_eq_false_iff_not, decide_eq_true_eq, Int32.lt_iff_toInt_lt, Int32.lt_iff_toInt_lt, Int32.lt_iff_toInt_lt, Int32.le_iff_toInt_le, h2, a1, a2, a3, a4]
    omega
theorem sp_code {x y z : Int32} : cd1 (decide (x < 1) || decide (100 < x) || decide (y < 0) || decide (100 < y) || decide (z < 0) || decide (100 < z)) = cd1 ((ix (x - 1) 100).isNone || ((ix y 101).isNone || (ix z 101).isNone)) := by
  rw [ixm1, ix101, ix101]
  simp only [Bool.or_assoc]
theorem say_code {x y z u : Int32} : cd1 ((ix x 3).isNone || ((ix y 4).isNone || (ix z 50).isNone) || (decide (u < -1) || !decide (u < 100))) = cd1 ((ix x 3).isNone || ((ix y 4).isNone || ((ix z 50).isNone || (ix (u + 1) 101).isNone))) := by
  rw [ixp1]
  simp only [Bool.or_assoc]
set_option maxHeartbeats 4000000 in
set_option maxRecDepth 100000 in
/-- X8_setPrices -/
theorem k_X8_setPrices (l : Launch) (D : va_G) (ac : Nat → ClassId) (H : Heap) (A : Nat → Prop) (adr : Nat → Nat) (sf : Nat → Int32) (af : Nat → Nat → Int32) (hM : MW D A 24 adr (mw ac adr sf af) H) (x y z : Int32) : WRv l yX8_setPrices wsX8_setPrices ({ frames := 1, cells := 0, slots := 0, locals := 21 }) [.ref (adr 0), .int x, .int y, .int z] D ac H A 24 adr (fun w1 => MPo ac adr sf af (cd1 (decide (x < 1) || decide (100 < x) || decide (y < 0) || decide (100 < y) || decide (z < 0) || decide (100 < z))) (fun _ s1 a1 => s1 = (va_up (va_up (va_up (va_up sf 0 0) 2 x) 3 y) 4 z) ∧ a1 = af) 0 w1) := by
  refine Met.ofW (cc := cX8_setPrices) (maxL := 4) (ret := none) (by decide) rfl ?_
  intro p e s m args below meth c s₁ B hml hv
  obtain ⟨hargs, hsz, hK⟩ := hv
  have hx := B.exec
  have hb := B.bytes
  have hr := B.returns
  have hts := atoms_spec (ws := wsX8_setPrices) B.pre
  have hown : s.vm.findClass RX8 = some m.cls := findClass_of_methodNamed B.named
  have hlocks := B.notSynchronized
  subst hsz
  have inX8_ : ∀ w ∈ wsX80, w ∈ wsX8_setPrices := by decide +kernel
  have hS : va_S A s.heap s.heap [] := va_S.rf
  have hl := lv_entry ([.ref (adr 0), .int x, .int y, .int z]) (n := 4) (Nat.le_of_ble_eq_true rfl)
  have hen := lg_entry_eq m [.ref (adr 0), .int x, .int y, .int z] 4
  rw [← hargs] at hen
  rw [hen]
  generalize (lg_sl ([.ref (adr 0), .int x, .int y, .int z]) ++ List.replicate (4 - (lg_sl ([.ref (adr 0), .int x, .int y, .int z])).length) Slot.unset).toArray = ls at hl ⊢
  have hl : lv_has ls 4 [(0, .ref (adr 0)), (1, .int x), (2, .int y), (3, .int z)] := hl
  obtain ⟨Q0, hQ0⟩ : ∃ z0_, z0_ = MQ below (va_Qv (fun w1 => MPo ac adr sf af (cd1 (decide (x < 1) || decide (100 < x) || decide (y < 0) || decide (100 < y) || decide (z < 0) || decide (100 < z))) (fun _ s1 a1 => s1 = (va_up (va_up (va_up (va_up sf 0 0) 2 x) 3 y) 4 z) ∧ a1 = af) 0 w1) (fun c t => MW D A 24 adr c t.heap) A) args s 0 0 A := ⟨_, rfl⟩
  rw [← hQ0]
  refine lv_aload_n hx hb dX8_setPrices_0 rfl (lv_at hl 0 rfl) ?_
  refine lv_iload_n hx hb dX8_setPrices_1 rfl (lv_at hl 1 rfl) ?_
  refine lv_iconst (v := 1) hx hb dX8_setPrices_2 (by decide) ?_
  refine lv_isub hx hb dX8_setPrices_3 ?_
  refine lv_bipush (v := 100) hx hb dX8_setPrices_4 (by decide) ?_
  refine m_top (show (100 : Int32) = nI 100 from rfl) ?_
  refine r_calli (va_runS (As := [.int (x - 1), .int (nI 100)]) (rest := [.ref (adr 0)]) ⟨hx, hb, hml, hown, hts⟩ (k_X8_isIn l D ac _ (x - 1) 100 (by omega)) (va_cwS 2 hts gX8_setPrices_X8_isIn rfl rfl rfl (by decide +kernel) ⟨Nat.le_of_ble_eq_true rfl, Nat.le_of_ble_eq_true rfl⟩) (pS hK) rfl rfl hl.1 rfl (lv_room (Nat.le_of_ble_eq_true rfl)) dX8_setPrices_6 ⟨Nat.le_of_ble_eq_true rfl, Nat.le_of_ble_eq_true rfl⟩) hS (fun rv_1 locs hrv_1 hS => ?_)
  subst hrv_1
  rcases hi_x : ix (x - 1) 100 with _ | k_x
  · refine m_top (show _ = (0 : Int32) from rfl) ?_
    refine lv_if_eq (tgt := 34) hx hb dX8_setPrices_9 (by decide) (fun c9 => ?_) (fun c9 => ?_)
    · refine lv_iconst (v := 1) hx hb dX8_setPrices_34 (by decide) ?_
      refine w_calli (va_runV (As := [.int 1]) (rest := []) ⟨hx, hb, hml, hown, hts⟩ (k_X8_holds l D ac _ A adr sf af hM 1) (cwV 1 hts gX8_setPrices_X8_holds rfl rfl rfl (by decide +kernel) ⟨Nat.le_of_ble_eq_true rfl, Nat.le_of_ble_eq_true rfl⟩) (pV hK (ci := 8) rfl (hM.cel (by omega) (show (mw ac adr sf af) 0 = .inr (8, mfs adr sf) from rfl))) rfl rfl hl.1 rfl (lv_room (Nat.le_of_ble_eq_true rfl)) dX8_setPrices_35 ⟨Nat.le_of_ble_eq_true rfl, Nat.le_of_ble_eq_true rfl⟩) hS (fun rv_2 w_3 H locs hw_3 hM hS => ?_)
      obtain ⟨hrv_2, he_4⟩ := hw_3
      rw [he_4] at hM
      have hM := (MW.cg (s1 := (va_up sf 0 1)) (a1 := af) hM (fun j9 => if q0_ : j9 = 0 then (by subst q0_; rfl) else (by first | rfl | simp only [va_up, if_neg q0_] | fail)) (fun _ => rfl))
      subst hrv_2
      refine m_top (show _ = (0 : Int32) from rfl) ?_
      refine lv_if_eq (tgt := 56) hx hb dX8_setPrices_38 (by decide) (fun c38 => ?_) (fun c38 => ?_)
      · rw [hQ0]
        exact e_wv hx hb hlocks hr dX8_setPrices_56 hM hS (MPo.no (c := 1) (by rw [sp_code]; simp [cd1, hi_x] : cd1 (decide (x < 1) || decide (100 < x) || decide (y < 0) || decide (100 < y) || decide (z < 0) || decide (100 < z)) = 1) (by decide) rfl ⟨fun k9 u1_ u2_ => by first | rfl | simp only [va_up, if_neg u1_, if_neg u2_] | fail, fun k9 u1_ u2_ => by first | rfl | simp only [va_up, if_neg u1_, if_neg u2_] | fail⟩)
      · exact absurd c38 (by decide)
    · exact absurd c9 (by decide)
  · obtain ⟨b_x, e_x⟩ := ix_of hi_x (by omega)
    refine m_top (show _ = (1 : Int32) from rfl) ?_
    refine lv_if_eq (tgt := 34) hx hb dX8_setPrices_9 (by decide) (fun c9 => ?_) (fun c9 => ?_)
    · exact absurd c9 (by decide)
    · refine lv_iload_n hx hb dX8_setPrices_12 rfl (lv_at hl 2 rfl) ?_
      refine lv_bipush (v := 101) hx hb dX8_setPrices_13 (by decide) ?_
      refine m_top (show (101 : Int32) = nI 101 from rfl) ?_
      refine r_calli (va_runS (As := [.int y, .int (nI 101)]) (rest := [.ref (adr 0)]) ⟨hx, hb, hml, hown, hts⟩ (k_X8_isIn l D ac _ y 101 (by omega)) (va_cwS 2 hts gX8_setPrices_X8_isIn rfl rfl rfl (by decide +kernel) ⟨Nat.le_of_ble_eq_true rfl, Nat.le_of_ble_eq_true rfl⟩) (pS hK) rfl rfl hl.1 rfl (lv_room (Nat.le_of_ble_eq_true rfl)) dX8_setPrices_15 ⟨Nat.le_of_ble_eq_true rfl, Nat.le_of_ble_eq_true rfl⟩) hS (fun rv_5 locs hrv_5 hS => ?_)
      subst hrv_5
      rcases hi_y : ix y 101 with _ | k_y
      · refine m_top (show _ = (0 : Int32) from rfl) ?_
        refine lv_if_eq (tgt := 34) hx hb dX8_setPrices_18 (by decide) (fun c18 => ?_) (fun c18 => ?_)
        · refine lv_iconst (v := 1) hx hb dX8_setPrices_34 (by decide) ?_
          refine w_calli (va_runV (As := [.int 1]) (rest := []) ⟨hx, hb, hml, hown, hts⟩ (k_X8_holds l D ac _ A adr sf af hM 1) (cwV 1 hts gX8_setPrices_X8_holds rfl rfl rfl (by decide +kernel) ⟨Nat.le_of_ble_eq_true rfl, Nat.le_of_ble_eq_true rfl⟩) (pV hK (ci := 8) rfl (hM.cel (by omega) (show (mw ac adr sf af) 0 = .inr (8, mfs adr sf) from rfl))) rfl rfl hl.1 rfl (lv_room (Nat.le_of_ble_eq_true rfl)) dX8_setPrices_35 ⟨Nat.le_of_ble_eq_true rfl, Nat.le_of_ble_eq_true rfl⟩) hS (fun rv_6 w_7 H locs hw_7 hM hS => ?_)
          obtain ⟨hrv_6, he_8⟩ := hw_7
          rw [he_8] at hM
          have hM := (MW.cg (s1 := (va_up sf 0 1)) (a1 := af) hM (fun j9 => if q0_ : j9 = 0 then (by subst q0_; rfl) else (by first | rfl | simp only [va_up, if_neg q0_] | fail)) (fun _ => rfl))
          subst hrv_6
          refine m_top (show _ = (0 : Int32) from rfl) ?_
          refine lv_if_eq (tgt := 56) hx hb dX8_setPrices_38 (by decide) (fun c38 => ?_) (fun c38 => ?_)
          · rw [hQ0]
            exact e_wv hx hb hlocks hr dX8_setPrices_56 hM hS (MPo.no (c := 1) (by rw [sp_code]; simp [cd1, hi_x, hi_y] : cd1 (decide (x < 1) || decide (100 < x) || decide (y < 0) || decide (100 < y) || decide (z < 0) || decide (100 < z)) = 1) (by decide) rfl ⟨fun k9 u1_ u2_ => by first | rfl | simp only [va_up, if_neg u1_, if_neg u2_] | fail, fun k9 u1_ u2_ => by first | rfl | simp only [va_up, if_neg u1_, if_neg u2_] | fail⟩)
          · exact absurd c38 (by decide)
        · exact absurd c18 (by decide)
      · obtain ⟨b_y, e_y⟩ := ix_of hi_y (by omega)
        refine m_top (show _ = (1 : Int32) from rfl) ?_
        refine lv_if_eq (tgt := 34) hx hb dX8_setPrices_18 (by decide) (fun c18 => ?_) (fun c18 => ?_)
        · exact absurd c18 (by decide)
        · refine lv_iload_n hx hb dX8_setPrices_21 rfl (lv_at hl 3 rfl) ?_
          refine lv_bipush (v := 101) hx hb dX8_setPrices_22 (by decide) ?_
          refine m_top (show (101 : Int32) = nI 101 from rfl) ?_
          refine r_calli (va_runS (As := [.int z, .int (nI 101)]) (rest := [.ref (adr 0)]) ⟨hx, hb, hml, hown, hts⟩ (k_X8_isIn l D ac _ z 101 (by omega)) (va_cwS 2 hts gX8_setPrices_X8_isIn rfl rfl rfl (by decide +kernel) ⟨Nat.le_of_ble_eq_true rfl, Nat.le_of_ble_eq_true rfl⟩) (pS hK) rfl rfl hl.1 rfl (lv_room (Nat.le_of_ble_eq_true rfl)) dX8_setPrices_24 ⟨Nat.le_of_ble_eq_true rfl, Nat.le_of_ble_eq_true rfl⟩) hS (fun rv_9 locs hrv_9 hS => ?_)
          subst hrv_9
          rcases hi_z : ix z 101 with _ | k_z
          · refine m_top (show _ = (0 : Int32) from rfl) ?_
            refine lv_if_eq (tgt := 34) hx hb dX8_setPrices_27 (by decide) (fun c27 => ?_) (fun c27 => ?_)
            · refine lv_iconst (v := 1) hx hb dX8_setPrices_34 (by decide) ?_
              refine w_calli (va_runV (As := [.int 1]) (rest := []) ⟨hx, hb, hml, hown, hts⟩ (k_X8_holds l D ac _ A adr sf af hM 1) (cwV 1 hts gX8_setPrices_X8_holds rfl rfl rfl (by decide +kernel) ⟨Nat.le_of_ble_eq_true rfl, Nat.le_of_ble_eq_true rfl⟩) (pV hK (ci := 8) rfl (hM.cel (by omega) (show (mw ac adr sf af) 0 = .inr (8, mfs adr sf) from rfl))) rfl rfl hl.1 rfl (lv_room (Nat.le_of_ble_eq_true rfl)) dX8_setPrices_35 ⟨Nat.le_of_ble_eq_true rfl, Nat.le_of_ble_eq_true rfl⟩) hS (fun rv_10 w_11 H locs hw_11 hM hS => ?_)
              obtain ⟨hrv_10, he_12⟩ := hw_11
              rw [he_12] at hM
              have hM := (MW.cg (s1 := (va_up sf 0 1)) (a1 := af) hM (fun j9 => if q0_ : j9 = 0 then (by subst q0_; rfl) else (by first | rfl | simp only [va_up, if_neg q0_] | fail)) (fun _ => rfl))
              subst hrv_10
              refine m_top (show _ = (0 : Int32) from rfl) ?_
              refine lv_if_eq (tgt := 56) hx hb dX8_setPrices_38 (by decide) (fun c38 => ?_) (fun c38 => ?_)
              · rw [hQ0]
                exact e_wv hx hb hlocks hr dX8_setPrices_56 hM hS (MPo.no (c := 1) (by rw [sp_code]; simp [cd1, hi_x, hi_y, hi_z] : cd1 (decide (x < 1) || decide (100 < x) || decide (y < 0) || decide (100 < y) || decide (z < 0) || decide (100 < z)) = 1) (by decide) rfl ⟨fun k9 u1_ u2_ => by first | rfl | simp only [va_up, if_neg u1_, if_neg u2_] | fail, fun k9 u1_ u2_ => by first | rfl | simp only [va_up, if_neg u1_, if_neg u2_] | fail⟩)
              · exact absurd c38 (by decide)
            · exact absurd c27 (by decide)
          · obtain ⟨b_z, e_z⟩ := ix_of hi_z (by omega)
            refine m_top (show _ = (1 : Int32) from rfl) ?_
            refine lv_if_eq (tgt := 34) hx hb dX8_setPrices_27 (by decide) (fun c27 => ?_) (fun c27 => ?_)
            · exact absurd c27 (by decide)
            · refine lv_iconst (v := 0) hx hb dX8_setPrices_30 (by decide) ?_
              refine lv_goto (tgt := 35) hx hb dX8_setPrices_31 (by decide) ?_
              refine w_calli (va_runV (As := [.int 0]) (rest := []) ⟨hx, hb, hml, hown, hts⟩ (k_X8_holds l D ac _ A adr sf af hM 0) (cwV 1 hts gX8_setPrices_X8_holds rfl rfl rfl (by decide +kernel) ⟨Nat.le_of_ble_eq_true rfl, Nat.le_of_ble_eq_true rfl⟩) (pV hK (ci := 8) rfl (hM.cel (by omega) (show (mw ac adr sf af) 0 = .inr (8, mfs adr sf) from rfl))) rfl rfl hl.1 rfl (lv_room (Nat.le_of_ble_eq_true rfl)) dX8_setPrices_35 ⟨Nat.le_of_ble_eq_true rfl, Nat.le_of_ble_eq_true rfl⟩) hS (fun rv_13 w_14 H locs hw_14 hM hS => ?_)
              obtain ⟨hrv_13, he_15⟩ := hw_14
              rw [he_15] at hM
              have hM := (MW.cg (s1 := (va_up sf 0 0)) (a1 := af) hM (fun j9 => if q0_ : j9 = 0 then (by subst q0_; rfl) else (by first | rfl | simp only [va_up, if_neg q0_] | fail)) (fun _ => rfl))
              subst hrv_13
              refine m_top (show _ = (1 : Int32) from rfl) ?_
              refine lv_if_eq (tgt := 56) hx hb dX8_setPrices_38 (by decide) (fun c38 => ?_) (fun c38 => ?_)
              · exact absurd c38 (by decide)
              · refine lv_aload_n hx hb dX8_setPrices_41 rfl (lv_at hl 0 rfl) ?_
                refine lv_iload_n hx hb dX8_setPrices_42 rfl (lv_at hl 1 rfl) ?_
                refine m_put (ci := 8) (C := RX8) (T := TX8) (n := 35) (v := .int x) (ty := tyX8 3) hx hb hts inX8_ tyX8 tyX8_ok nmX8 hown hK hM hS rfl 0 (by omega) (show (mw ac adr (va_up sf 0 0) af) 0 = .inr (8, mfs adr (va_up sf 0 0)) from rfl) 3 (by decide) (hts _ (by decide +kernel)) rfl (by decide +kernel) rfl rfl (Nat.le_of_ble_eq_true rfl) dX8_setPrices_43 (fun H locs hM hS => ?_)
                have hM : MW D A 24 adr (va_up (mw ac adr (va_up sf 0 0) af) 0 (.inr (8, mfs adr (va_up (va_up sf 0 0) 2 x)))) H := hM
                have hM := MW.mobj (s1 := (va_up (va_up sf 0 0) 2 x)) hM rfl
                refine lv_aload_n hx hb dX8_setPrices_46 rfl (lv_at hl 0 rfl) ?_
                refine lv_iload_n hx hb dX8_setPrices_47 rfl (lv_at hl 2 rfl) ?_
                refine m_put (ci := 8) (C := RX8) (T := TX8) (n := 35) (v := .int y) (ty := tyX8 4) hx hb hts inX8_ tyX8 tyX8_ok nmX8 hown hK hM hS rfl 0 (by omega) (show (mw ac adr (va_up (va_up sf 0 0) 2 x) af) 0 = .inr (8, mfs adr (va_up (va_up sf 0 0) 2 x)) from rfl) 4 (by decide) (hts _ (by decide +kernel)) rfl (by decide +kernel) rfl rfl (Nat.le_of_ble_eq_true rfl) dX8_setPrices_48 (fun H locs hM hS => ?_)
                have hM : MW D A 24 adr (va_up (mw ac adr (va_up (va_up sf 0 0) 2 x) af) 0 (.inr (8, mfs adr (va_up (va_up (va_up sf 0 0) 2 x) 3 y)))) H := hM
                have hM := MW.mobj (s1 := (va_up (va_up (va_up sf 0 0) 2 x) 3 y)) hM rfl
                refine lv_aload_n hx hb dX8_setPrices_51 rfl (lv_at hl 0 rfl) ?_
                refine lv_iload_n hx hb dX8_setPrices_52 rfl (lv_at hl 3 rfl) ?_
                refine m_put (ci := 8) (C := RX8) (T := TX8) (n := 35) (v := .int z) (ty := tyX8 5) hx hb hts inX8_ tyX8 tyX8_ok nmX8 hown hK hM hS rfl 0 (by omega) (show (mw ac adr (va_up (va_up (va_up sf 0 0) 2 x) 3 y) af) 0 = .inr (8, mfs adr (va_up (va_up (va_up sf 0 0) 2 x) 3 y)) from rfl) 5 (by decide) (hts _ (by decide +kernel)) rfl (by decide +kernel) rfl rfl (Nat.le_of_ble_eq_true rfl) dX8_setPrices_53 (fun H locs hM hS => ?_)
                have hM : MW D A 24 adr (va_up (mw ac adr (va_up (va_up (va_up sf 0 0) 2 x) 3 y) af) 0 (.inr (8, mfs adr (va_up (va_up (va_up (va_up sf 0 0) 2 x) 3 y) 4 z)))) H := hM
                have hM := MW.mobj (s1 := (va_up (va_up (va_up (va_up sf 0 0) 2 x) 3 y) 4 z)) hM rfl
                rw [hQ0]
                exact e_wv hx hb hlocks hr dX8_setPrices_56 hM hS (MPo.ok (by rw [sp_code]; simp [cd1, hi_x, hi_y, hi_z] : cd1 (decide (x < 1) || decide (100 < x) || decide (y < 0) || decide (100 < y) || decide (z < 0) || decide (100 < z)) = 0) rfl ⟨rfl, rfl⟩)
