theorem nI_dec {i : Nat} (h : 0 < i) : nI i + Int32.ofInt (-1) = nI (i - 1) := by
  have e : nI i + Int32.ofInt (-1) = nI i - nI 1 := by rw [Int32.sub_eq_add_neg]; rfl
  rw [e]
  exact pk_sub h
/-- a row and its match are paired from their ends on, F steps at most -/
def lendF (f g : Nat → Int32) (lb : Nat → Int32) : Nat → Nat → Nat → (Nat → Int32) → (Nat → Int32)
  | 0, _, _, b => b
  | F + 1, i, j, b => if i = 0 ∨ j = 0 then b else if f (i - 1) = g (j - 1) then lendF f g lb F (i - 1) (j - 1) (upd b (i - 1) (lb (j - 1))) else lendF f g lb F (i - (if skp (ed f g (i - 1) j) (ed f g i (j - 1)) (ed f g (i - 1) (j - 1)) = 1 then 0 else 1)) (j - (if skp (ed f g (i - 1) j) (ed f g i (j - 1)) (ed f g (i - 1) (j - 1)) = 0 then 0 else 1)) b
theorem lendF_z {f g lb b : Nat → Int32} {F i j : Nat} (h : i = 0 ∨ j = 0) : lendF f g lb F i j b = b := by
  cases F with
  | zero => rfl
  | succ F => show (if _ then _ else _) = _; rw [if_pos h]
theorem lendF_p {f g lb b : Nat → Int32} {F i j : Nat} (hi : 0 < i) (hj : 0 < j) (h : f (i - 1) = g (j - 1)) : lendF f g lb (F + 1) i j b = lendF f g lb F (i - 1) (j - 1) (upd b (i - 1) (lb (j - 1))) := by
  show (if _ then _ else _) = _
  rw [if_neg (by omega), if_pos h]
theorem lendF_n {f g lb b : Nat → Int32} {F i j : Nat} (hi : 0 < i) (hj : 0 < j) (h : ¬ f (i - 1) = g (j - 1)) : lendF f g lb (F + 1) i j b = lendF f g lb F (i - (if skp (ed f g (i - 1) j) (ed f g i (j - 1)) (ed f g (i - 1) (j - 1)) = 1 then 0 else 1)) (j - (if skp (ed f g (i - 1) j) (ed f g i (j - 1)) (ed f g (i - 1) (j - 1)) = 0 then 0 else 1)) b := by
  show (if _ then _ else _) = _
  rw [if_neg (by omega), if_neg h]
/-- what the words of the sentence o become by the match x -/
def lndO (on_ : Nat → Nat) (owd : Nat → Nat → Nat) (obf : Nat → Nat → Int32) (ns : Nat) (so : Nat → Nat) (o : Nat) (x : Int32) : Nat → Int32 := (ix x ns).elim (obf o) (fun i => lendF (fun j => nI (owd o j)) (fun j => nI (owd (so i) j)) (obf (so i)) 16 (on_ o) (on_ (so i)) (obf o))
theorem ln_end {w w1 : Nat → va_E} {k : Nat} {e13 e9 : va_E} (h1 : w1 13 = e13) (h0 : w1 k = e9) (h : ∀ q, q ≠ 13 → q ≠ k → w1 q = w q) : w1 = va_up (va_up w 13 e13) k e9 := by
  funext q
  by_cases q1 : q = k
  · subst q1; rw [va_up_self, h0]
  · rw [va_up_ne _ _ q1]
    by_cases q2 : q = 13
    · subst q2; rw [va_up_self, h1]
    · rw [va_up_ne _ _ q2, h q q2 q1]
set_option maxHeartbeats 4000000 in
set_option maxRecDepth 100000 in
/-- Memory.lendTo -/
theorem k_X2_lendTo (l : Launch) (D : va_G) (ac : Nat → ClassId) (H : Heap) (A : Nat → Prop) (N : Nat) (adr : Nat → Nat) (w : Nat → va_E) (hM : MW D A N adr w H) (no : Nat) (oc on_ : Nat → Nat) (owd : Nat → Nat → Nat) (obf : Nat → Nat → Int32) (ns : Nat) (so : Nat → Nat) (hv : Nat → Int64) (nd : Nat) (du : Nat → Nat) (T : Nat → Int32) (hN : 22 + 6 * no ≤ N) (hS1 : SenF ac adr w no oc on_ owd obf) (hm : MemW ac adr w ns so hv nd du T) (hso : ∀ i, i < ns → so i < no) (o : Nat) (ho : o < no) (hlo : ∀ i, i < ns → so i ≠ o) (x : Int32) : WRv l yX2_lendTo wsX2_lendTo ({ frames := 3, cells := 0, slots := 0, locals := 74 }) [.ref (adr 7), .ref (adr (23 + 6 * o)), .int x] D ac H A N adr (fun w1 => ∃ T1 : Nat → Int32, w1 = va_up (va_up w 13 (.inl (ac 0, 81, .inl T1))) (23 + 6 * o + 4) (.inl (ac 0, 8, .inl (lndO on_ owd obf ns so o x)))) := by
  refine Met.ofW (cc := cX2_lendTo) (maxL := 8) (ret := none) (by decide) rfl ?_
  intro p e s m args below meth c s₁ B hml hv
  obtain ⟨hargs, hsz, hK⟩ := hv
  have hx := B.exec
  have hb := B.bytes
  have hr := B.returns
  have hts := atoms_spec (ws := wsX2_lendTo) B.pre
  have hown : s.vm.findClass RX2 = some m.cls := findClass_of_methodNamed B.named
  have hlocks := B.notSynchronized
  subst hsz
  have inX2_ : ∀ w ∈ wsX20, w ∈ wsX2_lendTo := by decide +kernel
  have inX4_ : ∀ w ∈ wsX40, w ∈ wsX2_lendTo := by decide +kernel
  have inX6_ : ∀ w ∈ wsX60, w ∈ wsX2_lendTo := by decide +kernel
  have hS : va_S A s.heap s.heap [] := va_S.rf
  have hl := lv_entry ([.ref (adr 7), .ref (adr (23 + 6 * o)), .int x]) (n := 8) (Nat.le_of_ble_eq_true rfl)
  have hen := lg_entry_eq m [.ref (adr 7), .ref (adr (23 + 6 * o)), .int x] 8
  rw [← hargs] at hen
  rw [hen]
  generalize (lg_sl ([.ref (adr 7), .ref (adr (23 + 6 * o)), .int x]) ++ List.replicate (8 - (lg_sl ([.ref (adr 7), .ref (adr (23 + 6 * o)), .int x])).length) Slot.unset).toArray = ls at hl ⊢
  have hl : lv_has ls 8 [(0, .ref (adr 7)), (1, .ref (adr (23 + 6 * o))), (2, .int x)] := hl
  obtain ⟨Q0, hQ0⟩ : ∃ z, z = MQ below (va_Qv (fun w1 => ∃ T1 : Nat → Int32, w1 = va_up (va_up w 13 (.inl (ac 0, 81, .inl T1))) (23 + 6 * o + 4) (.inl (ac 0, 8, .inl (lndO on_ owd obf ns so o x)))) (fun c t => MW D A N adr c t.heap) A) args s 0 0 A := ⟨_, rfl⟩
  rw [← hQ0]
  obtain ⟨hns, hnd⟩ := hm.2.2.2.2.2.2.2
  have hsno_ := hS1 o ho
  obtain ⟨hn0o, hn8o, hclo, hwdo⟩ := hsno_.2.2.2.2.2
  refine lv_aload_n hx hb dX2_lendTo_0 rfl (lv_at hl 0 rfl) ?_
  refine lv_iload_n hx hb dX2_lendTo_1 rfl (lv_at hl 2 rfl) ?_
  refine r_callq (va_runV (As := [.int x]) (rest := []) ⟨hx, hb, hml, hown, hts⟩ (k_X2_sentenceAt l D ac _ (adr 7) (adr 8) (sref adr ns so) (.ref (adr 9)) (.ref (adr 10)) (.ref (adr 12)) (.int (nI ns)) (hM.cel (by omega) hm.1) (hM.cel (by omega) hm.2.1) x) (cwV 1 hts gX2_lendTo_X2_sentenceAt rfl rfl rfl (by decide +kernel) ⟨Nat.le_of_ble_eq_true rfl, Nat.le_of_ble_eq_true rfl⟩) (pV hK (ci := 2) rfl (hM.cel (by omega) hm.1)) rfl rfl hl.1 rfl (lv_room (Nat.le_of_ble_eq_true rfl)) dX2_lendTo_2 ⟨Nat.le_of_ble_eq_true rfl, Nat.le_of_ble_eq_true rfl⟩) hS (fun rv_1 locs hrv_1 hS => ?_)
  subst hrv_1
  refine m_topq (show (ix x 40).bind (sref adr ns so) = (ix x ns).map (fun i => adr (23 + 6 * so i)) from sat_eq (by omega)) ?_
  rcases hi : ix x ns with _ | jhi
  · refine m_topn ?_
    refine lv_astore_nN (lv' := [(3, .null), (0, .ref (adr 7)), (1, .ref (adr (23 + 6 * o))), (2, .int x)]) hx hb dX2_lendTo_5 rfl hl (by decide) rfl (fun ls hl => ?_)
    refine lv_aload_nN hx hb dX2_lendTo_6 rfl (lv_at hl 0 rfl) ?_
    refine lv_ifnonnullN hx hb dX2_lendTo_7 ?_
    rw [hQ0]
    exact e_wv hx hb hlocks hr dX2_lendTo_10 hM hS (⟨T, by unfold lndO; rw [hi]; show w = va_up (va_up w 13 _) (23 + 6 * o + 4) (.inl (ac 0, 8, .inl (obf o))); rw [va_up_same hm.2.2.2.2.2.2.1, va_up_same hsno_.2.2.2.2.1]⟩)
  · obtain ⟨hj_, he_⟩ := ix_of hi (by omega)
    have ho_ : so jhi < no := hso jhi hj_
    have hsn_ := hS1 (so jhi) ho_
    obtain ⟨hn0_, hn8_, hcl_, hwd_⟩ := hsn_.2.2.2.2.2
    refine m_topr ?_
    have hne_ : so jhi ≠ o := hlo jhi hj_
    refine lv_astore_n (lv' := [(3, .ref (adr (23 + 6 * so jhi))), (0, .ref (adr 7)), (1, .ref (adr (23 + 6 * o))), (2, .int x)]) hx hb dX2_lendTo_5 rfl hl (by decide) rfl (fun ls hl => ?_)
    refine lv_aload_n hx hb dX2_lendTo_6 rfl (lv_at hl 0 rfl) ?_
    refine lv_ifnonnull (tgt := 11) hx hb dX2_lendTo_7 (by decide) ?_
    refine lv_aload_n hx hb dX2_lendTo_11 rfl (lv_at hl 1 rfl) ?_
    refine m_get (ci := 2) (C := RX2) (T := TX2) (n := 5) (v := .ref (adr 12)) hx hb hts inX2_ hown hK rfl (hM.cel (by omega) hm.1) 3 (by decide) (hts _ (by decide +kernel)) rfl dX2_lendTo_12 ?_
    refine lv_aload_n hx hb dX2_lendTo_15 rfl (lv_at hl 2 rfl) ?_
    refine m_getN (host := RX7) (ci := 6) (C := RX6) (T := TX6) (n := 3) (v := .ref (adr (23 + 6 * o + 1))) hx hb hts inX6_ hown hK rfl (hM.cel (by have := ho; omega) hsno_.1) 1 (by decide) 17 rfl rfl dX2_lendTo_16 ?_
    refine lv_aload_n hx hb dX2_lendTo_19 rfl (lv_at hl 0 rfl) ?_
    refine m_getN (host := RX7) (ci := 6) (C := RX6) (T := TX6) (n := 3) (v := .ref (adr (23 + 6 * so jhi + 1))) hx hb hts inX6_ hown hK rfl (hM.cel (by have := ho_; omega) hsn_.1) 1 (by decide) 17 rfl rfl dX2_lendTo_20 ?_
    refine w_callv (va_runV (As := [.ref (adr (23 + 6 * o + 1)), .ref (adr (23 + 6 * so jhi + 1))]) (rest := []) ⟨hx, hb, hml, hown, hts⟩ (k_X0_compare l D ac _ A N adr w hM 12 13 T (by omega) (by omega) (by omega) hm.2.2.2.2.2.1 hm.2.2.2.2.2.2.1 (23 + 6 * o + 1) (23 + 6 * o + 2) (23 + 6 * so jhi + 1) (23 + 6 * so jhi + 2) ((on_ o)) ((on_ (so jhi))) (fun j => nI (owd o j)) (fun j => nI (owd (so jhi) j)) (by have := ho; omega) (by have := ho; omega) (by have := ho_; omega) (by have := ho_; omega) (by omega) (by omega) (by omega) hsno_.2.1 hsno_.2.2.1 hsn_.2.1 hsn_.2.2.1) (cwV 2 hts gX2_lendTo_X0_compare rfl rfl rfl (by decide +kernel) ⟨Nat.le_of_ble_eq_true rfl, Nat.le_of_ble_eq_true rfl⟩) (pV hK (ci := 0) rfl (hM.cel (by omega) hm.2.2.2.2.2.1)) rfl rfl hl.1 rfl (lv_room (Nat.le_of_ble_eq_true rfl)) dX2_lendTo_23 ⟨Nat.le_of_ble_eq_true rfl, Nat.le_of_ble_eq_true rfl⟩) hS (fun w_3 H locs hw_3 hM hS => ?_)
    obtain ⟨T_4, hw_3, eT_4⟩ := hw_3
    have h_5 : w_3 7 = .inr (2, [.ref (adr 8), .ref (adr 9), .ref (adr 10), .ref (adr 12), .int (nI ns)]) := by rw [hw_3, va_up_ne _ _ (by omega)]; exact hm.1
    have h_6 : w_3 8 = .inl (ac 4, 40, .inr (.inr (.inr (.inr (sref adr ns so))))) := by rw [hw_3, va_up_ne _ _ (by omega)]; exact hm.2.1
    have h_7 : w_3 9 = .inl (ac 1, 50, .inr (.inl hv)) := by rw [hw_3, va_up_ne _ _ (by omega)]; exact hm.2.2.1
    have h_8 : w_3 10 = .inr (1, [.ref (adr 11), .int (nI nd)]) := by rw [hw_3, va_up_ne _ _ (by omega)]; exact hm.2.2.2.1
    have h_9 : w_3 11 = .inl (ac 0, 60, .inl (fun j => nI (du j))) := by rw [hw_3, va_up_ne _ _ (by omega)]; exact hm.2.2.2.2.1
    have h_10 : w_3 12 = .inr (0, [.ref (adr 13)]) := by rw [hw_3, va_up_ne _ _ (by omega)]; exact hm.2.2.2.2.2.1
    have h_11 : w_3 13 = .inl (ac 0, 81, .inl T_4) := by rw [hw_3]; exact va_up_self _ _ _
    have h_12 : w_3 (23 + 6 * o) = .inr (6, [.int (nI (oc o)), .ref (adr (23 + 6 * o + 1)), .ref (adr (23 + 6 * o + 3))]) := by rw [hw_3, va_up_ne _ _ (by omega)]; exact hsno_.1
    have h_13 : w_3 (23 + 6 * o + 1) = .inr (4, [.ref (adr (23 + 6 * o + 2)), .int (nI (on_ o))]) := by rw [hw_3, va_up_ne _ _ (by omega)]; exact hsno_.2.1
    have h_14 : w_3 (23 + 6 * o + 2) = .inl (ac 0, 8, .inl (fun j => nI (owd o j))) := by rw [hw_3, va_up_ne _ _ (by omega)]; exact hsno_.2.2.1
    have h_15 : w_3 (23 + 6 * o + 3) = .inr (4, [.ref (adr (23 + 6 * o + 4)), .int (nI (on_ o))]) := by rw [hw_3, va_up_ne _ _ (by omega)]; exact hsno_.2.2.2.1
    have h_16 : w_3 (23 + 6 * o + 4) = .inl (ac 0, 8, .inl (obf o)) := by rw [hw_3, va_up_ne _ _ (by omega)]; exact hsno_.2.2.2.2.1
    have h_17 : w_3 (23 + 6 * so jhi) = .inr (6, [.int (nI (oc (so jhi))), .ref (adr (23 + 6 * so jhi + 1)), .ref (adr (23 + 6 * so jhi + 3))]) := by rw [hw_3, va_up_ne _ _ (by omega)]; exact hsn_.1
    have h_18 : w_3 (23 + 6 * so jhi + 1) = .inr (4, [.ref (adr (23 + 6 * so jhi + 2)), .int (nI (on_ (so jhi)))]) := by rw [hw_3, va_up_ne _ _ (by omega)]; exact hsn_.2.1
    have h_19 : w_3 (23 + 6 * so jhi + 2) = .inl (ac 0, 8, .inl (fun j => nI (owd (so jhi) j))) := by rw [hw_3, va_up_ne _ _ (by omega)]; exact hsn_.2.2.1
    have h_20 : w_3 (23 + 6 * so jhi + 3) = .inr (4, [.ref (adr (23 + 6 * so jhi + 4)), .int (nI (on_ (so jhi)))]) := by rw [hw_3, va_up_ne _ _ (by omega)]; exact hsn_.2.2.2.1
    have h_21 : w_3 (23 + 6 * so jhi + 4) = .inl (ac 0, 8, .inl (obf (so jhi))) := by rw [hw_3, va_up_ne _ _ (by omega)]; exact hsn_.2.2.2.2.1
    have h_22 : SenF ac adr w_3 no oc on_ owd obf := by rw [hw_3]; exact (SenF.up (by omega) hS1)
    refine lv_aload_n hx hb dX2_lendTo_26 rfl (lv_at hl 2 rfl) ?_
    refine m_getN (host := RX7) (ci := 6) (C := RX6) (T := TX6) (n := 3) (v := .ref (adr (23 + 6 * o + 1))) hx hb hts inX6_ hown hK rfl (hM.cel (by have := ho; omega) h_12) 1 (by decide) 17 rfl rfl dX2_lendTo_27 ?_
    refine m_getN (host := RX7) (ci := 4) (C := RX4) (T := TX4) (n := 2) (v := .int (nI (on_ o))) hx hb hts inX4_ hown hK rfl (hM.cel (by have := ho; omega) h_13) 1 (by decide) 4 rfl rfl dX2_lendTo_30 ?_
    refine lv_istore (lv' := [(4, .int (nI (on_ o))), (3, .ref (adr (23 + 6 * so jhi))), (0, .ref (adr 7)), (1, .ref (adr (23 + 6 * o))), (2, .int x)]) hx hb dX2_lendTo_33 hl (by decide) rfl (fun ls hl => ?_)
    refine lv_aload_n hx hb dX2_lendTo_35 rfl (lv_at hl 1 rfl) ?_
    refine m_getN (host := RX7) (ci := 6) (C := RX6) (T := TX6) (n := 3) (v := .ref (adr (23 + 6 * so jhi + 1))) hx hb hts inX6_ hown hK rfl (hM.cel (by have := ho_; omega) h_17) 1 (by decide) 17 rfl rfl dX2_lendTo_36 ?_
    refine m_getN (host := RX7) (ci := 4) (C := RX4) (T := TX4) (n := 2) (v := .int (nI (on_ (so jhi)))) hx hb hts inX4_ hown hK rfl (hM.cel (by have := ho_; omega) h_18) 1 (by decide) 4 rfl rfl dX2_lendTo_39 ?_
    refine lv_istore (lv' := [(5, .int (nI (on_ (so jhi)))), (4, .int (nI (on_ o))), (3, .ref (adr (23 + 6 * so jhi))), (0, .ref (adr 7)), (1, .ref (adr (23 + 6 * o))), (2, .int x)]) hx hb dX2_lendTo_42 hl (by decide) rfl (fun ls hl => ?_)
    refine lv_iconst (v := 0) hx hb dX2_lendTo_44 (by decide) ?_
    refine lv_istore (lv' := [(6, .int 0), (5, .int (nI (on_ (so jhi)))), (4, .int (nI (on_ o))), (3, .ref (adr (23 + 6 * so jhi))), (0, .ref (adr 7)), (1, .ref (adr (23 + 6 * o))), (2, .int x)]) hx hb dX2_lendTo_45 hl (by decide) rfl (fun ls hl => ?_)
    have L47 : ∀ (k9 : Nat) (s9 : Nat) (F9 : Nat) (i : Nat) (j : Nat) (Tz : Nat → Int32) (bz : Nat → Int32) (hTz : ∀ a b, a ≤ on_ o → b ≤ on_ (so jhi) → Tz (a * 9 + b) = nI (ed (fun j => nI (owd o j)) (fun j => nI (owd (so jhi) j)) a b)) (hk : F9 < k9) (hsF : s9 + F9 = 16) (hij : i + j ≤ F9) (hi9 : i ≤ on_ o) (hj9 : j ≤ on_ (so jhi)) (hI : lendF (fun j => nI (owd o j)) (fun j => nI (owd (so jhi) j)) (obf (so jhi)) 16 (on_ o) (on_ (so jhi)) (obf o) = lendF (fun j => nI (owd o j)) (fun j => nI (owd (so jhi) j)) (obf (so jhi)) F9 i j bz) (wz : Nat → va_E) (z0wz : wz 7 = .inr (2, [.ref (adr 8), .ref (adr 9), .ref (adr 10), .ref (adr 12), .int (nI ns)])) (z1wz : wz 12 = .inr (0, [.ref (adr 13)])) (z2wz : wz 13 = .inl (ac 0, 81, .inl Tz)) (z3wz : wz (23 + 6 * o) = .inr (6, [.int (nI (oc o)), .ref (adr (23 + 6 * o + 1)), .ref (adr (23 + 6 * o + 3))])) (z4wz : wz (23 + 6 * o + 1) = .inr (4, [.ref (adr (23 + 6 * o + 2)), .int (nI (on_ o))])) (z5wz : wz (23 + 6 * o + 2) = .inl (ac 0, 8, .inl (fun j => nI (owd o j)))) (z6wz : wz (23 + 6 * o + 3) = .inr (4, [.ref (adr (23 + 6 * o + 4)), .int (nI (on_ o))])) (z7wz : wz (23 + 6 * o + 4) = .inl (ac 0, 8, .inl bz)) (z8wz : wz (23 + 6 * so jhi) = .inr (6, [.int (nI (oc (so jhi))), .ref (adr (23 + 6 * so jhi + 1)), .ref (adr (23 + 6 * so jhi + 3))])) (z9wz : wz (23 + 6 * so jhi + 1) = .inr (4, [.ref (adr (23 + 6 * so jhi + 2)), .int (nI (on_ (so jhi)))])) (z10wz : wz (23 + 6 * so jhi + 2) = .inl (ac 0, 8, .inl (fun j => nI (owd (so jhi) j)))) (z11wz : wz (23 + 6 * so jhi + 3) = .inr (4, [.ref (adr (23 + 6 * so jhi + 4)), .int (nI (on_ (so jhi)))])) (z12wz : wz (23 + 6 * so jhi + 4) = .inl (ac 0, 8, .inl (obf (so jhi)))) (zrwz : ∀ q, q ≠ 13 → q ≠ 23 + 6 * o + 4 → wz q = w q) (H : Heap) (locs : List Loc) (hM : MW D A N adr wz H) (hS : va_S A s.heap H locs) (ls : Array Slot) (hl : lv_has ls 8 [(0, .ref (adr 7)), (1, .ref (adr (23 + 6 * o))), (3, .ref (adr (23 + 6 * so jhi))), (4, .int (nI i)), (5, .int (nI j)), (6, .int (nI s9))]), W p l e (headSpec wsX2_lendTo ({ frames := 3, cells := 0, slots := 0, locals := 74 })).room s m args below meth c H locs 0 0 Q0 (F0 m 47 ls []) := by
      intro k9
      induction k9 with
      | zero => intro s9 F9 i j Tz bz hTz hk hsF hij hi9 hj9 hI wz z0wz z1wz z2wz z3wz z4wz z5wz z6wz z7wz z8wz z9wz z10wz z11wz z12wz zrwz H locs hM hS ls hl; exact absurd hk (Nat.not_lt_zero _)
      | succ k9 ih47 =>
        intro s9 F9 i j Tz bz hTz hk hsF hij hi9 hj9 hI wz z0wz z1wz z2wz z3wz z4wz z5wz z6wz z7wz z8wz z9wz z10wz z11wz z12wz zrwz H locs hM hS ls hl
        refine lv_iload hx hb dX2_lendTo_47 (lv_at hl 5 rfl) ?_
        refine lv_bipush (v := 16) hx hb dX2_lendTo_49 (by decide) ?_
        refine lv_icmp_ge (tgt := 166) hx hb dX2_lendTo_51 (by decide) (fun c51 => ?_) (fun c51 => ?_)
        · have hz_ : i = 0 ∨ j = 0 := by have := le_le (a := 16) c51 (by omega) (by omega); omega
          rw [hQ0]
          exact e_wv hx hb hlocks hr dX2_lendTo_166 hM hS (⟨Tz, by unfold lndO; rw [hi]; show wz = va_up (va_up w 13 _) (23 + 6 * o + 4) (.inl (ac 0, 8, .inl (lendF (fun j => nI (owd o j)) (fun j => nI (owd (so jhi) j)) (obf (so jhi)) 16 (on_ o) (on_ (so jhi)) (obf o)))); rw [hI, lendF_z hz_]; exact ln_end z2wz z7wz zrwz⟩)
        · refine lv_iload hx hb dX2_lendTo_54 (lv_at hl 3 rfl) ?_
          refine lv_if_le (tgt := 166) hx hb dX2_lendTo_56 (by decide) (fun c56 => ?_) (fun c56 => ?_)
          · have hz_ : i = 0 ∨ j = 0 := Or.inl (Classical.byContradiction (fun e => absurd c56 (by intro h; exact absurd (show (0 : Int32) < nI i from by rw [← nI_0]; exact nI_lt (by omega) (by omega)) (fun q => by rw [Int32.lt_iff_toInt_lt] at q; rw [Int32.le_iff_toInt_le] at h; omega))))
            rw [hQ0]
            exact e_wv hx hb hlocks hr dX2_lendTo_166 hM hS (⟨Tz, by unfold lndO; rw [hi]; show wz = va_up (va_up w 13 _) (23 + 6 * o + 4) (.inl (ac 0, 8, .inl (lendF (fun j => nI (owd o j)) (fun j => nI (owd (so jhi) j)) (obf (so jhi)) 16 (on_ o) (on_ (so jhi)) (obf o)))); rw [hI, lendF_z hz_]; exact ln_end z2wz z7wz zrwz⟩)
          · have hip : 0 < i := Nat.pos_of_ne_zero (fun e => by rw [e] at c56; exact c56 (by decide))
            refine lv_iload hx hb dX2_lendTo_59 (lv_at hl 4 rfl) ?_
            refine lv_if_le (tgt := 166) hx hb dX2_lendTo_61 (by decide) (fun c61 => ?_) (fun c61 => ?_)
            · have hz_ : i = 0 ∨ j = 0 := Or.inr (Classical.byContradiction (fun e => absurd c61 (by intro h; exact absurd (show (0 : Int32) < nI j from by rw [← nI_0]; exact nI_lt (by omega) (by omega)) (fun q => by rw [Int32.lt_iff_toInt_lt] at q; rw [Int32.le_iff_toInt_le] at h; omega))))
              rw [hQ0]
              exact e_wv hx hb hlocks hr dX2_lendTo_166 hM hS (⟨Tz, by unfold lndO; rw [hi]; show wz = va_up (va_up w 13 _) (23 + 6 * o + 4) (.inl (ac 0, 8, .inl (lendF (fun j => nI (owd o j)) (fun j => nI (owd (so jhi) j)) (obf (so jhi)) 16 (on_ o) (on_ (so jhi)) (obf o)))); rw [hI, lendF_z hz_]; exact ln_end z2wz z7wz zrwz⟩)
            · have hjp : 0 < j := Nat.pos_of_ne_zero (fun e => by rw [e] at c61; exact c61 (by decide))
              obtain ⟨F9, rfl⟩ : ∃ z, F9 = z + 1 := ⟨F9 - 1, by omega⟩
              refine lv_aload_n hx hb dX2_lendTo_64 rfl (lv_at hl 1 rfl) ?_
              refine m_getN (host := RX7) (ci := 6) (C := RX6) (T := TX6) (n := 3) (v := .ref (adr (23 + 6 * o + 1))) hx hb hts inX6_ hown hK rfl (hM.cel (by have := ho; omega) z3wz) 1 (by decide) 17 rfl rfl dX2_lendTo_65 ?_
              refine lv_iload hx hb dX2_lendTo_68 (lv_at hl 3 rfl) ?_
              refine lv_iconst (v := 1) hx hb dX2_lendTo_70 (by decide) ?_
              refine lv_isub hx hb dX2_lendTo_71 ?_
              refine m_top (show ((nI i) - 1) = nI (i - 1) from pk_sub (a := i) (b := 1) (by omega)) ?_
              refine r_calli (va_runV (As := [.int (nI (i - 1))]) (rest := []) ⟨hx, hb, hml, hown, hts⟩ (k_X4_at l D ac _ (adr (23 + 6 * o + 1)) (adr (23 + 6 * o + 2)) (on_ o) (fun j => nI (owd o j)) (hM.cel (by have := ho; omega) z4wz) (hM.cel (by have := ho; omega) z5wz) (by omega) (nI (i - 1))) (cwV 1 hts gX2_lendTo_X4_at rfl rfl rfl (by decide +kernel) ⟨Nat.le_of_ble_eq_true rfl, Nat.le_of_ble_eq_true rfl⟩) (pV hK (ci := 4) rfl (hM.cel (by have := ho; omega) z4wz)) rfl rfl hl.1 rfl (lv_room (Nat.le_of_ble_eq_true rfl)) dX2_lendTo_72 ⟨Nat.le_of_ble_eq_true rfl, Nat.le_of_ble_eq_true rfl⟩) hS (fun rv_23 locs hrv_23 hS => ?_)
              subst hrv_23
              refine m_top (show ((ix (nI (i - 1)) (on_ o)).elim (-1) (fun j => nI (owd o j))) = nI (owd o (i - 1)) from by rw [ix_nI (by omega) (by omega)]; rfl) ?_
              refine lv_aload_n hx hb dX2_lendTo_75 rfl (lv_at hl 2 rfl) ?_
              refine m_getN (host := RX7) (ci := 6) (C := RX6) (T := TX6) (n := 3) (v := .ref (adr (23 + 6 * so jhi + 1))) hx hb hts inX6_ hown hK rfl (hM.cel (by have := ho_; omega) z8wz) 1 (by decide) 17 rfl rfl dX2_lendTo_76 ?_
              refine lv_iload hx hb dX2_lendTo_79 (lv_at hl 4 rfl) ?_
              refine lv_iconst (v := 1) hx hb dX2_lendTo_81 (by decide) ?_
              refine lv_isub hx hb dX2_lendTo_82 ?_
              refine m_top (show ((nI j) - 1) = nI (j - 1) from pk_sub (a := j) (b := 1) (by omega)) ?_
              refine r_calli (va_runV (As := [.int (nI (j - 1))]) (rest := [.int (nI (owd o (i - 1)))]) ⟨hx, hb, hml, hown, hts⟩ (k_X4_at l D ac _ (adr (23 + 6 * so jhi + 1)) (adr (23 + 6 * so jhi + 2)) (on_ (so jhi)) (fun j => nI (owd (so jhi) j)) (hM.cel (by have := ho_; omega) z9wz) (hM.cel (by have := ho_; omega) z10wz) (by omega) (nI (j - 1))) (cwV 1 hts gX2_lendTo_X4_at rfl rfl rfl (by decide +kernel) ⟨Nat.le_of_ble_eq_true rfl, Nat.le_of_ble_eq_true rfl⟩) (pV hK (ci := 4) rfl (hM.cel (by have := ho_; omega) z9wz)) rfl rfl hl.1 rfl (lv_room (Nat.le_of_ble_eq_true rfl)) dX2_lendTo_83 ⟨Nat.le_of_ble_eq_true rfl, Nat.le_of_ble_eq_true rfl⟩) hS (fun rv_24 locs hrv_24 hS => ?_)
              subst hrv_24
              refine m_top (show ((ix (nI (j - 1)) (on_ (so jhi))).elim (-1) (fun j => nI (owd (so jhi) j))) = nI (owd (so jhi) (j - 1)) from by rw [ix_nI (by omega) (by omega)]; rfl) ?_
              refine lv_icmp_ne (tgt := 116) hx hb dX2_lendTo_86 (by decide) (fun c86 => ?_) (fun c86 => ?_)
              · refine lv_aload_n hx hb dX2_lendTo_116 rfl (lv_at hl 0 rfl) ?_
                refine m_get (ci := 2) (C := RX2) (T := TX2) (n := 5) (v := .ref (adr 12)) hx hb hts inX2_ hown hK rfl (hM.cel (by omega) z0wz) 3 (by decide) (hts _ (by decide +kernel)) rfl dX2_lendTo_117 ?_
                refine lv_iload hx hb dX2_lendTo_120 (lv_at hl 3 rfl) ?_
                refine lv_iload hx hb dX2_lendTo_122 (lv_at hl 4 rfl) ?_
                refine r_calli (va_runV (As := [.int (nI i), .int (nI j)]) (rest := []) ⟨hx, hb, hml, hown, hts⟩ (k_X0_skipBehind l D ac _ (adr 12) (adr 13) Tz (hM.cel (by omega) z1wz) (hM.cel (by omega) z2wz) i j (ed (fun j => nI (owd o j)) (fun j => nI (owd (so jhi) j)) (i - 1) j) (ed (fun j => nI (owd o j)) (fun j => nI (owd (so jhi) j)) i (j - 1)) (ed (fun j => nI (owd o j)) (fun j => nI (owd (so jhi) j)) (i - 1) (j - 1)) (by omega) (by omega) (by omega) (by omega) (by have := ed_le (f := (fun j => nI (owd o j))) (g := (fun j => nI (owd (so jhi) j))) (i - 1) j; omega) (by have := ed_le (f := (fun j => nI (owd o j))) (g := (fun j => nI (owd (so jhi) j))) i (j - 1); omega) (by have := ed_le (f := (fun j => nI (owd o j))) (g := (fun j => nI (owd (so jhi) j))) (i - 1) (j - 1); omega) ⟨hTz _ _ (by omega) (by omega), hTz _ _ (by omega) (by omega), hTz _ _ (by omega) (by omega)⟩) (cwV 2 hts gX2_lendTo_X0_skipBehind rfl rfl rfl (by decide +kernel) ⟨Nat.le_of_ble_eq_true rfl, Nat.le_of_ble_eq_true rfl⟩) (pV hK (ci := 0) rfl (hM.cel (by omega) z1wz)) rfl rfl hl.1 rfl (lv_room (Nat.le_of_ble_eq_true rfl)) dX2_lendTo_124 ⟨Nat.le_of_ble_eq_true rfl, Nat.le_of_ble_eq_true rfl⟩) hS (fun rv_25 locs hrv_25 hS => ?_)
                subst hrv_25
                refine lv_istore (lv' := [(7, .int (skp (ed (fun j => nI (owd o j)) (fun j => nI (owd (so jhi) j)) (i - 1) j) (ed (fun j => nI (owd o j)) (fun j => nI (owd (so jhi) j)) i (j - 1)) (ed (fun j => nI (owd o j)) (fun j => nI (owd (so jhi) j)) (i - 1) (j - 1)))), (0, .ref (adr 7)), (1, .ref (adr (23 + 6 * o))), (3, .ref (adr (23 + 6 * so jhi))), (4, .int (nI i)), (5, .int (nI j)), (6, .int (nI s9))]) hx hb dX2_lendTo_127 hl (by decide) rfl (fun ls hl => ?_)
                refine lv_iload hx hb dX2_lendTo_129 (lv_at hl 4 rfl) ?_
                refine lv_iload hx hb dX2_lendTo_131 (lv_at hl 0 rfl) ?_
                refine lv_iconst (v := 1) hx hb dX2_lendTo_133 (by decide) ?_
                refine lv_icmp_ne (tgt := 141) hx hb dX2_lendTo_134 (by decide) (fun c134 => ?_) (fun c134 => ?_)
                · refine lv_iconst (v := 1) hx hb dX2_lendTo_141 (by decide) ?_
                  refine lv_isub hx hb dX2_lendTo_142 ?_
                  refine m_top (show ((nI i) - 1) = nI (i - 1) from pk_sub (a := i) (b := 1) (by omega)) ?_
                  refine lv_istore (lv' := [(4, .int (nI (i - 1))), (7, .int (skp (ed (fun j => nI (owd o j)) (fun j => nI (owd (so jhi) j)) (i - 1) j) (ed (fun j => nI (owd o j)) (fun j => nI (owd (so jhi) j)) i (j - 1)) (ed (fun j => nI (owd o j)) (fun j => nI (owd (so jhi) j)) (i - 1) (j - 1)))), (0, .ref (adr 7)), (1, .ref (adr (23 + 6 * o))), (3, .ref (adr (23 + 6 * so jhi))), (5, .int (nI j)), (6, .int (nI s9))]) hx hb dX2_lendTo_143 hl (by decide) rfl (fun ls hl => ?_)
                  refine lv_iload hx hb dX2_lendTo_145 (lv_at hl 5 rfl) ?_
                  refine lv_iload hx hb dX2_lendTo_147 (lv_at hl 1 rfl) ?_
                  refine lv_if_ne (tgt := 156) hx hb dX2_lendTo_149 (by decide) (fun c149 => ?_) (fun c149 => ?_)
                  · refine lv_iconst (v := 1) hx hb dX2_lendTo_156 (by decide) ?_
                    refine lv_isub hx hb dX2_lendTo_157 ?_
                    refine m_top (show ((nI j) - 1) = nI (j - 1) from pk_sub (a := j) (b := 1) (by omega)) ?_
                    refine lv_istore (lv' := [(5, .int (nI (j - 1))), (4, .int (nI (i - 1))), (7, .int (skp (ed (fun j => nI (owd o j)) (fun j => nI (owd (so jhi) j)) (i - 1) j) (ed (fun j => nI (owd o j)) (fun j => nI (owd (so jhi) j)) i (j - 1)) (ed (fun j => nI (owd o j)) (fun j => nI (owd (so jhi) j)) (i - 1) (j - 1)))), (0, .ref (adr 7)), (1, .ref (adr (23 + 6 * o))), (3, .ref (adr (23 + 6 * so jhi))), (6, .int (nI s9))]) hx hb dX2_lendTo_158 hl (by decide) rfl (fun ls hl => ?_)
                    refine lv_iinc (v := nI (s9 + 1)) (lv' := [(6, .int (nI (s9 + 1))), (5, .int (nI (j - 1))), (4, .int (nI (i - 1))), (7, .int (skp (ed (fun j => nI (owd o j)) (fun j => nI (owd (so jhi) j)) (i - 1) j) (ed (fun j => nI (owd o j)) (fun j => nI (owd (so jhi) j)) i (j - 1)) (ed (fun j => nI (owd o j)) (fun j => nI (owd (so jhi) j)) (i - 1) (j - 1)))), (0, .ref (adr 7)), (1, .ref (adr (23 + 6 * o))), (3, .ref (adr (23 + 6 * so jhi)))]) hx hb dX2_lendTo_160 hl (k := 6) rfl (nI_1 _) (by decide) rfl (fun ls hl => ?_)
                    refine lv_goto (tgt := 47) hx hb dX2_lendTo_163 (by decide) ?_
                    exact ih47 (s9 + 1) F9 ((i - 1)) ((j - 1)) Tz bz hTz (by omega) (by omega) (by omega) (by omega) (by omega) (hI.trans ((lendF_n (by omega) (by omega) c86).trans (by rw [if_neg c134, if_neg c149] <;> rfl))) wz z0wz z1wz z2wz z3wz z4wz z5wz z6wz z7wz z8wz z9wz z10wz z11wz z12wz zrwz _ _ hM hS ls (lv_sub hl [4, 5, 6, 2, 1, 0] rfl)
                  · refine lv_iconst (v := 0) hx hb dX2_lendTo_152 (by decide) ?_
                    refine lv_goto (tgt := 157) hx hb dX2_lendTo_153 (by decide) ?_
                    refine lv_isub hx hb dX2_lendTo_157 ?_
                    refine m_top (show ((nI j) - 0) = nI j from Int32.sub_zero _) ?_
                    refine lv_istore (lv' := [(5, .int (nI j)), (4, .int (nI (i - 1))), (7, .int (skp (ed (fun j => nI (owd o j)) (fun j => nI (owd (so jhi) j)) (i - 1) j) (ed (fun j => nI (owd o j)) (fun j => nI (owd (so jhi) j)) i (j - 1)) (ed (fun j => nI (owd o j)) (fun j => nI (owd (so jhi) j)) (i - 1) (j - 1)))), (0, .ref (adr 7)), (1, .ref (adr (23 + 6 * o))), (3, .ref (adr (23 + 6 * so jhi))), (6, .int (nI s9))]) hx hb dX2_lendTo_158 hl (by decide) rfl (fun ls hl => ?_)
                    refine lv_iinc (v := nI (s9 + 1)) (lv' := [(6, .int (nI (s9 + 1))), (5, .int (nI j)), (4, .int (nI (i - 1))), (7, .int (skp (ed (fun j => nI (owd o j)) (fun j => nI (owd (so jhi) j)) (i - 1) j) (ed (fun j => nI (owd o j)) (fun j => nI (owd (so jhi) j)) i (j - 1)) (ed (fun j => nI (owd o j)) (fun j => nI (owd (so jhi) j)) (i - 1) (j - 1)))), (0, .ref (adr 7)), (1, .ref (adr (23 + 6 * o))), (3, .ref (adr (23 + 6 * so jhi)))]) hx hb dX2_lendTo_160 hl (k := 6) rfl (nI_1 _) (by decide) rfl (fun ls hl => ?_)
                    refine lv_goto (tgt := 47) hx hb dX2_lendTo_163 (by decide) ?_
                    exact ih47 (s9 + 1) F9 ((i - 1)) j Tz bz hTz (by omega) (by omega) (by omega) (by omega) (by omega) (hI.trans ((lendF_n (by omega) (by omega) c86).trans (by rw [if_neg c134, if_pos c149] <;> rfl))) wz z0wz z1wz z2wz z3wz z4wz z5wz z6wz z7wz z8wz z9wz z10wz z11wz z12wz zrwz _ _ hM hS ls (lv_sub hl [4, 5, 6, 2, 1, 0] rfl)
                · refine lv_iconst (v := 0) hx hb dX2_lendTo_137 (by decide) ?_
                  refine lv_goto (tgt := 142) hx hb dX2_lendTo_138 (by decide) ?_
                  refine lv_isub hx hb dX2_lendTo_142 ?_
                  refine m_top (show ((nI i) - 0) = nI i from Int32.sub_zero _) ?_
                  refine lv_istore (lv' := [(4, .int (nI i)), (7, .int (skp (ed (fun j => nI (owd o j)) (fun j => nI (owd (so jhi) j)) (i - 1) j) (ed (fun j => nI (owd o j)) (fun j => nI (owd (so jhi) j)) i (j - 1)) (ed (fun j => nI (owd o j)) (fun j => nI (owd (so jhi) j)) (i - 1) (j - 1)))), (0, .ref (adr 7)), (1, .ref (adr (23 + 6 * o))), (3, .ref (adr (23 + 6 * so jhi))), (5, .int (nI j)), (6, .int (nI s9))]) hx hb dX2_lendTo_143 hl (by decide) rfl (fun ls hl => ?_)
                  refine lv_iload hx hb dX2_lendTo_145 (lv_at hl 5 rfl) ?_
                  refine lv_iload hx hb dX2_lendTo_147 (lv_at hl 1 rfl) ?_
                  refine lv_if_ne (tgt := 156) hx hb dX2_lendTo_149 (by decide) (fun c149 => ?_) (fun c149 => ?_)
                  · refine lv_iconst (v := 1) hx hb dX2_lendTo_156 (by decide) ?_
                    refine lv_isub hx hb dX2_lendTo_157 ?_
                    refine m_top (show ((nI j) - 1) = nI (j - 1) from pk_sub (a := j) (b := 1) (by omega)) ?_
                    refine lv_istore (lv' := [(5, .int (nI (j - 1))), (4, .int (nI i)), (7, .int (skp (ed (fun j => nI (owd o j)) (fun j => nI (owd (so jhi) j)) (i - 1) j) (ed (fun j => nI (owd o j)) (fun j => nI (owd (so jhi) j)) i (j - 1)) (ed (fun j => nI (owd o j)) (fun j => nI (owd (so jhi) j)) (i - 1) (j - 1)))), (0, .ref (adr 7)), (1, .ref (adr (23 + 6 * o))), (3, .ref (adr (23 + 6 * so jhi))), (6, .int (nI s9))]) hx hb dX2_lendTo_158 hl (by decide) rfl (fun ls hl => ?_)
                    refine lv_iinc (v := nI (s9 + 1)) (lv' := [(6, .int (nI (s9 + 1))), (5, .int (nI (j - 1))), (4, .int (nI i)), (7, .int (skp (ed (fun j => nI (owd o j)) (fun j => nI (owd (so jhi) j)) (i - 1) j) (ed (fun j => nI (owd o j)) (fun j => nI (owd (so jhi) j)) i (j - 1)) (ed (fun j => nI (owd o j)) (fun j => nI (owd (so jhi) j)) (i - 1) (j - 1)))), (0, .ref (adr 7)), (1, .ref (adr (23 + 6 * o))), (3, .ref (adr (23 + 6 * so jhi)))]) hx hb dX2_lendTo_160 hl (k := 6) rfl (nI_1 _) (by decide) rfl (fun ls hl => ?_)
                    refine lv_goto (tgt := 47) hx hb dX2_lendTo_163 (by decide) ?_
                    exact ih47 (s9 + 1) F9 i ((j - 1)) Tz bz hTz (by omega) (by omega) (by omega) (by omega) (by omega) (hI.trans ((lendF_n (by omega) (by omega) c86).trans (by rw [if_pos c134, if_neg c149] <;> rfl))) wz z0wz z1wz z2wz z3wz z4wz z5wz z6wz z7wz z8wz z9wz z10wz z11wz z12wz zrwz _ _ hM hS ls (lv_sub hl [4, 5, 6, 2, 1, 0] rfl)
                  · refine lv_iconst (v := 0) hx hb dX2_lendTo_152 (by decide) ?_
                    refine lv_goto (tgt := 157) hx hb dX2_lendTo_153 (by decide) ?_
                    refine lv_isub hx hb dX2_lendTo_157 ?_
                    refine m_top (show ((nI j) - 0) = nI j from Int32.sub_zero _) ?_
                    refine lv_istore (lv' := [(5, .int (nI j)), (4, .int (nI i)), (7, .int (skp (ed (fun j => nI (owd o j)) (fun j => nI (owd (so jhi) j)) (i - 1) j) (ed (fun j => nI (owd o j)) (fun j => nI (owd (so jhi) j)) i (j - 1)) (ed (fun j => nI (owd o j)) (fun j => nI (owd (so jhi) j)) (i - 1) (j - 1)))), (0, .ref (adr 7)), (1, .ref (adr (23 + 6 * o))), (3, .ref (adr (23 + 6 * so jhi))), (6, .int (nI s9))]) hx hb dX2_lendTo_158 hl (by decide) rfl (fun ls hl => ?_)
                    refine lv_iinc (v := nI (s9 + 1)) (lv' := [(6, .int (nI (s9 + 1))), (5, .int (nI j)), (4, .int (nI i)), (7, .int (skp (ed (fun j => nI (owd o j)) (fun j => nI (owd (so jhi) j)) (i - 1) j) (ed (fun j => nI (owd o j)) (fun j => nI (owd (so jhi) j)) i (j - 1)) (ed (fun j => nI (owd o j)) (fun j => nI (owd (so jhi) j)) (i - 1) (j - 1)))), (0, .ref (adr 7)), (1, .ref (adr (23 + 6 * o))), (3, .ref (adr (23 + 6 * so jhi)))]) hx hb dX2_lendTo_160 hl (k := 6) rfl (nI_1 _) (by decide) rfl (fun ls hl => ?_)
                    refine lv_goto (tgt := 47) hx hb dX2_lendTo_163 (by decide) ?_
                    exact absurd (c134.symm.trans c149) (by decide)
              · refine lv_iinc (v := nI (i - 1)) (lv' := [(4, .int (nI (i - 1))), (0, .ref (adr 7)), (1, .ref (adr (23 + 6 * o))), (3, .ref (adr (23 + 6 * so jhi))), (5, .int (nI j)), (6, .int (nI s9))]) hx hb dX2_lendTo_89 hl (k := 3) rfl (nI_dec hip) (by decide) rfl (fun ls hl => ?_)
                refine lv_iinc (v := nI (j - 1)) (lv' := [(5, .int (nI (j - 1))), (4, .int (nI (i - 1))), (0, .ref (adr 7)), (1, .ref (adr (23 + 6 * o))), (3, .ref (adr (23 + 6 * so jhi))), (6, .int (nI s9))]) hx hb dX2_lendTo_92 hl (k := 4) rfl (nI_dec hjp) (by decide) rfl (fun ls hl => ?_)
                refine lv_aload_n hx hb dX2_lendTo_95 rfl (lv_at hl 3 rfl) ?_
                refine m_getN (host := RX7) (ci := 6) (C := RX6) (T := TX6) (n := 3) (v := .ref (adr (23 + 6 * o + 3))) hx hb hts inX6_ hown hK rfl (hM.cel (by have := ho; omega) z3wz) 2 (by decide) 19 rfl rfl dX2_lendTo_96 ?_
                refine lv_iload hx hb dX2_lendTo_99 (lv_at hl 1 rfl) ?_
                refine lv_aload_n hx hb dX2_lendTo_101 rfl (lv_at hl 4 rfl) ?_
                refine m_getN (host := RX7) (ci := 6) (C := RX6) (T := TX6) (n := 3) (v := .ref (adr (23 + 6 * so jhi + 3))) hx hb hts inX6_ hown hK rfl (hM.cel (by have := ho_; omega) z8wz) 2 (by decide) 19 rfl rfl dX2_lendTo_102 ?_
                refine lv_iload hx hb dX2_lendTo_105 (lv_at hl 0 rfl) ?_
                refine r_calli (va_runV (As := [.int (nI (j - 1))]) (rest := [.int (nI (i - 1)), .ref (adr (23 + 6 * o + 3))]) ⟨hx, hb, hml, hown, hts⟩ (k_X4_at l D ac _ (adr (23 + 6 * so jhi + 3)) (adr (23 + 6 * so jhi + 4)) (on_ (so jhi)) (obf (so jhi)) (hM.cel (by have := ho_; omega) z11wz) (hM.cel (by have := ho_; omega) z12wz) (by omega) (nI (j - 1))) (cwV 1 hts gX2_lendTo_X4_at rfl rfl rfl (by decide +kernel) ⟨Nat.le_of_ble_eq_true rfl, Nat.le_of_ble_eq_true rfl⟩) (pV hK (ci := 4) rfl (hM.cel (by have := ho_; omega) z11wz)) rfl rfl hl.1 rfl (lv_room (Nat.le_of_ble_eq_true rfl)) dX2_lendTo_107 ⟨Nat.le_of_ble_eq_true rfl, Nat.le_of_ble_eq_true rfl⟩) hS (fun rv_26 locs hrv_26 hS => ?_)
                subst hrv_26
                refine m_top (show ((ix (nI (j - 1)) (on_ (so jhi))).elim (-1) (obf (so jhi))) = obf (so jhi) (j - 1) from by rw [ix_nI (by omega) (by omega)]; rfl) ?_
                refine w_callv (va_runV (As := [.int (nI (i - 1)), .int (obf (so jhi) (j - 1))]) (rest := []) ⟨hx, hb, hml, hown, hts⟩ (k_X4_put l D ac _ A N adr wz hM (23 + 6 * o + 3) (23 + 6 * o + 4) ((on_ o)) bz (by have := ho; omega) (by have := ho; omega) (by omega) z6wz z7wz (by omega) ((i - 1)) (by omega) (obf (so jhi) (j - 1))) (cwV 2 hts gX2_lendTo_X4_put rfl rfl rfl (by decide +kernel) ⟨Nat.le_of_ble_eq_true rfl, Nat.le_of_ble_eq_true rfl⟩) (pV hK (ci := 4) rfl (hM.cel (by have := ho; omega) z6wz)) rfl rfl hl.1 rfl (lv_room (Nat.le_of_ble_eq_true rfl)) dX2_lendTo_110 ⟨Nat.le_of_ble_eq_true rfl, Nat.le_of_ble_eq_true rfl⟩) hS (fun w_28 H locs hw_28 hM hS => ?_)
                have h_29 : w_28 7 = .inr (2, [.ref (adr 8), .ref (adr 9), .ref (adr 10), .ref (adr 12), .int (nI ns)]) := by rw [hw_28, va_up_ne _ _ (by omega)]; exact z0wz
                have h_30 : w_28 12 = .inr (0, [.ref (adr 13)]) := by rw [hw_28, va_up_ne _ _ (by omega)]; exact z1wz
                have h_31 : w_28 13 = .inl (ac 0, 81, .inl Tz) := by rw [hw_28, va_up_ne _ _ (by omega)]; exact z2wz
                have h_32 : w_28 (23 + 6 * o) = .inr (6, [.int (nI (oc o)), .ref (adr (23 + 6 * o + 1)), .ref (adr (23 + 6 * o + 3))]) := by rw [hw_28, va_up_ne _ _ (by omega)]; exact z3wz
                have h_33 : w_28 (23 + 6 * o + 1) = .inr (4, [.ref (adr (23 + 6 * o + 2)), .int (nI (on_ o))]) := by rw [hw_28, va_up_ne _ _ (by omega)]; exact z4wz
                have h_34 : w_28 (23 + 6 * o + 2) = .inl (ac 0, 8, .inl (fun j => nI (owd o j))) := by rw [hw_28, va_up_ne _ _ (by omega)]; exact z5wz
                have h_35 : w_28 (23 + 6 * o + 3) = .inr (4, [.ref (adr (23 + 6 * o + 4)), .int (nI (on_ o))]) := by rw [hw_28, va_up_ne _ _ (by omega)]; exact z6wz
                have h_36 : w_28 (23 + 6 * o + 4) = .inl (ac 0, 8, .inl (upd bz ((i - 1)) (obf (so jhi) (j - 1)))) := by rw [hw_28]; exact va_up_self _ _ _
                have h_37 : w_28 (23 + 6 * so jhi) = .inr (6, [.int (nI (oc (so jhi))), .ref (adr (23 + 6 * so jhi + 1)), .ref (adr (23 + 6 * so jhi + 3))]) := by rw [hw_28, va_up_ne _ _ (by omega)]; exact z8wz
                have h_38 : w_28 (23 + 6 * so jhi + 1) = .inr (4, [.ref (adr (23 + 6 * so jhi + 2)), .int (nI (on_ (so jhi)))]) := by rw [hw_28, va_up_ne _ _ (by omega)]; exact z9wz
                have h_39 : w_28 (23 + 6 * so jhi + 2) = .inl (ac 0, 8, .inl (fun j => nI (owd (so jhi) j))) := by rw [hw_28, va_up_ne _ _ (by omega)]; exact z10wz
                have h_40 : w_28 (23 + 6 * so jhi + 3) = .inr (4, [.ref (adr (23 + 6 * so jhi + 4)), .int (nI (on_ (so jhi)))]) := by rw [hw_28, va_up_ne _ _ (by omega)]; exact z11wz
                have h_41 : w_28 (23 + 6 * so jhi + 4) = .inl (ac 0, 8, .inl (obf (so jhi))) := by rw [hw_28, va_up_ne _ _ (by omega)]; exact z12wz
                refine lv_goto (tgt := 160) hx hb dX2_lendTo_113 (by decide) ?_
                refine lv_iinc (v := nI (s9 + 1)) (lv' := [(6, .int (nI (s9 + 1))), (5, .int (nI (j - 1))), (4, .int (nI (i - 1))), (0, .ref (adr 7)), (1, .ref (adr (23 + 6 * o))), (3, .ref (adr (23 + 6 * so jhi)))]) hx hb dX2_lendTo_160 hl (k := 5) rfl (nI_1 _) (by decide) rfl (fun ls hl => ?_)
                refine lv_goto (tgt := 47) hx hb dX2_lendTo_163 (by decide) ?_
                exact ih47 (s9 + 1) F9 ((i - 1)) ((j - 1)) Tz (upd bz ((i - 1)) (obf (so jhi) (j - 1))) hTz (by omega) (by omega) (by omega) (by omega) (by omega) (hI.trans (lendF_p (by omega) (by omega) c86)) w_28 h_29 h_30 h_31 h_32 h_33 h_34 h_35 h_36 h_37 h_38 h_39 h_40 h_41 (fun q q1 q2 => by rw [hw_28, va_up_ne _ _ q2]; exact zrwz q q1 q2) _ _ hM hS ls (lv_sub hl [3, 4, 5, 2, 1, 0] rfl)
    exact L47 _ 0 16 (on_ o) (on_ (so jhi)) T_4 (obf o) eT_4 (Nat.lt_succ_self _) rfl (by omega) (Nat.le_refl _) (Nat.le_refl _) rfl w_3 h_5 h_10 h_11 h_12 h_13 h_14 h_15 h_16 h_17 h_18 h_19 h_20 h_21 (fun q q1 q2 => by rw [hw_3, va_up_ne _ _ q1]) _ _ hM hS ls (lv_sub hl [4, 5, 3, 2, 1, 0] rfl)
