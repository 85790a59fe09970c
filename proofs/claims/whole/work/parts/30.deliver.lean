theorem opn_0 {f : Nat → Int32} : ∀ n, opn f n = 0 ↔ ∀ j, j < n → ¬ f j = -1 := by
  intro n
  induction n with
  | zero => simp [opn]
  | succ n ih =>
    simp only [opn]
    by_cases h : f n = -1
    · rw [if_pos h]
      constructor
      · omega
      · intro q; exact absurd h (q n (Nat.lt_succ_self _))
    · rw [if_neg h, Nat.add_zero, ih]
      constructor
      · intro q j hj
        by_cases e : j = n
        · rw [e]; exact h
        · exact q j (by omega)
      · intro q j hj; exact q j (by omega)
/-- an order can be delivered -/
def dlv (b : Int32) (n : Nat) (fr : Nat → Int32) (cl : Nat) (wd : Nat → Nat) (bf : Nat → Int32) : Bool := decide (opn bf n = 0) && (decide (¬ b = 0) || !asB fr cl n wd bf)
theorem asB_i {fr bf : Nat → Int32} {cl n : Nat} {wd : Nat → Nat} : asB fr cl n wd bf = false ↔ ∀ j, j < n → ¬ ast fr cl wd bf j := by
  rw [asB, List.any_eq_false]
  constructor
  · intro h j hj; simpa using h j (List.mem_range.mpr hj)
  · intro h j hj; simpa using h j (List.mem_range.mp hj)
theorem why_d {b r : Int32} {n : Nat} {fr : Nat → Int32} {cl : Nat} {wd : Nat → Nat} {bf : Nat → Int32} (h : WhyP b n fr cl wd bf r) : (r = 0 ∧ dlv b n fr cl wd bf = true) ∨ (¬ r = 0 ∧ dlv b n fr cl wd bf = false) := by
  rcases h with ⟨h1, j, h2, h3⟩ | ⟨h1, h2, h3, j, h4, h5⟩ | ⟨h1, h2, h3⟩
  · refine Or.inr ⟨by rw [h1]; decide, ?_⟩
    have : ¬ opn bf n = 0 := fun q => (opn_0 n).mp q j h2 h3
    simp [dlv, this]
  · refine Or.inr ⟨by rw [h1]; decide, ?_⟩
    have : asB fr cl n wd bf = true := by
      cases e : asB fr cl n wd bf with
      | true => rfl
      | false => exact absurd h5 (asB_i.mp e j h4)
    simp [dlv, h3, this]
  · refine Or.inl ⟨h1, ?_⟩
    have e0 : opn bf n = 0 := (opn_0 n).mpr h2
    rcases h3 with h3 | h3
    · simp [dlv, e0, h3]
    · simp [dlv, e0, asB_i.mpr h3]
theorem HIn.sell {ns : Nat} {so : Nat → Nat} {nd : Nat} {du : Nat → Nat} {nr : Nat} {rq : Nat → Nat} {nq : Nat} {oq : Nat → Nat} {no : Nat} {rb st : Nat → Int32} {hd : Nat → Option Nat} {t o : Nat} {n2 : Nat} {d2 : Nat → Nat} (h : HIn ns so nd du nr rq nq oq no rb st hd) (ht : t < 4) (hh : hd t = some o) (hL : (lst n2 d2).Nodup ∧ ∀ x ∈ lst n2 d2, x < ns + 1) : HIn (ns + 1) (va_up so ns o) n2 d2 nr rq nq oq no rb (va_up st o (-2)) (va_up hd t none) := by
  obtain ⟨h1, h2, ⟨h3, h3'⟩, ⟨h4, h4'⟩, h5⟩ := h
  obtain ⟨q1, q2⟩ := h5 t o ht hh
  refine ⟨fun i hi => ?_, hL, ⟨h3, fun x hx => ?_⟩, ⟨h4, fun x hx => ?_⟩, fun t' o' ht' hh' => ?_⟩
  · by_cases e : i = ns
    · subst e; rw [va_up_self]; exact ⟨q1, va_up_self _ _ _⟩
    · rw [va_up_ne _ _ e]
      have q := h1 i (by omega)
      refine ⟨q.1, ?_⟩
      by_cases e2 : so i = o
      · rw [e2, va_up_self]
      · rw [va_up_ne _ _ e2]; exact q.2
  · have hx2 := h3' x hx
    rw [va_up_ne _ _ (fun e => by have := hx2.2.1; rw [e, q2] at this; exact neg1_nI ht this.symm)]
    exact hx2
  · have hx2 := h4' x hx
    rw [va_up_ne _ _ (fun e => by have := hx2.2.1; rw [e, q2] at this; exact neg1_nI ht this.symm)]
    exact hx2
  · by_cases e : t' = t
    · subst e; rw [va_up_self] at hh'; cases hh'
    · rw [va_up_ne _ _ e] at hh'
      have q := h5 t' o' ht' hh'
      refine ⟨q.1, ?_⟩
      rw [va_up_ne _ _ (fun e2 => by have := q.2; rw [e2, q2] at this; exact e ((nI_eq (by omega) (by omega)).mp this).symm)]
      exact q.2
theorem HIn.list {ns : Nat} {so : Nat → Nat} {nd : Nat} {du : Nat → Nat} {nr : Nat} {rq : Nat → Nat} {nq : Nat} {oq : Nat → Nat} {no : Nat} {rb st : Nat → Int32} {hd : Nat → Option Nat} {n2 : Nat} {d2 : Nat → Nat} (h : HIn ns so nd du nr rq nq oq no rb st hd) (hL : (lst n2 d2).Nodup ∧ ∀ x ∈ lst n2 d2, x < ns) : HIn ns so n2 d2 nr rq nq oq no rb st hd := ⟨h.1, hL, h.2.2⟩
theorem ld_ok {P : Nat → Bool} {D : List Nat} {n2 : Nat} {d2 : Nat → Nat} {ns : Nat} (hD : D.Nodup) (hn : ∀ x ∈ D, x < ns) (h : lst n2 d2 = LD2 P (D.filter P) ns) : (lst n2 d2).Nodup ∧ ∀ x ∈ lst n2 d2, x < ns := by
  rw [h]
  exact LD2_ok (hD.filter P) (fun x hx => hn x (List.mem_filter.mp hx).1) ns (Nat.le_refl _)
theorem ld_len {n2 : Nat} {d2 : Nat → Nat} {ns : Nat} (h : (lst n2 d2).Nodup ∧ ∀ x ∈ lst n2 d2, x < ns) : n2 ≤ ns := by
  have := nodup_len ns _ h.1 h.2
  rwa [lst_len] at this
theorem MemW.due {ac : Nat → ClassId} {adr : Nat → Nat} {w : Nat → va_E} {ns : Nat} {so : Nat → Nat} {hv : Nat → Int64} {nd : Nat} {du : Nat → Nat} {T : Nat → Int32} {n2 : Nat} {d2 : Nat → Nat} (hn : n2 ≤ 40) (h : MemW ac adr w ns so hv nd du T) : MemW ac adr (va_up (va_up w 11 (.inl (ac 0, 60, .inl (fun j => nI (d2 j))))) 10 (.inr (1, [.ref (adr 11), .int (nI n2)]))) ns so hv n2 d2 T := by
  obtain ⟨h1, h2, h3, h4, h5, h6, h7, h8, h9⟩ := h
  exact ⟨by rw [va_up_ne _ _ (by decide), va_up_ne _ _ (by decide)]; exact h1, by rw [va_up_ne _ _ (by decide), va_up_ne _ _ (by decide)]; exact h2, by rw [va_up_ne _ _ (by decide), va_up_ne _ _ (by decide)]; exact h3, va_up_self _ _ _, by rw [va_up_ne _ _ (by decide)]; exact va_up_self _ _ _, by rw [va_up_ne _ _ (by decide), va_up_ne _ _ (by decide)]; exact h6, by rw [va_up_ne _ _ (by decide), va_up_ne _ _ (by decide)]; exact h7, h8, hn⟩
theorem MemW.keep {ac : Nat → ClassId} {adr : Nat → Nat} {w : Nat → va_E} {ns : Nat} {so so1 : Nat → Nat} {hv hv1 : Nat → Int64} {nd : Nat} {du : Nat → Nat} {T : Nat → Int32} (hn : ns < 40) (h : MemW ac adr w ns so hv nd du T) : MemW ac adr (va_up (va_up (va_up w 8 (.inl (ac 4, 40, .inr (.inr (.inr (.inr (sref adr (ns + 1) so1))))))) 9 (.inl (ac 1, 50, .inr (.inl hv1)))) 7 (.inr (2, [.ref (adr 8), .ref (adr 9), .ref (adr 10), .ref (adr 12), .int (nI (ns + 1))]))) (ns + 1) so1 hv1 nd du T := by
  obtain ⟨h1, h2, h3, h4, h5, h6, h7, h8, h9⟩ := h
  exact ⟨va_up_self _ _ _, by rw [va_up_ne _ _ (by decide), va_up_ne _ _ (by decide)]; exact va_up_self _ _ _, by rw [va_up_ne _ _ (by decide)]; exact va_up_self _ _ _, by rw [va_up_ne _ _ (by decide), va_up_ne _ _ (by decide), va_up_ne _ _ (by decide)]; exact h4, by rw [va_up_ne _ _ (by decide), va_up_ne _ _ (by decide), va_up_ne _ _ (by decide)]; exact h5, by rw [va_up_ne _ _ (by decide), va_up_ne _ _ (by decide), va_up_ne _ _ (by decide)]; exact h6, by rw [va_up_ne _ _ (by decide), va_up_ne _ _ (by decide), va_up_ne _ _ (by decide)]; exact h7, by omega, h9⟩
theorem MonW.set {ac : Nat → ClassId} {w : Nat → va_E} {pd er pd1 : Nat → Int32} (h : MonW ac w pd er) : MonW ac (va_up w 20 (.inl (ac 0, 4, .inl pd1))) pd1 er := ⟨va_up_self _ _ _, by rw [va_up_ne _ _ (by decide)]; exact h.2⟩
theorem MonW.set2 {ac : Nat → ClassId} {w : Nat → va_E} {pd er er1 : Nat → Int32} (h : MonW ac w pd er) : MonW ac (va_up w 21 (.inl (ac 0, 4, .inl er1))) pd er1 := ⟨by rw [va_up_ne _ _ (by decide)]; exact h.1, va_up_self _ _ _⟩
theorem dcd1 {a b c : Bool} (h : cd2 a b = 1) : cd2 a c = 1 := by
  cases a
  · cases b <;> exact absurd h (by decide)
  · rfl
theorem dcd2 {a : Bool} {o : Option Nat} {f : Nat → Bool} (h : cd2 a o.isNone = 2) : cd2 a (o.elim true f) = 2 := by
  cases a
  · cases o
    · rfl
    · exact absurd h (show ¬ (0 : Nat) = 2 by decide)
  · exact absurd h (show ¬ (1 : Nat) = 2 by decide)
set_option maxHeartbeats 4000000 in
set_option maxRecDepth 100000 in
/-- deliver -/
theorem k_X7_deliver (l : Launch) (D : va_G) (ac : Nat → ClassId) (H : Heap) (hlt : l.stackTraces = false) (A : Nat → Prop) (N : Nat) (adr : Nat → Nat) (w : Nat → va_E) (hM : MW D A N adr w H) (dl : Nat) (dw : Nat → Nat) (fs : Nat → Int32) (fr : Nat → Int32) (ft : Nat → Nat) (ns : Nat) (so : Nat → Nat) (hv : Nat → Int64) (nd : Nat) (du : Nat → Nat) (T : Nat → Int32) (nr : Nat) (rq : Nat → Nat) (nq : Nat) (oq : Nat → Nat) (pd : Nat → Int32) (er : Nat → Int32) (no : Nat) (oc : Nat → Nat) (on_ : Nat → Nat) (owd : Nat → Nat → Nat) (obf : Nat → Nat → Int32) (rb : Nat → Int32) (st : Nat → Int32) (mt : Nat → Int32) (co : Nat → Int32) (py : Nat → Int32) (hd : Nat → Option Nat) (le : Int32) (pr : Int32) (ra : Int32) (hR : HR ac adr w dl dw fs fr ft ns so hv nd du T nr rq nq oq pd er no oc on_ owd obf rb st mt co py hd le pr ra) (hN : 22 + 6 * no ≤ N) (x : Int32) : WXi l yX7_deliver wsX7_deliver ({ frames := 8, cells := 3, slots := 18, locals := 132 }) [.ref (adr 0), .int x] D ac H A N adr w (fun r w1 => ∃ t o, t < 4 ∧ x = nI t ∧ hd t = some o ∧ dlv (rb o) (on_ o) fr (oc o) (owd o) (obf o) = true ∧ ns < 40 ∧ r = nI ns ∧ ∃ n2 d2, lst n2 d2 = LD2 (fun i => asB fr (oc (((va_up so ns o)) i)) (on_ (((va_up so ns o)) i)) (owd (((va_up so ns o)) i)) (obf (((va_up so ns o)) i))) ((lst nd du).filter (fun i => asB fr (oc (((va_up so ns o)) i)) (on_ (((va_up so ns o)) i)) (owd (((va_up so ns o)) i)) (obf (((va_up so ns o)) i)))) (ns + 1) ∧ HR ac adr w1 dl dw fs fr ft (ns + 1) (va_up so ns o) (kpv hv ns (owd o) (on_ o)) n2 d2 T nr rq nq oq (upd pd (oc o) (pd (oc o) + co o)) (upd er t (er t + py o)) no oc on_ owd obf rb (va_up st o (-2)) mt co py (va_up hd t none) le pr ra) (XC2 xIA xIS (cd2 (ix x 4).isNone (((ix x 4).bind hd).elim true (fun o => !dlv (rb o) (on_ o) fr (oc o) (owd o) (obf o) || decide (ns = 40))))) 3 18 := by
  refine vx_ofW (cc := cX7_deliver) (maxL := 4) (ret := (some .int)) (by decide) rfl ?_
  intro p e s m args below meth c s₁ B hml hout hv
  obtain ⟨hargs, hsz, hK, hX⟩ := hv
  have hx := B.exec
  have hb := B.bytes
  have hr := B.returns
  have hts := atoms_spec (ws := wsX7_deliver) B.pre
  have hown : s.vm.findClass RX7 = some m.cls := findClass_of_methodNamed B.named
  have hlocks := B.notSynchronized
  subst hsz
  have inX2_ : ∀ w ∈ wsX20, w ∈ wsX7_deliver := by decide +kernel
  have inX3_ : ∀ w ∈ wsX30, w ∈ wsX7_deliver := by decide +kernel
  have inX6_ : ∀ w ∈ wsX60, w ∈ wsX7_deliver := by decide +kernel
  have inX7_ : ∀ w ∈ wsX70, w ∈ wsX7_deliver := by decide +kernel
  have hgIS_ : ∀ w ∈ (vx_at0 RX7 77 xIS xNames).filter goodWord, w ∈ wsX7_deliver := by decide +kernel
  have hS : va_S A s.heap s.heap [] := va_S.rf
  have hl := lv_entry ([.ref (adr 0), .int x]) (n := 4) (Nat.le_of_ble_eq_true rfl)
  have hen := lg_entry_eq m [.ref (adr 0), .int x] 4
  rw [← hargs] at hen
  rw [hen]
  generalize (lg_sl ([.ref (adr 0), .int x]) ++ List.replicate (4 - (lg_sl ([.ref (adr 0), .int x])).length) Slot.unset).toArray = ls at hl ⊢
  have hl : lv_has ls 4 [(0, .ref (adr 0)), (1, .int x)] := hl
  obtain ⟨h0, hdr, hru, hm, hS1, hO1, hde, hha, hmo, hin_⟩ := id hR
  obtain ⟨hns, hnd⟩ := hm.2.2.2.2.2.2.2
  have hso := fun i hi => (hin_.1 i hi).1
  obtain ⟨hnr60, hnq60⟩ := hde.2.2.2.2
  have hno60 := hha.2.2
  refine lv_aload_n hx hb dX7_deliver_0 rfl (lv_at hl 0 rfl) ?_
  refine lv_iload_n hx hb dX7_deliver_1 rfl (lv_at hl 1 rfl) ?_
  refine x_callq hlocks hout (vx_runV (As := [.int x]) (rest := []) ⟨hx, hb, hml, hown, hts⟩ (k_X7_orderInHandOf l D ac _ hlt A N adr w hM dl dw fs fr ft ns so hv nd du T nr rq nq oq pd er no oc on_ owd obf rb st mt co py hd le pr ra hR hN x) (cwV 1 hts gX7_deliver_X7_orderInHandOf rfl rfl rfl (by decide +kernel) ⟨(Nat.le_of_ble_eq_true rfl), (Nat.le_of_ble_eq_true rfl)⟩) (pVX hK (hX.at hS) (ci := 7) rfl (hM.cel (by omega) h0)) rfl rfl hl.1 rfl (lv_room (Nat.le_of_ble_eq_true rfl)) dX7_deliver_2 ⟨(Nat.le_of_ble_eq_true rfl), (Nat.le_of_ble_eq_true rfl)⟩) hS (fun E h => by rcases h with ⟨h1, h2⟩ | ⟨h1, h2⟩; exact Or.inl ⟨h1, dcd1 h2⟩; exact Or.inr ⟨h1, dcd2 h2⟩) (Nat.le_of_ble_eq_true rfl) (Nat.le_of_ble_eq_true rfl) (fun rv_1 w_2 H locs hw_2 hM hS => ?_)
  obtain ⟨o9, hob_, rfl, e9_⟩ := hw_2
  obtain rfl := e9_.symm
  obtain ⟨t9, ht9_, ex_t9, hht_⟩ := hd_of hob_
  obtain ⟨ho_, hlo_⟩ := hin_.hlo ht9_ hht_
  have hO_ := hO1 o9 ho_
  have hsn_ := hS1 o9 ho_
  obtain ⟨hn0_, hn8_, hcl_, hwd_⟩ := hsn_.2.2.2.2.2
  refine m_topr ?_
  refine lv_astore_n (lv' := [(2, .ref (adr (22 + 6 * o9))), (0, .ref (adr 0)), (1, .int x)]) hx hb dX7_deliver_5 rfl hl (by decide) rfl (fun ls hl => ?_)
  refine lv_aload_n hx hb dX7_deliver_6 rfl (lv_at hl 0 rfl) ?_
  refine lv_aload_n hx hb dX7_deliver_7 rfl (lv_at hl 1 rfl) ?_
  refine m_get (ci := 7) (C := RX7) (T := TX7) (n := 13) (v := .ref (adr 3)) hx hb hts inX7_ hown hK rfl (hM.cel (by omega) h0) 1 (by decide) (hts _ (by decide +kernel)) rfl dX7_deliver_8 ?_
  refine r_calli (va_runV (As := [.ref (adr 3)]) (rest := []) ⟨hx, hb, hml, hown, hts⟩ (k_X3_whyNot l D ac _ (adr (23 + 6 * o9)) (adr (23 + 6 * o9 + 1)) (adr (23 + 6 * o9 + 2)) (adr (23 + 6 * o9 + 3)) (adr (23 + 6 * o9 + 4)) ((oc o9)) ((on_ o9)) (fun j => nI (owd o9 j)) (obf o9) (owd o9) ⟨(hM.cel (by have := ho_; omega) hsn_.1), (hM.cel (by have := ho_; omega) hsn_.2.1), (hM.cel (by have := ho_; omega) hsn_.2.2.1), (hM.cel (by have := ho_; omega) hsn_.2.2.2.1), (hM.cel (by have := ho_; omega) hsn_.2.2.2.2.1), ⟨hn8_, hcl_, fun j hj => ⟨rfl, hwd_ j hj⟩⟩⟩ (adr 3) (adr 4) (adr 5) (adr 6) fs fr (fun j => nI (ft j)) ⟨(hM.cel (by omega) hru.1), (hM.cel (by omega) hru.2.1), (hM.cel (by omega) hru.2.2.1), (hM.cel (by omega) hru.2.2.2)⟩ (adr (22 + 6 * o9)) (nI o9) (rb o9) (st o9) (mt o9) (co o9) (py o9) (hM.cel (by have := ho_; omega) hO_)) (cwV 1 hts gX7_deliver_X3_whyNot rfl rfl rfl (by decide +kernel) ⟨Nat.le_of_ble_eq_true rfl, Nat.le_of_ble_eq_true rfl⟩) (pV hK (ci := 3) rfl (hM.cel (by have := ho_; omega) hO_)) rfl rfl hl.1 rfl (lv_room (Nat.le_of_ble_eq_true rfl)) dX7_deliver_11 ⟨Nat.le_of_ble_eq_true rfl, Nat.le_of_ble_eq_true rfl⟩) hS (fun rv_3 locs hrv_3 hS => ?_)
  subst ex_t9
  have hd2_ := why_d hrv_3
  refine lv_if_ne (tgt := 29) hx hb dX7_deliver_14 (by decide) (fun c14 => ?_) (fun c14 => ?_)
  · have hdl_ : dlv (rb o9) (on_ o9) fr (oc o9) (owd o9) (obf o9) = false := (hd2_.resolve_left (fun q => c14 q.1)).2
    exact x_throw hx hb hlt hlocks hout hown (by decide) (hts _ (by decide +kernel)) (hts _ (by decide +kernel)) (fun w hw => hts w (hgIS_ w hw)) ng_IS ot_IS hX hM hS (hl.1.trans hml.symm) dX7_deliver_29 dX7_deliver_32 dX7_deliver_33 dX7_deliver_36 (Nat.le_of_ble_eq_true rfl) (Nat.le_of_ble_eq_true rfl) (Nat.le_of_ble_eq_true rfl) (Nat.le_of_ble_eq_true rfl) (Nat.le_of_ble_eq_true rfl) (Nat.le_of_ble_eq_true rfl) (Or.inr ⟨rfl, by rw [hob_]; exact cd2_2 (ixb hob_).1 (by first | (show (!dlv (rb o9) (on_ o9) fr (oc o9) (owd o9) (obf o9) || decide (ns = 40)) = true; rw [hdl_]; rfl) | (show (!dlv (rb o9) (on_ o9) fr (oc o9) (owd o9) (obf o9) || decide (ns = 40)) = true; rw [decide_eq_true hns40, Bool.or_true]))⟩)
  · have hdl_ : dlv (rb o9) (on_ o9) fr (oc o9) (owd o9) (obf o9) = true := (hd2_.resolve_right (fun q => q.1 c14)).2
    refine lv_aload_n hx hb dX7_deliver_17 rfl (lv_at hl 1 rfl) ?_
    refine m_get (ci := 7) (C := RX7) (T := TX7) (n := 13) (v := .ref (adr 7)) hx hb hts inX7_ hown hK rfl (hM.cel (by omega) h0) 2 (by decide) (hts _ (by decide +kernel)) rfl dX7_deliver_18 ?_
    refine m_getN (host := RX7) (ci := 2) (C := RX2) (T := TX2) (n := 5) (v := .int (nI ns)) hx hb hts inX2_ hown hK rfl (hM.cel (by omega) hm.1) 4 (by decide) 12 rfl rfl dX7_deliver_21 ?_
    refine lv_bipush (v := 40) hx hb dX7_deliver_24 (by decide) ?_
    refine lv_icmp_lt (tgt := 37) hx hb dX7_deliver_26 (by decide) (fun c26 => ?_) (fun c26 => ?_)
    · have hns40 : ns < 40 := lt_lt (b := 40) c26 (by omega) (by decide)
      refine lv_aload_n hx hb dX7_deliver_37 rfl (lv_at hl 1 rfl) ?_
      refine lv_iload_n hx hb dX7_deliver_38 rfl (lv_at hl 2 rfl) ?_
      refine lv_null hx hb dX7_deliver_39 ?_
      refine w_callv (va_runV (As := [.int (nI t9), .null]) (rest := []) ⟨hx, hb, hml, hown, hts⟩ (k_X7_putInHand_n l D ac _ A N adr w hM (by omega) no hd le pr ra h0 hha.2.1 t9 (by omega)) (cwV 2 hts gX7_deliver_X7_putInHand rfl rfl rfl (by decide +kernel) ⟨Nat.le_of_ble_eq_true rfl, Nat.le_of_ble_eq_true rfl⟩) (pV hK (ci := 7) rfl (hM.cel (by omega) h0)) rfl rfl hl.1 rfl (lv_room (Nat.le_of_ble_eq_true rfl)) dX7_deliver_40 ⟨Nat.le_of_ble_eq_true rfl, Nat.le_of_ble_eq_true rfl⟩) hS (fun w_5 H locs hw_5 hM hS => ?_)
      have h_6 : w_5 0 = .inr (7, [.ref (adr 1), .ref (adr 3), .ref (adr 7), .ref (adr 14), .ref (adr 15), .ref (adr 16), .ref (adr 18), .ref (adr 20), .ref (adr 21), .int (nI no), .int le, .int pr, .int ra]) := by rw [hw_5, va_up_ne _ _ (by omega)]; exact h0
      have h_7 : w_5 3 = .inr (5, [.ref (adr 4), .ref (adr 5), .ref (adr 6)]) := by rw [hw_5, va_up_ne _ _ (by omega)]; exact hru.1
      have h_8 : w_5 4 = .inl (ac 0, 600, .inl fs) := by rw [hw_5, va_up_ne _ _ (by omega)]; exact hru.2.1
      have h_9 : w_5 5 = .inl (ac 0, 200, .inl fr) := by rw [hw_5, va_up_ne _ _ (by omega)]; exact hru.2.2.1
      have h_10 : w_5 6 = .inl (ac 0, 200, .inl (fun j => nI (ft j))) := by rw [hw_5, va_up_ne _ _ (by omega)]; exact hru.2.2.2
      have h_11 : w_5 15 = .inl (ac 3, 4, .inr (.inr (.inr (.inr (href adr (va_up hd t9 none)))))) := by rw [hw_5]; exact va_up_self _ _ _
      have h_12 : w_5 20 = .inl (ac 0, 4, .inl pd) := by rw [hw_5, va_up_ne _ _ (by omega)]; exact hmo.1
      have h_13 : w_5 21 = .inl (ac 0, 4, .inl er) := by rw [hw_5, va_up_ne _ _ (by omega)]; exact hmo.2
      have h_14 : w_5 7 = .inr (2, [.ref (adr 8), .ref (adr 9), .ref (adr 10), .ref (adr 12), .int (nI ns)]) := by rw [hw_5, va_up_ne _ _ (by omega)]; exact hm.1
      have h_15 : w_5 8 = .inl (ac 4, 40, .inr (.inr (.inr (.inr (sref adr ns so))))) := by rw [hw_5, va_up_ne _ _ (by omega)]; exact hm.2.1
      have h_16 : w_5 9 = .inl (ac 1, 50, .inr (.inl hv)) := by rw [hw_5, va_up_ne _ _ (by omega)]; exact hm.2.2.1
      have h_17 : w_5 10 = .inr (1, [.ref (adr 11), .int (nI nd)]) := by rw [hw_5, va_up_ne _ _ (by omega)]; exact hm.2.2.2.1
      have h_18 : w_5 11 = .inl (ac 0, 60, .inl (fun j => nI (du j))) := by rw [hw_5, va_up_ne _ _ (by omega)]; exact hm.2.2.2.2.1
      have h_19 : w_5 12 = .inr (0, [.ref (adr 13)]) := by rw [hw_5, va_up_ne _ _ (by omega)]; exact hm.2.2.2.2.2.1
      have h_20 : w_5 13 = .inl (ac 0, 81, .inl T) := by rw [hw_5, va_up_ne _ _ (by omega)]; exact hm.2.2.2.2.2.2.1
      have h_21 : w_5 (22 + 6 * o9) = .inr (3, [.int (nI o9), .int (rb o9), .ref (adr (23 + 6 * o9)), .int (st o9), .int (mt o9), .int (co o9), .int (py o9)]) := by rw [hw_5, va_up_ne _ _ (by omega)]; exact hO_
      have h_22 : w_5 (23 + 6 * o9) = .inr (6, [.int (nI (oc o9)), .ref (adr (23 + 6 * o9 + 1)), .ref (adr (23 + 6 * o9 + 3))]) := by rw [hw_5, va_up_ne _ _ (by omega)]; exact hsn_.1
      have h_23 : w_5 (23 + 6 * o9 + 1) = .inr (4, [.ref (adr (23 + 6 * o9 + 2)), .int (nI (on_ o9))]) := by rw [hw_5, va_up_ne _ _ (by omega)]; exact hsn_.2.1
      have h_24 : w_5 (23 + 6 * o9 + 2) = .inl (ac 0, 8, .inl (fun j => nI (owd o9 j))) := by rw [hw_5, va_up_ne _ _ (by omega)]; exact hsn_.2.2.1
      have h_25 : w_5 (23 + 6 * o9 + 3) = .inr (4, [.ref (adr (23 + 6 * o9 + 4)), .int (nI (on_ o9))]) := by rw [hw_5, va_up_ne _ _ (by omega)]; exact hsn_.2.2.2.1
      have h_26 : w_5 (23 + 6 * o9 + 4) = .inl (ac 0, 8, .inl (obf o9)) := by rw [hw_5, va_up_ne _ _ (by omega)]; exact hsn_.2.2.2.2.1
      have h_27 : SenF ac adr w_5 no oc on_ owd obf := by rw [hw_5]; exact (SenF.up (by omega) hS1)
      refine lv_aload_n hx hb dX7_deliver_43 rfl (lv_at hl 0 rfl) ?_
      refine lv_bipush (v := (-2)) hx hb dX7_deliver_44 (by decide) ?_
      refine m_putN (host := RX7) (ci := 3) (C := RX3) (T := TX3) (n := 7) (v := .int (-2)) (ty := tyX3 3) hx hb hts inX3_ tyX3 tyX3_ok nmX3 hown hK hM hS rfl (22 + 6 * o9) (by have := ho_; omega) h_21 3 (by decide) 24 rfl rfl (by decide +kernel) rfl rfl (Nat.le_of_ble_eq_true rfl) dX7_deliver_46 (fun H locs hM hS => ?_)
      have hM : MW D A N adr (va_up w_5 (22 + 6 * o9) (.inr (3, [.int (nI o9), .int (rb o9), .ref (adr (23 + 6 * o9)), .int (-2), .int (mt o9), .int (co o9), .int (py o9)]))) H := hM
      obtain ⟨w_28, ew_28⟩ : ∃ z9_, z9_ = va_up w_5 (22 + 6 * o9) (.inr (3, [.int (nI o9), .int (rb o9), .ref (adr (23 + 6 * o9)), .int (-2), .int (mt o9), .int (co o9), .int (py o9)])) := ⟨_, rfl⟩
      rw [← ew_28] at hM
      have h_29 : w_28 0 = .inr (7, [.ref (adr 1), .ref (adr 3), .ref (adr 7), .ref (adr 14), .ref (adr 15), .ref (adr 16), .ref (adr 18), .ref (adr 20), .ref (adr 21), .int (nI no), .int le, .int pr, .int ra]) := by rw [ew_28, va_up_ne _ _ (by omega)]; exact h_6
      have h_30 : w_28 3 = .inr (5, [.ref (adr 4), .ref (adr 5), .ref (adr 6)]) := by rw [ew_28, va_up_ne _ _ (by omega)]; exact h_7
      have h_31 : w_28 4 = .inl (ac 0, 600, .inl fs) := by rw [ew_28, va_up_ne _ _ (by omega)]; exact h_8
      have h_32 : w_28 5 = .inl (ac 0, 200, .inl fr) := by rw [ew_28, va_up_ne _ _ (by omega)]; exact h_9
      have h_33 : w_28 6 = .inl (ac 0, 200, .inl (fun j => nI (ft j))) := by rw [ew_28, va_up_ne _ _ (by omega)]; exact h_10
      have h_34 : w_28 15 = .inl (ac 3, 4, .inr (.inr (.inr (.inr (href adr (va_up hd t9 none)))))) := by rw [ew_28, va_up_ne _ _ (by omega)]; exact h_11
      have h_35 : w_28 20 = .inl (ac 0, 4, .inl pd) := by rw [ew_28, va_up_ne _ _ (by omega)]; exact h_12
      have h_36 : w_28 21 = .inl (ac 0, 4, .inl er) := by rw [ew_28, va_up_ne _ _ (by omega)]; exact h_13
      have h_37 : w_28 7 = .inr (2, [.ref (adr 8), .ref (adr 9), .ref (adr 10), .ref (adr 12), .int (nI ns)]) := by rw [ew_28, va_up_ne _ _ (by omega)]; exact h_14
      have h_38 : w_28 8 = .inl (ac 4, 40, .inr (.inr (.inr (.inr (sref adr ns so))))) := by rw [ew_28, va_up_ne _ _ (by omega)]; exact h_15
      have h_39 : w_28 9 = .inl (ac 1, 50, .inr (.inl hv)) := by rw [ew_28, va_up_ne _ _ (by omega)]; exact h_16
      have h_40 : w_28 10 = .inr (1, [.ref (adr 11), .int (nI nd)]) := by rw [ew_28, va_up_ne _ _ (by omega)]; exact h_17
      have h_41 : w_28 11 = .inl (ac 0, 60, .inl (fun j => nI (du j))) := by rw [ew_28, va_up_ne _ _ (by omega)]; exact h_18
      have h_42 : w_28 12 = .inr (0, [.ref (adr 13)]) := by rw [ew_28, va_up_ne _ _ (by omega)]; exact h_19
      have h_43 : w_28 13 = .inl (ac 0, 81, .inl T) := by rw [ew_28, va_up_ne _ _ (by omega)]; exact h_20
      have h_44 : w_28 (22 + 6 * o9) = .inr (3, [.int (nI o9), .int (rb o9), .ref (adr (23 + 6 * o9)), .int (-2), .int (mt o9), .int (co o9), .int (py o9)]) := by rw [ew_28]; exact va_up_self _ _ _
      have h_45 : w_28 (23 + 6 * o9) = .inr (6, [.int (nI (oc o9)), .ref (adr (23 + 6 * o9 + 1)), .ref (adr (23 + 6 * o9 + 3))]) := by rw [ew_28, va_up_ne _ _ (by omega)]; exact h_22
      have h_46 : w_28 (23 + 6 * o9 + 1) = .inr (4, [.ref (adr (23 + 6 * o9 + 2)), .int (nI (on_ o9))]) := by rw [ew_28, va_up_ne _ _ (by omega)]; exact h_23
      have h_47 : w_28 (23 + 6 * o9 + 2) = .inl (ac 0, 8, .inl (fun j => nI (owd o9 j))) := by rw [ew_28, va_up_ne _ _ (by omega)]; exact h_24
      have h_48 : w_28 (23 + 6 * o9 + 3) = .inr (4, [.ref (adr (23 + 6 * o9 + 4)), .int (nI (on_ o9))]) := by rw [ew_28, va_up_ne _ _ (by omega)]; exact h_25
      have h_49 : w_28 (23 + 6 * o9 + 4) = .inl (ac 0, 8, .inl (obf o9)) := by rw [ew_28, va_up_ne _ _ (by omega)]; exact h_26
      have h_50 : SenF ac adr w_28 no oc on_ owd obf := by rw [ew_28]; exact SenF.up (by omega) h_27
      refine lv_aload_n hx hb dX7_deliver_49 rfl (lv_at hl 1 rfl) ?_
      refine m_get (ci := 7) (C := RX7) (T := TX7) (n := 13) (v := .ref (adr 20)) hx hb hts inX7_ hown hK rfl (hM.cel (by omega) h_29) 7 (by decide) (hts _ (by decide +kernel)) rfl dX7_deliver_50 ?_
      refine lv_aload_n hx hb dX7_deliver_53 rfl (lv_at hl 0 rfl) ?_
      refine m_getN (host := RX7) (ci := 3) (C := RX3) (T := TX3) (n := 7) (v := .ref (adr (23 + 6 * o9))) hx hb hts inX3_ hown hK rfl (hM.cel (by have := ho_; omega) h_44) 2 (by decide) 23 rfl rfl dX7_deliver_54 ?_
      refine m_getN (host := RX7) (ci := 6) (C := RX6) (T := TX6) (n := 3) (v := .int (nI (oc o9))) hx hb hts inX6_ hown hK rfl (hM.cel (by have := ho_; omega) h_45) 0 (by decide) 16 rfl rfl dX7_deliver_57 ?_
      refine lv_aload_n hx hb dX7_deliver_60 rfl (lv_at hl 0 rfl) ?_
      refine m_getN (host := RX7) (ci := 3) (C := RX3) (T := TX3) (n := 7) (v := .int (co o9)) hx hb hts inX3_ hown hK rfl (hM.cel (by have := ho_; omega) h_44) 5 (by decide) 26 rfl rfl dX7_deliver_61 ?_
      refine w_callv (va_runS (As := [.ref (adr 20), .int (nI (oc o9)), .int (co o9)]) (rest := []) ⟨hx, hb, hml, hown, hts⟩ (k_X7_addTo l D ac _ A N adr w_28 hM 20 (by omega) pd h_35 ((oc o9)) (by omega) (co o9)) (va_cwS 3 hts gX7_deliver_X7_addTo rfl rfl rfl (by decide +kernel) ⟨Nat.le_of_ble_eq_true rfl, Nat.le_of_ble_eq_true rfl⟩) (pS hK) rfl rfl hl.1 rfl (lv_room (Nat.le_of_ble_eq_true rfl)) dX7_deliver_64 ⟨Nat.le_of_ble_eq_true rfl, Nat.le_of_ble_eq_true rfl⟩) hS (fun w_52 H locs hw_52 hM hS => ?_)
      have h_53 : w_52 0 = .inr (7, [.ref (adr 1), .ref (adr 3), .ref (adr 7), .ref (adr 14), .ref (adr 15), .ref (adr 16), .ref (adr 18), .ref (adr 20), .ref (adr 21), .int (nI no), .int le, .int pr, .int ra]) := by rw [hw_52, va_up_ne _ _ (by omega)]; exact h_29
      have h_54 : w_52 3 = .inr (5, [.ref (adr 4), .ref (adr 5), .ref (adr 6)]) := by rw [hw_52, va_up_ne _ _ (by omega)]; exact h_30
      have h_55 : w_52 4 = .inl (ac 0, 600, .inl fs) := by rw [hw_52, va_up_ne _ _ (by omega)]; exact h_31
      have h_56 : w_52 5 = .inl (ac 0, 200, .inl fr) := by rw [hw_52, va_up_ne _ _ (by omega)]; exact h_32
      have h_57 : w_52 6 = .inl (ac 0, 200, .inl (fun j => nI (ft j))) := by rw [hw_52, va_up_ne _ _ (by omega)]; exact h_33
      have h_58 : w_52 15 = .inl (ac 3, 4, .inr (.inr (.inr (.inr (href adr (va_up hd t9 none)))))) := by rw [hw_52, va_up_ne _ _ (by omega)]; exact h_34
      have h_59 : w_52 20 = .inl (ac 0, 4, .inl (upd pd ((oc o9)) (pd ((oc o9)) + (co o9)))) := by rw [hw_52]; exact va_up_self _ _ _
      have h_60 : w_52 21 = .inl (ac 0, 4, .inl er) := by rw [hw_52, va_up_ne _ _ (by omega)]; exact h_36
      have h_61 : w_52 7 = .inr (2, [.ref (adr 8), .ref (adr 9), .ref (adr 10), .ref (adr 12), .int (nI ns)]) := by rw [hw_52, va_up_ne _ _ (by omega)]; exact h_37
      have h_62 : w_52 8 = .inl (ac 4, 40, .inr (.inr (.inr (.inr (sref adr ns so))))) := by rw [hw_52, va_up_ne _ _ (by omega)]; exact h_38
      have h_63 : w_52 9 = .inl (ac 1, 50, .inr (.inl hv)) := by rw [hw_52, va_up_ne _ _ (by omega)]; exact h_39
      have h_64 : w_52 10 = .inr (1, [.ref (adr 11), .int (nI nd)]) := by rw [hw_52, va_up_ne _ _ (by omega)]; exact h_40
      have h_65 : w_52 11 = .inl (ac 0, 60, .inl (fun j => nI (du j))) := by rw [hw_52, va_up_ne _ _ (by omega)]; exact h_41
      have h_66 : w_52 12 = .inr (0, [.ref (adr 13)]) := by rw [hw_52, va_up_ne _ _ (by omega)]; exact h_42
      have h_67 : w_52 13 = .inl (ac 0, 81, .inl T) := by rw [hw_52, va_up_ne _ _ (by omega)]; exact h_43
      have h_68 : w_52 (22 + 6 * o9) = .inr (3, [.int (nI o9), .int (rb o9), .ref (adr (23 + 6 * o9)), .int (-2), .int (mt o9), .int (co o9), .int (py o9)]) := by rw [hw_52, va_up_ne _ _ (by omega)]; exact h_44
      have h_69 : w_52 (23 + 6 * o9) = .inr (6, [.int (nI (oc o9)), .ref (adr (23 + 6 * o9 + 1)), .ref (adr (23 + 6 * o9 + 3))]) := by rw [hw_52, va_up_ne _ _ (by omega)]; exact h_45
      have h_70 : w_52 (23 + 6 * o9 + 1) = .inr (4, [.ref (adr (23 + 6 * o9 + 2)), .int (nI (on_ o9))]) := by rw [hw_52, va_up_ne _ _ (by omega)]; exact h_46
      have h_71 : w_52 (23 + 6 * o9 + 2) = .inl (ac 0, 8, .inl (fun j => nI (owd o9 j))) := by rw [hw_52, va_up_ne _ _ (by omega)]; exact h_47
      have h_72 : w_52 (23 + 6 * o9 + 3) = .inr (4, [.ref (adr (23 + 6 * o9 + 4)), .int (nI (on_ o9))]) := by rw [hw_52, va_up_ne _ _ (by omega)]; exact h_48
      have h_73 : w_52 (23 + 6 * o9 + 4) = .inl (ac 0, 8, .inl (obf o9)) := by rw [hw_52, va_up_ne _ _ (by omega)]; exact h_49
      have h_74 : SenF ac adr w_52 no oc on_ owd obf := by rw [hw_52]; exact (SenF.up (by omega) h_50)
      refine lv_aload_n hx hb dX7_deliver_67 rfl (lv_at hl 1 rfl) ?_
      refine m_get (ci := 7) (C := RX7) (T := TX7) (n := 13) (v := .ref (adr 21)) hx hb hts inX7_ hown hK rfl (hM.cel (by omega) h_53) 8 (by decide) (hts _ (by decide +kernel)) rfl dX7_deliver_68 ?_
      refine lv_iload_n hx hb dX7_deliver_71 rfl (lv_at hl 2 rfl) ?_
      refine lv_aload_n hx hb dX7_deliver_72 rfl (lv_at hl 0 rfl) ?_
      refine m_getN (host := RX7) (ci := 3) (C := RX3) (T := TX3) (n := 7) (v := .int (py o9)) hx hb hts inX3_ hown hK rfl (hM.cel (by have := ho_; omega) h_68) 6 (by decide) 27 rfl rfl dX7_deliver_73 ?_
      refine w_callv (va_runS (As := [.ref (adr 21), .int (nI t9), .int (py o9)]) (rest := []) ⟨hx, hb, hml, hown, hts⟩ (k_X7_addTo l D ac _ A N adr w_52 hM 21 (by omega) er h_60 t9 (by omega) (py o9)) (va_cwS 3 hts gX7_deliver_X7_addTo rfl rfl rfl (by decide +kernel) ⟨Nat.le_of_ble_eq_true rfl, Nat.le_of_ble_eq_true rfl⟩) (pS hK) rfl rfl hl.1 rfl (lv_room (Nat.le_of_ble_eq_true rfl)) dX7_deliver_76 ⟨Nat.le_of_ble_eq_true rfl, Nat.le_of_ble_eq_true rfl⟩) hS (fun w_76 H locs hw_76 hM hS => ?_)
      have h_77 : w_76 0 = .inr (7, [.ref (adr 1), .ref (adr 3), .ref (adr 7), .ref (adr 14), .ref (adr 15), .ref (adr 16), .ref (adr 18), .ref (adr 20), .ref (adr 21), .int (nI no), .int le, .int pr, .int ra]) := by rw [hw_76, va_up_ne _ _ (by omega)]; exact h_53
      have h_78 : w_76 3 = .inr (5, [.ref (adr 4), .ref (adr 5), .ref (adr 6)]) := by rw [hw_76, va_up_ne _ _ (by omega)]; exact h_54
      have h_79 : w_76 4 = .inl (ac 0, 600, .inl fs) := by rw [hw_76, va_up_ne _ _ (by omega)]; exact h_55
      have h_80 : w_76 5 = .inl (ac 0, 200, .inl fr) := by rw [hw_76, va_up_ne _ _ (by omega)]; exact h_56
      have h_81 : w_76 6 = .inl (ac 0, 200, .inl (fun j => nI (ft j))) := by rw [hw_76, va_up_ne _ _ (by omega)]; exact h_57
      have h_82 : w_76 15 = .inl (ac 3, 4, .inr (.inr (.inr (.inr (href adr (va_up hd t9 none)))))) := by rw [hw_76, va_up_ne _ _ (by omega)]; exact h_58
      have h_83 : w_76 20 = .inl (ac 0, 4, .inl (upd pd ((oc o9)) (pd ((oc o9)) + (co o9)))) := by rw [hw_76, va_up_ne _ _ (by omega)]; exact h_59
      have h_84 : w_76 21 = .inl (ac 0, 4, .inl (upd er t9 (er t9 + (py o9)))) := by rw [hw_76]; exact va_up_self _ _ _
      have h_85 : w_76 7 = .inr (2, [.ref (adr 8), .ref (adr 9), .ref (adr 10), .ref (adr 12), .int (nI ns)]) := by rw [hw_76, va_up_ne _ _ (by omega)]; exact h_61
      have h_86 : w_76 8 = .inl (ac 4, 40, .inr (.inr (.inr (.inr (sref adr ns so))))) := by rw [hw_76, va_up_ne _ _ (by omega)]; exact h_62
      have h_87 : w_76 9 = .inl (ac 1, 50, .inr (.inl hv)) := by rw [hw_76, va_up_ne _ _ (by omega)]; exact h_63
      have h_88 : w_76 10 = .inr (1, [.ref (adr 11), .int (nI nd)]) := by rw [hw_76, va_up_ne _ _ (by omega)]; exact h_64
      have h_89 : w_76 11 = .inl (ac 0, 60, .inl (fun j => nI (du j))) := by rw [hw_76, va_up_ne _ _ (by omega)]; exact h_65
      have h_90 : w_76 12 = .inr (0, [.ref (adr 13)]) := by rw [hw_76, va_up_ne _ _ (by omega)]; exact h_66
      have h_91 : w_76 13 = .inl (ac 0, 81, .inl T) := by rw [hw_76, va_up_ne _ _ (by omega)]; exact h_67
      have h_92 : w_76 (22 + 6 * o9) = .inr (3, [.int (nI o9), .int (rb o9), .ref (adr (23 + 6 * o9)), .int (-2), .int (mt o9), .int (co o9), .int (py o9)]) := by rw [hw_76, va_up_ne _ _ (by omega)]; exact h_68
      have h_93 : w_76 (23 + 6 * o9) = .inr (6, [.int (nI (oc o9)), .ref (adr (23 + 6 * o9 + 1)), .ref (adr (23 + 6 * o9 + 3))]) := by rw [hw_76, va_up_ne _ _ (by omega)]; exact h_69
      have h_94 : w_76 (23 + 6 * o9 + 1) = .inr (4, [.ref (adr (23 + 6 * o9 + 2)), .int (nI (on_ o9))]) := by rw [hw_76, va_up_ne _ _ (by omega)]; exact h_70
      have h_95 : w_76 (23 + 6 * o9 + 2) = .inl (ac 0, 8, .inl (fun j => nI (owd o9 j))) := by rw [hw_76, va_up_ne _ _ (by omega)]; exact h_71
      have h_96 : w_76 (23 + 6 * o9 + 3) = .inr (4, [.ref (adr (23 + 6 * o9 + 4)), .int (nI (on_ o9))]) := by rw [hw_76, va_up_ne _ _ (by omega)]; exact h_72
      have h_97 : w_76 (23 + 6 * o9 + 4) = .inl (ac 0, 8, .inl (obf o9)) := by rw [hw_76, va_up_ne _ _ (by omega)]; exact h_73
      have h_98 : SenF ac adr w_76 no oc on_ owd obf := by rw [hw_76]; exact (SenF.up (by omega) h_74)
      refine lv_aload_n hx hb dX7_deliver_79 rfl (lv_at hl 1 rfl) ?_
      refine m_get (ci := 7) (C := RX7) (T := TX7) (n := 13) (v := .ref (adr 7)) hx hb hts inX7_ hown hK rfl (hM.cel (by omega) h_77) 2 (by decide) (hts _ (by decide +kernel)) rfl dX7_deliver_80 ?_
      refine lv_aload_n hx hb dX7_deliver_83 rfl (lv_at hl 0 rfl) ?_
      refine m_getN (host := RX7) (ci := 3) (C := RX3) (T := TX3) (n := 7) (v := .ref (adr (23 + 6 * o9))) hx hb hts inX3_ hown hK rfl (hM.cel (by have := ho_; omega) h_92) 2 (by decide) 23 rfl rfl dX7_deliver_84 ?_
      refine w_calli (va_runV (As := [.ref (adr (23 + 6 * o9))]) (rest := []) ⟨hx, hb, hml, hown, hts⟩ (k_X2_keep l D ac _ A N adr w_76 hM no oc on_ owd obf ns so hv nd du T (by omega) h_98 ⟨h_85, h_86, h_87, h_88, h_89, h_90, h_91, hm.2.2.2.2.2.2.2⟩ hso o9 ho_ hns40) (cwV 1 hts gX7_deliver_X2_keep rfl rfl rfl (by decide +kernel) ⟨Nat.le_of_ble_eq_true rfl, Nat.le_of_ble_eq_true rfl⟩) (pV hK (ci := 2) rfl (hM.cel (by omega) h_85)) rfl rfl hl.1 rfl (lv_room (Nat.le_of_ble_eq_true rfl)) dX7_deliver_87 ⟨Nat.le_of_ble_eq_true rfl, Nat.le_of_ble_eq_true rfl⟩) hS (fun rv_99 w_100 H locs hw_100 hM hS => ?_)
      obtain ⟨hrv_99, hw_100⟩ := hw_100
      have h_101 : w_100 0 = .inr (7, [.ref (adr 1), .ref (adr 3), .ref (adr 7), .ref (adr 14), .ref (adr 15), .ref (adr 16), .ref (adr 18), .ref (adr 20), .ref (adr 21), .int (nI no), .int le, .int pr, .int ra]) := by rw [hw_100, va_up_ne _ _ (by omega), va_up_ne _ _ (by omega), va_up_ne _ _ (by omega)]; exact h_77
      have h_102 : w_100 3 = .inr (5, [.ref (adr 4), .ref (adr 5), .ref (adr 6)]) := by rw [hw_100, va_up_ne _ _ (by omega), va_up_ne _ _ (by omega), va_up_ne _ _ (by omega)]; exact h_78
      have h_103 : w_100 4 = .inl (ac 0, 600, .inl fs) := by rw [hw_100, va_up_ne _ _ (by omega), va_up_ne _ _ (by omega), va_up_ne _ _ (by omega)]; exact h_79
      have h_104 : w_100 5 = .inl (ac 0, 200, .inl fr) := by rw [hw_100, va_up_ne _ _ (by omega), va_up_ne _ _ (by omega), va_up_ne _ _ (by omega)]; exact h_80
      have h_105 : w_100 6 = .inl (ac 0, 200, .inl (fun j => nI (ft j))) := by rw [hw_100, va_up_ne _ _ (by omega), va_up_ne _ _ (by omega), va_up_ne _ _ (by omega)]; exact h_81
      have h_106 : w_100 15 = .inl (ac 3, 4, .inr (.inr (.inr (.inr (href adr (va_up hd t9 none)))))) := by rw [hw_100, va_up_ne _ _ (by omega), va_up_ne _ _ (by omega), va_up_ne _ _ (by omega)]; exact h_82
      have h_107 : w_100 20 = .inl (ac 0, 4, .inl (upd pd ((oc o9)) (pd ((oc o9)) + (co o9)))) := by rw [hw_100, va_up_ne _ _ (by omega), va_up_ne _ _ (by omega), va_up_ne _ _ (by omega)]; exact h_83
      have h_108 : w_100 21 = .inl (ac 0, 4, .inl (upd er t9 (er t9 + (py o9)))) := by rw [hw_100, va_up_ne _ _ (by omega), va_up_ne _ _ (by omega), va_up_ne _ _ (by omega)]; exact h_84
      have h_109 : w_100 7 = .inr (2, [.ref (adr 8), .ref (adr 9), .ref (adr 10), .ref (adr 12), .int (nI (ns + 1))]) := by rw [hw_100]; exact va_up_self _ _ _
      have h_110 : w_100 8 = .inl (ac 4, 40, .inr (.inr (.inr (.inr (sref adr (ns + 1) (va_up so ns o9)))))) := by rw [hw_100, va_up_ne _ _ (by omega), va_up_ne _ _ (by omega)]; exact va_up_self _ _ _
      have h_111 : w_100 9 = .inl (ac 1, 50, .inr (.inl (kpv hv ns (owd o9) (on_ o9)))) := by rw [hw_100, va_up_ne _ _ (by omega)]; exact va_up_self _ _ _
      have h_112 : w_100 10 = .inr (1, [.ref (adr 11), .int (nI nd)]) := by rw [hw_100, va_up_ne _ _ (by omega), va_up_ne _ _ (by omega), va_up_ne _ _ (by omega)]; exact h_88
      have h_113 : w_100 11 = .inl (ac 0, 60, .inl (fun j => nI (du j))) := by rw [hw_100, va_up_ne _ _ (by omega), va_up_ne _ _ (by omega), va_up_ne _ _ (by omega)]; exact h_89
      have h_114 : w_100 12 = .inr (0, [.ref (adr 13)]) := by rw [hw_100, va_up_ne _ _ (by omega), va_up_ne _ _ (by omega), va_up_ne _ _ (by omega)]; exact h_90
      have h_115 : w_100 13 = .inl (ac 0, 81, .inl T) := by rw [hw_100, va_up_ne _ _ (by omega), va_up_ne _ _ (by omega), va_up_ne _ _ (by omega)]; exact h_91
      have h_116 : w_100 (22 + 6 * o9) = .inr (3, [.int (nI o9), .int (rb o9), .ref (adr (23 + 6 * o9)), .int (-2), .int (mt o9), .int (co o9), .int (py o9)]) := by rw [hw_100, va_up_ne _ _ (by omega), va_up_ne _ _ (by omega), va_up_ne _ _ (by omega)]; exact h_92
      have h_117 : w_100 (23 + 6 * o9) = .inr (6, [.int (nI (oc o9)), .ref (adr (23 + 6 * o9 + 1)), .ref (adr (23 + 6 * o9 + 3))]) := by rw [hw_100, va_up_ne _ _ (by omega), va_up_ne _ _ (by omega), va_up_ne _ _ (by omega)]; exact h_93
      have h_118 : w_100 (23 + 6 * o9 + 1) = .inr (4, [.ref (adr (23 + 6 * o9 + 2)), .int (nI (on_ o9))]) := by rw [hw_100, va_up_ne _ _ (by omega), va_up_ne _ _ (by omega), va_up_ne _ _ (by omega)]; exact h_94
      have h_119 : w_100 (23 + 6 * o9 + 2) = .inl (ac 0, 8, .inl (fun j => nI (owd o9 j))) := by rw [hw_100, va_up_ne _ _ (by omega), va_up_ne _ _ (by omega), va_up_ne _ _ (by omega)]; exact h_95
      have h_120 : w_100 (23 + 6 * o9 + 3) = .inr (4, [.ref (adr (23 + 6 * o9 + 4)), .int (nI (on_ o9))]) := by rw [hw_100, va_up_ne _ _ (by omega), va_up_ne _ _ (by omega), va_up_ne _ _ (by omega)]; exact h_96
      have h_121 : w_100 (23 + 6 * o9 + 4) = .inl (ac 0, 8, .inl (obf o9)) := by rw [hw_100, va_up_ne _ _ (by omega), va_up_ne _ _ (by omega), va_up_ne _ _ (by omega)]; exact h_97
      have h_122 : SenF ac adr w_100 no oc on_ owd obf := by rw [hw_100]; exact (SenF.up (by omega) (SenF.up (by omega) (SenF.up (by omega) h_98)))
      subst hrv_99
      have hnsd_ : ns + 1 ≤ 40 ∧ nd ≤ 40 := ⟨by omega, hnd⟩
      have hso2_ : ∀ i, i < ns + 1 → va_up so ns o9 i < no := fun i hi => (Nat.lt_or_ge i ns).elim (fun q => by rw [va_up_ne _ _ (Nat.ne_of_lt q)]; exact hso i q) (fun q => by rw [show i = ns by omega, va_up_self]; exact ho_)
      refine lv_istore_n (lv' := [(3, .int (nI ns)), (2, .ref (adr (22 + 6 * o9))), (0, .ref (adr 0)), (1, .int (nI t9))]) hx hb dX7_deliver_90 rfl hl (by decide) rfl (fun ls hl => ?_)
      refine lv_aload_n hx hb dX7_deliver_91 rfl (lv_at hl 2 rfl) ?_
      refine m_get (ci := 7) (C := RX7) (T := TX7) (n := 13) (v := .ref (adr 7)) hx hb hts inX7_ hown hK rfl (hM.cel (by omega) h_101) 2 (by decide) (hts _ (by decide +kernel)) rfl dX7_deliver_92 ?_
      refine lv_aload_n hx hb dX7_deliver_95 rfl (lv_at hl 2 rfl) ?_
      refine m_get (ci := 7) (C := RX7) (T := TX7) (n := 13) (v := .ref (adr 3)) hx hb hts inX7_ hown hK rfl (hM.cel (by omega) h_101) 1 (by decide) (hts _ (by decide +kernel)) rfl dX7_deliver_96 ?_
      refine w_callv (va_runV (As := [.ref (adr 3)]) (rest := []) ⟨hx, hb, hml, hown, hts⟩ (k_X2_listDue l D ac _ A N adr w_100 hM no oc on_ owd obf ((ns + 1)) ((va_up so ns o9)) (kpv hv ns (owd o9) (on_ o9)) nd du T (by omega) h_122 ⟨h_109, h_110, h_111, h_112, h_113, h_114, h_115, hnsd_⟩ hso2_ fs fr ft ⟨h_102, h_103, h_104, h_105⟩ (hin_.2.1.1) (fun x hx => Nat.lt_succ_of_lt (hin_.2.1.2 x hx))) (cwV 1 hts gX7_deliver_X2_listDue rfl rfl rfl (by decide +kernel) ⟨Nat.le_of_ble_eq_true rfl, Nat.le_of_ble_eq_true rfl⟩) (pV hK (ci := 2) rfl (hM.cel (by omega) h_109)) rfl rfl hl.1 rfl (lv_room (Nat.le_of_ble_eq_true rfl)) dX7_deliver_99 ⟨Nat.le_of_ble_eq_true rfl, Nat.le_of_ble_eq_true rfl⟩) hS (fun w_124 H locs hw_124 hM hS => ?_)
      obtain ⟨n2_, d2_, hw_124, hl2_⟩ := hw_124
      have h_125 : w_124 0 = .inr (7, [.ref (adr 1), .ref (adr 3), .ref (adr 7), .ref (adr 14), .ref (adr 15), .ref (adr 16), .ref (adr 18), .ref (adr 20), .ref (adr 21), .int (nI no), .int le, .int pr, .int ra]) := by rw [hw_124, va_up_ne _ _ (by omega), va_up_ne _ _ (by omega)]; exact h_101
      have h_126 : w_124 3 = .inr (5, [.ref (adr 4), .ref (adr 5), .ref (adr 6)]) := by rw [hw_124, va_up_ne _ _ (by omega), va_up_ne _ _ (by omega)]; exact h_102
      have h_127 : w_124 4 = .inl (ac 0, 600, .inl fs) := by rw [hw_124, va_up_ne _ _ (by omega), va_up_ne _ _ (by omega)]; exact h_103
      have h_128 : w_124 5 = .inl (ac 0, 200, .inl fr) := by rw [hw_124, va_up_ne _ _ (by omega), va_up_ne _ _ (by omega)]; exact h_104
      have h_129 : w_124 6 = .inl (ac 0, 200, .inl (fun j => nI (ft j))) := by rw [hw_124, va_up_ne _ _ (by omega), va_up_ne _ _ (by omega)]; exact h_105
      have h_130 : w_124 15 = .inl (ac 3, 4, .inr (.inr (.inr (.inr (href adr (va_up hd t9 none)))))) := by rw [hw_124, va_up_ne _ _ (by omega), va_up_ne _ _ (by omega)]; exact h_106
      have h_131 : w_124 20 = .inl (ac 0, 4, .inl (upd pd ((oc o9)) (pd ((oc o9)) + (co o9)))) := by rw [hw_124, va_up_ne _ _ (by omega), va_up_ne _ _ (by omega)]; exact h_107
      have h_132 : w_124 21 = .inl (ac 0, 4, .inl (upd er t9 (er t9 + (py o9)))) := by rw [hw_124, va_up_ne _ _ (by omega), va_up_ne _ _ (by omega)]; exact h_108
      have h_133 : w_124 7 = .inr (2, [.ref (adr 8), .ref (adr 9), .ref (adr 10), .ref (adr 12), .int (nI (ns + 1))]) := by rw [hw_124, va_up_ne _ _ (by omega), va_up_ne _ _ (by omega)]; exact h_109
      have h_134 : w_124 8 = .inl (ac 4, 40, .inr (.inr (.inr (.inr (sref adr (ns + 1) (va_up so ns o9)))))) := by rw [hw_124, va_up_ne _ _ (by omega), va_up_ne _ _ (by omega)]; exact h_110
      have h_135 : w_124 9 = .inl (ac 1, 50, .inr (.inl (kpv hv ns (owd o9) (on_ o9)))) := by rw [hw_124, va_up_ne _ _ (by omega), va_up_ne _ _ (by omega)]; exact h_111
      have h_136 : w_124 10 = .inr (1, [.ref (adr 11), .int (nI n2_)]) := by rw [hw_124]; exact va_up_self _ _ _
      have h_137 : w_124 11 = .inl (ac 0, 60, .inl (fun j => nI (d2_ j))) := by rw [hw_124, va_up_ne _ _ (by omega)]; exact va_up_self _ _ _
      have h_138 : w_124 12 = .inr (0, [.ref (adr 13)]) := by rw [hw_124, va_up_ne _ _ (by omega), va_up_ne _ _ (by omega)]; exact h_114
      have h_139 : w_124 13 = .inl (ac 0, 81, .inl T) := by rw [hw_124, va_up_ne _ _ (by omega), va_up_ne _ _ (by omega)]; exact h_115
      have h_140 : w_124 (22 + 6 * o9) = .inr (3, [.int (nI o9), .int (rb o9), .ref (adr (23 + 6 * o9)), .int (-2), .int (mt o9), .int (co o9), .int (py o9)]) := by rw [hw_124, va_up_ne _ _ (by omega), va_up_ne _ _ (by omega)]; exact h_116
      have h_141 : w_124 (23 + 6 * o9) = .inr (6, [.int (nI (oc o9)), .ref (adr (23 + 6 * o9 + 1)), .ref (adr (23 + 6 * o9 + 3))]) := by rw [hw_124, va_up_ne _ _ (by omega), va_up_ne _ _ (by omega)]; exact h_117
      have h_142 : w_124 (23 + 6 * o9 + 1) = .inr (4, [.ref (adr (23 + 6 * o9 + 2)), .int (nI (on_ o9))]) := by rw [hw_124, va_up_ne _ _ (by omega), va_up_ne _ _ (by omega)]; exact h_118
      have h_143 : w_124 (23 + 6 * o9 + 2) = .inl (ac 0, 8, .inl (fun j => nI (owd o9 j))) := by rw [hw_124, va_up_ne _ _ (by omega), va_up_ne _ _ (by omega)]; exact h_119
      have h_144 : w_124 (23 + 6 * o9 + 3) = .inr (4, [.ref (adr (23 + 6 * o9 + 4)), .int (nI (on_ o9))]) := by rw [hw_124, va_up_ne _ _ (by omega), va_up_ne _ _ (by omega)]; exact h_120
      have h_145 : w_124 (23 + 6 * o9 + 4) = .inl (ac 0, 8, .inl (obf o9)) := by rw [hw_124, va_up_ne _ _ (by omega), va_up_ne _ _ (by omega)]; exact h_121
      have h_146 : SenF ac adr w_124 no oc on_ owd obf := by rw [hw_124]; exact (SenF.up (by omega) (SenF.up (by omega) h_122))
      have hok_ := ld_ok hin_.2.1.1 (fun x hx => Nat.lt_succ_of_lt (hin_.2.1.2 x hx)) hl2_
      refine lv_iload_n hx hb dX7_deliver_102 rfl (lv_at hl 0 rfl) ?_
      exact ex_i hx hb hlocks hr dX7_deliver_103 (Nat.le_of_ble_eq_true rfl) (Nat.le_of_ble_eq_true rfl) hM hS (⟨t9, o9, ht9_, rfl, hht_, hdl_, hns40, rfl, n2_, d2_, hl2_, by rw [hw_124, hw_100, hw_76, hw_52, ew_28, hw_5]; exact ⟨(TGW.up (by omega) (TGW.up (by omega) (TGW.up (by omega) (TGW.up (by omega) (TGW.up (by omega) (TGW.up (by omega) (TGW.up (by omega) (TGW.up (by omega) (TGW.up (by omega) hR.1))))))))), (DraW.up (by omega) (DraW.up (by omega) (DraW.up (by omega) (DraW.up (by omega) (DraW.up (by omega) (DraW.up (by omega) (DraW.up (by omega) (DraW.up (by omega) (DraW.up (by omega) hR.2.1))))))))), (RulW.up (by omega) (RulW.up (by omega) (RulW.up (by omega) (RulW.up (by omega) (RulW.up (by omega) (RulW.up (by omega) (RulW.up (by omega) (RulW.up (by omega) (RulW.up (by omega) hR.2.2.1))))))))), (MemW.due (Nat.le_trans (ld_len hok_) (by omega)) (MemW.keep hns40 (MemW.up (by omega) (MemW.up (by omega) (MemW.up (by omega) (MemW.up (by omega) hR.2.2.2.1)))))), (SenF.up (by omega) (SenF.up (by omega) (SenF.up (by omega) (SenF.up (by omega) (SenF.up (by omega) (SenF.up (by omega) (SenF.up (by omega) (SenF.up (by omega) (SenF.up (by omega) hR.2.2.2.2.1))))))))), (OrdF.up (by omega) (OrdF.up (by omega) (OrdF.up (by omega) (OrdF.up (by omega) (OrdF.up (by omega) (OrdF.up (by omega) (OrdF.up (by omega) (OrdF.set (OrdF.up (by omega) hR.2.2.2.2.2.1) rfl (va_up_same rfl).symm (va_up_same rfl).symm (va_up_same rfl).symm)))))))), (DesW.up (by omega) (DesW.up (by omega) (DesW.up (by omega) (DesW.up (by omega) (DesW.up (by omega) (DesW.up (by omega) (DesW.up (by omega) (DesW.up (by omega) (DesW.up (by omega) hR.2.2.2.2.2.2.1))))))))), (HanW.up (by omega) (HanW.up (by omega) (HanW.up (by omega) (HanW.up (by omega) (HanW.up (by omega) (HanW.up (by omega) (HanW.up (by omega) (HanW.up (by omega) (HanW.hd hR.2.2.2.2.2.2.2.1))))))))), (MonW.up (by omega) (MonW.up (by omega) (MonW.up (by omega) (MonW.up (by omega) (MonW.up (by omega) (MonW.set2 (MonW.set (MonW.up (by omega) (MonW.up (by omega) hR.2.2.2.2.2.2.2.2.1))))))))), (HIn.sell hin_ ht9_ hht_ hok_)⟩⟩)
    · have hns40 : ns = 40 := by have := nlt_le (b := 40) c26 (by omega) (by decide); omega
      exact x_throw hx hb hlt hlocks hout hown (by decide) (hts _ (by decide +kernel)) (hts _ (by decide +kernel)) (fun w hw => hts w (hgIS_ w hw)) ng_IS ot_IS hX hM hS (hl.1.trans hml.symm) dX7_deliver_29 dX7_deliver_32 dX7_deliver_33 dX7_deliver_36 (Nat.le_of_ble_eq_true rfl) (Nat.le_of_ble_eq_true rfl) (Nat.le_of_ble_eq_true rfl) (Nat.le_of_ble_eq_true rfl) (Nat.le_of_ble_eq_true rfl) (Nat.le_of_ble_eq_true rfl) (Or.inr ⟨rfl, by rw [hob_]; exact cd2_2 (ixb hob_).1 (by first | (show (!dlv (rb o9) (on_ o9) fr (oc o9) (owd o9) (obf o9) || decide (ns = 40)) = true; rw [hdl_]; rfl) | (show (!dlv (rb o9) (on_ o9) fr (oc o9) (owd o9) (obf o9) || decide (ns = 40)) = true; rw [decide_eq_true hns40, Bool.or_true]))⟩)
