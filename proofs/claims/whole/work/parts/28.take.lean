theorem SenF.bf4 {ac : Nat → ClassId} {adr : Nat → Nat} {w : Nat → va_E} {no : Nat} {oc on_ : Nat → Nat} {owd : Nat → Nat → Nat} {obf : Nat → Nat → Int32} {o : Nat} {bf : Nat → Int32} (h : SenF ac adr w no oc on_ owd obf) : SenF ac adr (va_up w (23 + 6 * o + 4) (.inl (ac 0, 8, .inl bf))) no oc on_ owd (fun x => if x = o then bf else obf x) := by
  have := h.bf (o := o) (bf := bf)
  rwa [show 27 + 6 * o = 23 + 6 * o + 4 from by omega] at this
theorem DesW.rq {ac : Nat → ClassId} {adr : Nat → Nat} {w : Nat → va_E} {nr : Nat} {rq : Nat → Nat} {nq : Nat} {oq : Nat → Nat} {n2 : Nat} {d2 : Nat → Nat} (hn : n2 ≤ 60) (h : DesW ac adr w nr rq nq oq) : DesW ac adr (va_up (va_up w 17 (.inl (ac 0, 60, .inl (fun j => nI (d2 j))))) 16 (.inr (1, [.ref (adr 17), .int (nI n2)]))) n2 d2 nq oq :=
  ⟨va_up_self _ _ _, by rw [va_up_ne _ _ (by decide)]; exact va_up_self _ _ _, by rw [va_up_ne _ _ (by decide), va_up_ne _ _ (by decide)]; exact h.2.2.1, by rw [va_up_ne _ _ (by decide), va_up_ne _ _ (by decide)]; exact h.2.2.2.1, hn, h.2.2.2.2.2⟩
theorem DesW.oq {ac : Nat → ClassId} {adr : Nat → Nat} {w : Nat → va_E} {nr : Nat} {rq : Nat → Nat} {nq : Nat} {oq : Nat → Nat} {n2 : Nat} {d2 : Nat → Nat} (hn : n2 ≤ 60) (h : DesW ac adr w nr rq nq oq) : DesW ac adr (va_up (va_up w 19 (.inl (ac 0, 60, .inl (fun j => nI (d2 j))))) 18 (.inr (1, [.ref (adr 19), .int (nI n2)]))) nr rq n2 d2 :=
  ⟨by rw [va_up_ne _ _ (by decide), va_up_ne _ _ (by decide)]; exact h.1, by rw [va_up_ne _ _ (by decide), va_up_ne _ _ (by decide)]; exact h.2.1, va_up_self _ _ _, by rw [va_up_ne _ _ (by decide)]; exact va_up_self _ _ _, h.2.2.2.2.1, hn⟩
theorem HanW.hd {ac : Nat → ClassId} {adr : Nat → Nat} {w : Nat → va_E} {no : Nat} {hd hd1 : Nat → Option Nat} (h : HanW ac adr w no hd) : HanW ac adr (va_up w 15 (.inl (ac 3, 4, .inr (.inr (.inr (.inr (href adr hd1))))))) no hd1 :=
  ⟨by rw [va_up_ne _ _ (by decide)]; exact h.1, va_up_self _ _ _, h.2.2⟩
theorem lst_cons {n : Nat} {f : Nat → Nat} (h : 0 < n) : ∃ l, lst n f = f 0 :: l := by
  obtain ⟨k, rfl⟩ : ∃ k, n = k + 1 := ⟨n - 1, by omega⟩
  refine ⟨((List.range k).map Nat.succ).map f, ?_⟩
  unfold lst
  rw [List.range_succ_eq_map]
  rfl
theorem neg1_nI {t : Nat} (h : t < 4) (h2 : (-1 : Int32) = nI t) : False := nI_nm1 (show t < 4 from h) (by decide) h2.symm
theorem HIn.take_r {ns : Nat} {so : Nat → Nat} {nd : Nat} {du : Nat → Nat} {nr : Nat} {rq : Nat → Nat} {nq : Nat} {oq : Nat → Nat} {no : Nat} {rb st : Nat → Int32} {hd : Nat → Option Nat} {t : Nat} {d2 : Nat → Nat} (h : HIn ns so nd du nr rq nq oq no rb st hd) (hn : 0 < nr) (hd2 : lst (nr - 1) d2 = (lst nr rq).eraseIdx 0) : HIn ns so nd du (nr - 1) d2 nq oq no rb (va_up st (rq 0) (nI t)) (va_up hd t (some (rq 0))) := by
  obtain ⟨h1, h2, ⟨h3, h3'⟩, ⟨h4, h4'⟩, h5⟩ := h
  obtain ⟨l, hl⟩ := lst_cons (f := rq) hn
  rw [hl] at hd2 h3 h3'
  have hd2 : lst (nr - 1) d2 = l := hd2
  obtain ⟨h3a, h3b⟩ := List.nodup_cons.mp h3
  have ho := h3' (rq 0) List.mem_cons_self
  refine ⟨fun i hi => ⟨(h1 i hi).1, ?_⟩, h2, ⟨by rw [hd2]; exact h3b, fun x hx => ?_⟩, ⟨h4, fun x hx => ?_⟩, fun t' o' ht' hh' => ?_⟩
  · rw [va_up_ne _ _ (fun e => by have := (h1 i hi).2; rw [e, ho.2.1] at this; exact absurd this (by decide))]
    exact (h1 i hi).2
  · rw [hd2] at hx
    have hx2 := h3' x (List.mem_cons_of_mem _ hx)
    rw [va_up_ne _ _ (fun e => h3a (by rw [← e]; exact hx))]
    exact hx2
  · have hx2 := h4' x hx
    rw [va_up_ne _ _ (fun e => ho.2.2 (by rw [← e]; exact hx2.2.2))]
    exact hx2
  · by_cases e : t' = t
    · subst e
      rw [va_up_self] at hh'
      cases hh'
      rw [va_up_self]
      exact ⟨ho.1, rfl⟩
    · rw [va_up_ne _ _ e] at hh'
      have q := h5 t' o' ht' hh'
      refine ⟨q.1, ?_⟩
      rw [va_up_ne _ _ (fun e2 => by have := q.2; rw [e2, ho.2.1] at this; exact neg1_nI ht' this)]
      exact q.2
theorem HIn.take_o {ns : Nat} {so : Nat → Nat} {nd : Nat} {du : Nat → Nat} {nr : Nat} {rq : Nat → Nat} {nq : Nat} {oq : Nat → Nat} {no : Nat} {rb st : Nat → Int32} {hd : Nat → Option Nat} {t : Nat} {d2 : Nat → Nat} (h : HIn ns so nd du nr rq nq oq no rb st hd) (hn : 0 < nq) (hd2 : lst (nq - 1) d2 = (lst nq oq).eraseIdx 0) : HIn ns so nd du nr rq (nq - 1) d2 no rb (va_up st (oq 0) (nI t)) (va_up hd t (some (oq 0))) := by
  obtain ⟨h1, h2, ⟨h3, h3'⟩, ⟨h4, h4'⟩, h5⟩ := h
  obtain ⟨l, hl⟩ := lst_cons (f := oq) hn
  rw [hl] at hd2 h4 h4'
  have hd2 : lst (nq - 1) d2 = l := hd2
  obtain ⟨h4a, h4b⟩ := List.nodup_cons.mp h4
  have ho := h4' (oq 0) List.mem_cons_self
  refine ⟨fun i hi => ⟨(h1 i hi).1, ?_⟩, h2, ⟨h3, fun x hx => ?_⟩, ⟨by rw [hd2]; exact h4b, fun x hx => ?_⟩, fun t' o' ht' hh' => ?_⟩
  · rw [va_up_ne _ _ (fun e => by have := (h1 i hi).2; rw [e, ho.2.1] at this; exact absurd this (by decide))]
    exact (h1 i hi).2
  · have hx2 := h3' x hx
    rw [va_up_ne _ _ (fun e => hx2.2.2 (by rw [e]; exact ho.2.2))]
    exact hx2
  · rw [hd2] at hx
    have hx2 := h4' x (List.mem_cons_of_mem _ hx)
    rw [va_up_ne _ _ (fun e => h4a (by rw [← e]; exact hx))]
    exact hx2
  · by_cases e : t' = t
    · subst e
      rw [va_up_self] at hh'
      cases hh'
      rw [va_up_self]
      exact ⟨ho.1, rfl⟩
    · rw [va_up_ne _ _ e] at hh'
      have q := h5 t' o' ht' hh'
      refine ⟨q.1, ?_⟩
      rw [va_up_ne _ _ (fun e2 => by have := q.2; rw [e2, ho.2.1] at this; exact neg1_nI ht' this)]
      exact q.2
theorem HIn.back_r {ns : Nat} {so : Nat → Nat} {nd : Nat} {du : Nat → Nat} {nr : Nat} {rq : Nat → Nat} {nq : Nat} {oq : Nat → Nat} {no : Nat} {rb st : Nat → Int32} {hd : Nat → Option Nat} {t o : Nat} {d2 : Nat → Nat} (h : HIn ns so nd du nr rq nq oq no rb st hd) (ht : t < 4) (hh : hd t = some o) (hb : ¬ rb o = 0) (hd2 : lst (nr + 1) d2 = o :: lst nr rq) : HIn ns so nd du (nr + 1) d2 nq oq no rb (va_up st o (-1)) (va_up hd t none) := by
  obtain ⟨h1, h2, ⟨h3, h3'⟩, ⟨h4, h4'⟩, h5⟩ := h
  obtain ⟨q1, q2⟩ := h5 t o ht hh
  refine ⟨fun i hi => ⟨(h1 i hi).1, ?_⟩, h2, ⟨?_, fun x hx => ?_⟩, ⟨h4, fun x hx => ?_⟩, fun t' o' ht' hh' => ?_⟩
  · rw [va_up_ne _ _ (fun e => by have := (h1 i hi).2; rw [e, q2] at this; exact nIt_n2 ht this)]
    exact (h1 i hi).2
  · rw [hd2]
    exact List.nodup_cons.mpr ⟨fun hm => by have := (h3' o hm).2.1; rw [q2] at this; exact neg1_nI ht this.symm, h3⟩
  · rw [hd2] at hx
    by_cases e : x = o
    · subst e; rw [va_up_self]; exact ⟨q1, rfl, hb⟩
    · rw [va_up_ne _ _ e]
      exact h3' x ((List.mem_cons.mp hx).resolve_left e)
  · have hx2 := h4' x hx
    rw [va_up_ne _ _ (fun e => hb (by rw [← e]; exact hx2.2.2))]
    exact hx2
  · by_cases e : t' = t
    · subst e; rw [va_up_self] at hh'; cases hh'
    · rw [va_up_ne _ _ e] at hh'
      have q := h5 t' o' ht' hh'
      refine ⟨q.1, ?_⟩
      rw [va_up_ne _ _ (fun e2 => by have := q.2; rw [e2, q2] at this; exact e ((nI_eq (by omega) (by omega)).mp this).symm)]
      exact q.2
theorem HIn.back_o {ns : Nat} {so : Nat → Nat} {nd : Nat} {du : Nat → Nat} {nr : Nat} {rq : Nat → Nat} {nq : Nat} {oq : Nat → Nat} {no : Nat} {rb st : Nat → Int32} {hd : Nat → Option Nat} {t o : Nat} {d2 : Nat → Nat} (h : HIn ns so nd du nr rq nq oq no rb st hd) (ht : t < 4) (hh : hd t = some o) (hb : rb o = 0) (hd2 : lst (nq + 1) d2 = o :: lst nq oq) : HIn ns so nd du nr rq (nq + 1) d2 no rb (va_up st o (-1)) (va_up hd t none) := by
  obtain ⟨h1, h2, ⟨h3, h3'⟩, ⟨h4, h4'⟩, h5⟩ := h
  obtain ⟨q1, q2⟩ := h5 t o ht hh
  refine ⟨fun i hi => ⟨(h1 i hi).1, ?_⟩, h2, ⟨h3, fun x hx => ?_⟩, ⟨?_, fun x hx => ?_⟩, fun t' o' ht' hh' => ?_⟩
  · rw [va_up_ne _ _ (fun e => by have := (h1 i hi).2; rw [e, q2] at this; exact nIt_n2 ht this)]
    exact (h1 i hi).2
  · have hx2 := h3' x hx
    rw [va_up_ne _ _ (fun e => hx2.2.2 (by rw [e]; exact hb))]
    exact hx2
  · rw [hd2]
    exact List.nodup_cons.mpr ⟨fun hm => by have := (h4' o hm).2.1; rw [q2] at this; exact neg1_nI ht this.symm, h4⟩
  · rw [hd2] at hx
    by_cases e : x = o
    · subst e; rw [va_up_self]; exact ⟨q1, rfl, hb⟩
    · rw [va_up_ne _ _ e]
      exact h4' x ((List.mem_cons.mp hx).resolve_left e)
  · by_cases e : t' = t
    · subst e; rw [va_up_self] at hh'; cases hh'
    · rw [va_up_ne _ _ e] at hh'
      have q := h5 t' o' ht' hh'
      refine ⟨q.1, ?_⟩
      rw [va_up_ne _ _ (fun e2 => by have := q.2; rw [e2, q2] at this; exact e ((nI_eq (by omega) (by omega)).mp this).symm)]
      exact q.2
theorem HIn.room {ns : Nat} {so : Nat → Nat} {nd : Nat} {du : Nat → Nat} {nr : Nat} {rq : Nat → Nat} {nq : Nat} {oq : Nat → Nat} {no : Nat} {rb st : Nat → Int32} {hd : Nat → Option Nat} (h : HIn ns so nd du nr rq nq oq no rb st hd) {o : Nat} (ho : o < no) (hs : ¬ st o = -1) : nr < no ∧ nq < no := by
  obtain ⟨h1, h2, ⟨h3, h3'⟩, ⟨h4, h4'⟩, h5⟩ := h
  have a := nodup_len no (o :: lst nr rq) (List.nodup_cons.mpr ⟨fun q => hs (h3' o q).2.1, h3⟩) (fun x hx => (List.mem_cons.mp hx).elim (fun e => e ▸ ho) (fun q => (h3' x q).1))
  have b := nodup_len no (o :: lst nq oq) (List.nodup_cons.mpr ⟨fun q => hs (h4' o q).2.1, h4⟩) (fun x hx => (List.mem_cons.mp hx).elim (fun e => e ▸ ho) (fun q => (h4' x q).1))
  rw [List.length_cons, lst_len] at a b
  omega
set_option maxHeartbeats 4000000 in
set_option maxRecDepth 100000 in
/-- take -/
theorem k_X7_take (l : Launch) (D : va_G) (ac : Nat → ClassId) (H : Heap) (hlt : l.stackTraces = false) (A : Nat → Prop) (N : Nat) (adr : Nat → Nat) (w : Nat → va_E) (hM : MW D A N adr w H) (dl : Nat) (dw : Nat → Nat) (fs : Nat → Int32) (fr : Nat → Int32) (ft : Nat → Nat) (ns : Nat) (so : Nat → Nat) (hv : Nat → Int64) (nd : Nat) (du : Nat → Nat) (T : Nat → Int32) (nr : Nat) (rq : Nat → Nat) (nq : Nat) (oq : Nat → Nat) (pd : Nat → Int32) (er : Nat → Int32) (no : Nat) (oc : Nat → Nat) (on_ : Nat → Nat) (owd : Nat → Nat → Nat) (obf : Nat → Nat → Int32) (rb : Nat → Int32) (st : Nat → Int32) (mt : Nat → Int32) (co : Nat → Int32) (py : Nat → Int32) (hd : Nat → Option Nat) (le : Int32) (pr : Int32) (ra : Int32) (hR : HR ac adr w dl dw fs fr ft ns so hv nd du T nr rq nq oq pd er no oc on_ owd obf rb st mt co py hd le pr ra) (hN : 22 + 6 * no ≤ N) (x : Int32) : WXi l yX7_take wsX7_take ({ frames := 7, cells := 2, slots := 12, locals := 177 }) [.ref (adr 0), .int x] D ac H A N adr w (fun r w1 => ∃ k, k < 4 ∧ x = nI k ∧ hd k = none ∧ ((r = -1 ∧ nr = 0 ∧ nq = 0 ∧ w1 = w ∧ True) ∨ (0 < nr ∧ r = nI (rq 0) ∧ ∃ T1 d2, lst (nr - 1) d2 = (lst nr rq).eraseIdx 0 ∧ HR ac adr w1 dl dw fs fr ft ns so hv nd du T1 (nr - 1) d2 nq oq pd er no oc on_ owd (fun x => if x = (rq 0) then lndO on_ owd obf ns so (rq 0) (bstV nd du on_ owd so oc ns (shw hv (owd (rq 0)) (on_ (rq 0))) (on_ (rq 0)) (fun j => nI (owd (rq 0) j)) (nI (oc (rq 0))) le) else obf x) rb (va_up st (rq 0) (nI k)) (va_up mt (rq 0) (bstV nd du on_ owd so oc ns (shw hv (owd (rq 0)) (on_ (rq 0))) (on_ (rq 0)) (fun j => nI (owd (rq 0) j)) (nI (oc (rq 0))) le)) (va_up co (rq 0) (cstI (nI (on_ (rq 0))) pr (shO (on_ (rq 0)) (fun j => nI (owd (rq 0) j)) on_ owd ns so (bstV nd du on_ owd so oc ns (shw hv (owd (rq 0)) (on_ (rq 0))) (on_ (rq 0)) (fun j => nI (owd (rq 0) j)) (nI (oc (rq 0))) le)) (rb (rq 0)))) (va_up py (rq 0) (nI (on_ (rq 0)) * ra * (shO (on_ (rq 0)) (fun j => nI (owd (rq 0) j)) on_ owd ns so (bstV nd du on_ owd so oc ns (shw hv (owd (rq 0)) (on_ (rq 0))) (on_ (rq 0)) (fun j => nI (owd (rq 0) j)) (nI (oc (rq 0))) le)) / 100)) (va_up hd k (some (rq 0))) le pr ra) ∨ (nr = 0 ∧ 0 < nq ∧ r = nI (oq 0) ∧ ∃ T1 d2, lst (nq - 1) d2 = (lst nq oq).eraseIdx 0 ∧ HR ac adr w1 dl dw fs fr ft ns so hv nd du T1 nr rq (nq - 1) d2 pd er no oc on_ owd (fun x => if x = (oq 0) then lndO on_ owd obf ns so (oq 0) (bstV nd du on_ owd so oc ns (shw hv (owd (oq 0)) (on_ (oq 0))) (on_ (oq 0)) (fun j => nI (owd (oq 0) j)) (nI (oc (oq 0))) le) else obf x) rb (va_up st (oq 0) (nI k)) (va_up mt (oq 0) (bstV nd du on_ owd so oc ns (shw hv (owd (oq 0)) (on_ (oq 0))) (on_ (oq 0)) (fun j => nI (owd (oq 0) j)) (nI (oc (oq 0))) le)) (va_up co (oq 0) (cstI (nI (on_ (oq 0))) pr (shO (on_ (oq 0)) (fun j => nI (owd (oq 0) j)) on_ owd ns so (bstV nd du on_ owd so oc ns (shw hv (owd (oq 0)) (on_ (oq 0))) (on_ (oq 0)) (fun j => nI (owd (oq 0) j)) (nI (oc (oq 0))) le)) (rb (oq 0)))) (va_up py (oq 0) (nI (on_ (oq 0)) * ra * (shO (on_ (oq 0)) (fun j => nI (owd (oq 0) j)) on_ owd ns so (bstV nd du on_ owd so oc ns (shw hv (owd (oq 0)) (on_ (oq 0))) (on_ (oq 0)) (fun j => nI (owd (oq 0) j)) (nI (oc (oq 0))) le)) / 100)) (va_up hd k (some (oq 0))) le pr ra))) (XC2 xIA xIS (cd2 (ix x 4).isNone ((ix x 4).bind hd).isSome)) 2 12 := by
  refine vx_ofW (cc := cX7_take) (maxL := 4) (ret := (some .int)) (by decide) rfl ?_
  intro p e s m args below meth c s₁ B hml hout hv
  obtain ⟨hargs, hsz, hK, hX⟩ := hv
  have hx := B.exec
  have hb := B.bytes
  have hr := B.returns
  have hts := atoms_spec (ws := wsX7_take) B.pre
  have hown : s.vm.findClass RX7 = some m.cls := findClass_of_methodNamed B.named
  have hlocks := B.notSynchronized
  subst hsz
  have inX1_ : ∀ w ∈ wsX10, w ∈ wsX7_take := by decide +kernel
  have inX3_ : ∀ w ∈ wsX30, w ∈ wsX7_take := by decide +kernel
  have inX7_ : ∀ w ∈ wsX70, w ∈ wsX7_take := by decide +kernel
  have hgIS_ : ∀ w ∈ (vx_at0 RX7 77 xIS xNames).filter goodWord, w ∈ wsX7_take := by decide +kernel
  have hS : va_S A s.heap s.heap [] := va_S.rf
  have hl := lv_entry ([.ref (adr 0), .int x]) (n := 4) (Nat.le_of_ble_eq_true rfl)
  have hen := lg_entry_eq m [.ref (adr 0), .int x] 4
  rw [← hargs] at hen
  rw [hen]
  generalize (lg_sl ([.ref (adr 0), .int x]) ++ List.replicate (4 - (lg_sl ([.ref (adr 0), .int x])).length) Slot.unset).toArray = ls at hl ⊢
  have hl : lv_has ls 4 [(0, .ref (adr 0)), (1, .int x)] := hl
  obtain ⟨h0, hdr, hru, hm, hS1, hO1, hde, hha, hmo, hin_⟩ := id hR
  obtain ⟨hns, hnd⟩ := hm.2.2.2.2.2.2.2
  have hso := fun i hi => (hin_.1 i hi).1
  obtain ⟨hnr60, hnq60⟩ := hde.2.2.2.2
  have hno60 := hha.2.2
  refine lv_iload_n hx hb dX7_take_0 rfl (lv_at hl 1 rfl) ?_
  refine x_callv hlocks hout (vx_runS (As := [.int x]) (rest := []) ⟨hx, hb, hml, hown, hts⟩ (k_X7_refuseUnlessTranslator l D ac _ hlt A N adr w hM x) (va_cwS 1 hts gX7_take_X7_refuseUnlessTranslator rfl rfl rfl (by decide +kernel) ⟨(Nat.le_of_ble_eq_true rfl), (Nat.le_of_ble_eq_true rfl)⟩) (pSX hK (hX.at hS)) rfl rfl hl.1 rfl (lv_room (Nat.le_of_ble_eq_true rfl)) dX7_take_1 ⟨(Nat.le_of_ble_eq_true rfl), (Nat.le_of_ble_eq_true rfl)⟩) hS (fun E h => Or.inl ⟨h.1, cd2_1 h.2⟩) (Nat.le_of_ble_eq_true rfl) (Nat.le_of_ble_eq_true rfl) (fun w_2 H locs hw_2 hM hS => ?_)
  obtain ⟨⟨k9, hk_k9, ex_k9⟩, e9_⟩ := hw_2
  obtain rfl := e9_.symm
  subst ex_k9
  refine lv_aload_n hx hb dX7_take_4 rfl (lv_at hl 0 rfl) ?_
  refine lv_iload_n hx hb dX7_take_5 rfl (lv_at hl 1 rfl) ?_
  refine r_callq (va_runV (As := [.int (nI k9)]) (rest := []) ⟨hx, hb, hml, hown, hts⟩ (k_X7_handOf l D ac _ (adr 0) (adr 15) (href adr hd) (.ref (adr 1)) (.ref (adr 3)) (.ref (adr 7)) (.ref (adr 14)) (.ref (adr 16)) (.ref (adr 18)) (.ref (adr 20)) (.ref (adr 21)) (.int (nI no)) (.int le) (.int pr) (.int ra) (hM.cel (by omega) h0) (hM.cel (by omega) hha.2.1) (nI k9)) (cwV 1 hts gX7_take_X7_handOf rfl rfl rfl (by decide +kernel) ⟨Nat.le_of_ble_eq_true rfl, Nat.le_of_ble_eq_true rfl⟩) (pV hK (ci := 7) rfl (hM.cel (by omega) h0)) rfl rfl hl.1 rfl (lv_room (Nat.le_of_ble_eq_true rfl)) dX7_take_6 ⟨Nat.le_of_ble_eq_true rfl, Nat.le_of_ble_eq_true rfl⟩) hS (fun rv_3 locs hrv_3 hS => ?_)
  subst hrv_3
  refine m_topq (show _ = ((ix (nI k9) 4).bind hd).map (fun o => adr (22 + 6 * o)) from hand_eq) ?_
  rcases hi : (ix (nI k9) 4).bind hd with _ | jhi
  · refine m_topn ?_
    have hhn : hd k9 = none := by rw [ix_nI hk_k9 (by decide)] at hi; exact hi
    refine lv_ifnullN (tgt := 20) hx hb dX7_take_9 (by decide) ?_
    refine lv_aload_n hx hb dX7_take_20 rfl (lv_at hl 0 rfl) ?_
    refine m_get (ci := 7) (C := RX7) (T := TX7) (n := 13) (v := .ref (adr 16)) hx hb hts inX7_ hown hK rfl (hM.cel (by omega) h0) 5 (by decide) (hts _ (by decide +kernel)) rfl dX7_take_21 ?_
    refine m_getN (host := RX7) (ci := 1) (C := RX1) (T := TX1) (n := 2) (v := .int (nI nr)) hx hb hts inX1_ hown hK rfl (hM.cel (by omega) hde.1) 1 (by decide) 8 rfl rfl dX7_take_24 ?_
    refine lv_if_le (tgt := 37) hx hb dX7_take_27 (by decide) (fun c27 => ?_) (fun c27 => ?_)
    · have hnr0 : nr = 0 := by have := le_le (b := 0) c27 (by have := hde.2.2.2.2; omega) (by decide); omega
      refine lv_aload_n hx hb dX7_take_37 rfl (lv_at hl 0 rfl) ?_
      refine m_get (ci := 7) (C := RX7) (T := TX7) (n := 13) (v := .ref (adr 18)) hx hb hts inX7_ hown hK rfl (hM.cel (by omega) h0) 6 (by decide) (hts _ (by decide +kernel)) rfl dX7_take_38 ?_
      refine lv_astore_n (lv' := [(2, .ref (adr 18)), (0, .ref (adr 0)), (1, .int (nI k9))]) hx hb dX7_take_41 rfl hl (by decide) rfl (fun ls hl => ?_)
      refine lv_aload_n hx hb dX7_take_42 rfl (lv_at hl 1 rfl) ?_
      refine lv_aload_n hx hb dX7_take_43 rfl (lv_at hl 0 rfl) ?_
      refine lv_iconst (v := 0) hx hb dX7_take_44 (by decide) ?_
      refine r_calli (va_runV (As := [.int 0]) (rest := [.ref (adr 0)]) ⟨hx, hb, hml, hown, hts⟩ (k_X1_at l D ac _ (adr 18) (adr 19) nq (fun j => nI (oq j)) (hM.cel (by omega) hde.2.2.1) (hM.cel (by omega) hde.2.2.2.1) (by have := hde.2.2.2.2; omega) 0) (cwV 1 hts gX7_take_X1_at rfl rfl rfl (by decide +kernel) ⟨Nat.le_of_ble_eq_true rfl, Nat.le_of_ble_eq_true rfl⟩) (pV hK (ci := 1) rfl (hM.cel (by omega) hde.2.2.1)) rfl rfl hl.1 rfl (lv_room (Nat.le_of_ble_eq_true rfl)) dX7_take_45 ⟨Nat.le_of_ble_eq_true rfl, Nat.le_of_ble_eq_true rfl⟩) hS (fun rv_4 locs hrv_4 hS => ?_)
      subst hrv_4
      by_cases hq0 : nq = 0
      · refine m_top (show _ = (-1 : Int32) from by rw [hq0, ix_big (by decide)]; rfl) ?_
        refine r_callq (va_runV (As := [.int (-1)]) (rest := []) ⟨hx, hb, hml, hown, hts⟩ (k_X7_orderNumbered l D ac _ (adr 0) (adr 14) (oref adr no) (.ref (adr 1)) (.ref (adr 3)) (.ref (adr 7)) (.ref (adr 15)) (.ref (adr 16)) (.ref (adr 18)) (.ref (adr 20)) (.ref (adr 21)) (.int (nI no)) (.int le) (.int pr) (.int ra) (hM.cel (by omega) h0) (hM.cel (by omega) hha.1) (-1)) (cwV 1 hts gX7_take_X7_orderNumbered rfl rfl rfl (by decide +kernel) ⟨Nat.le_of_ble_eq_true rfl, Nat.le_of_ble_eq_true rfl⟩) (pV hK (ci := 7) rfl (hM.cel (by omega) h0)) rfl rfl hl.1 rfl (lv_room (Nat.le_of_ble_eq_true rfl)) dX7_take_48 ⟨Nat.le_of_ble_eq_true rfl, Nat.le_of_ble_eq_true rfl⟩) hS (fun rv_5 locs hrv_5 hS => ?_)
        subst hrv_5
        refine m_topq (show _ = (ix (-1) no).map (fun i => adr (22 + 6 * i)) from onum_eq (by have := hha.2.2; omega)) ?_
        refine m_topq (show _ = none from by rw [ix_neg (by decide)]; rfl) ?_
        refine m_topn ?_
        refine lv_astore_nN (lv' := [(3, .null), (2, .ref (adr 18)), (0, .ref (adr 0)), (1, .int (nI k9))]) hx hb dX7_take_51 rfl hl (by decide) rfl (fun ls hl => ?_)
        refine lv_aload_nN hx hb dX7_take_52 rfl (lv_at hl 0 rfl) ?_
        refine lv_ifnonnullN hx hb dX7_take_53 ?_
        refine lv_iconst (v := (-1)) hx hb dX7_take_56 (by decide) ?_
        exact ex_i hx hb hlocks hr dX7_take_57 (Nat.le_of_ble_eq_true rfl) (Nat.le_of_ble_eq_true rfl) hM hS (⟨k9, hk_k9, rfl, hhn, Or.inl ⟨rfl, hnr0, hq0, rfl, trivial⟩⟩)
      · refine m_top (show _ = nI (oq 0) from by rw [show (0 : Int32) = nI 0 from rfl, ix_nI (by omega) (by omega)]; rfl) ?_
        have ho9 := hin_.2.2.2.1.2 (oq 0) (lst_mem (by omega))
        have ho_ : oq 0 < no := ho9.1
        have hlo : ∀ i, i < ns → so i ≠ oq 0 := fun i hi e => by have := (hin_.1 i hi).2; rw [e, ho9.2.1] at this; exact absurd this (by decide)
        have hO_ := hO1 (oq 0) ho_
        refine r_callq (va_runV (As := [.int (nI (oq 0))]) (rest := []) ⟨hx, hb, hml, hown, hts⟩ (k_X7_orderNumbered l D ac _ (adr 0) (adr 14) (oref adr no) (.ref (adr 1)) (.ref (adr 3)) (.ref (adr 7)) (.ref (adr 15)) (.ref (adr 16)) (.ref (adr 18)) (.ref (adr 20)) (.ref (adr 21)) (.int (nI no)) (.int le) (.int pr) (.int ra) (hM.cel (by omega) h0) (hM.cel (by omega) hha.1) (nI (oq 0))) (cwV 1 hts gX7_take_X7_orderNumbered rfl rfl rfl (by decide +kernel) ⟨Nat.le_of_ble_eq_true rfl, Nat.le_of_ble_eq_true rfl⟩) (pV hK (ci := 7) rfl (hM.cel (by omega) h0)) rfl rfl hl.1 rfl (lv_room (Nat.le_of_ble_eq_true rfl)) dX7_take_48 ⟨Nat.le_of_ble_eq_true rfl, Nat.le_of_ble_eq_true rfl⟩) hS (fun rv_6 locs hrv_6 hS => ?_)
        subst hrv_6
        refine m_topq (show _ = (ix (nI (oq 0)) no).map (fun i => adr (22 + 6 * i)) from onum_eq (by have := hha.2.2; omega)) ?_
        refine m_topq (show _ = some (adr (22 + 6 * oq 0)) from by rw [ix_nI ho_ (by have := hha.2.2; omega)]; rfl) ?_
        refine m_topr ?_
        refine lv_astore_n (lv' := [(3, .ref (adr (22 + 6 * oq 0))), (2, .ref (adr 18)), (0, .ref (adr 0)), (1, .int (nI k9))]) hx hb dX7_take_51 rfl hl (by decide) rfl (fun ls hl => ?_)
        refine lv_aload_n hx hb dX7_take_52 rfl (lv_at hl 0 rfl) ?_
        refine lv_ifnonnull (tgt := 58) hx hb dX7_take_53 (by decide) ?_
        refine lv_aload_n hx hb dX7_take_58 rfl (lv_at hl 1 rfl) ?_
        refine w_callv (va_runV (As := []) (rest := []) ⟨hx, hb, hml, hown, hts⟩ (k_X1_removeFirst l D ac _ A N adr w hM 18 19 nq oq (by omega) (by omega) (by omega) hde.2.2.1 hde.2.2.2.1 (by omega) (by omega)) (cwV 0 hts gX7_take_X1_removeFirst rfl rfl rfl (by decide +kernel) ⟨Nat.le_of_ble_eq_true rfl, Nat.le_of_ble_eq_true rfl⟩) (pV hK (ci := 1) rfl (hM.cel (by omega) hde.2.2.1)) rfl rfl hl.1 rfl (lv_room (Nat.le_of_ble_eq_true rfl)) dX7_take_59 ⟨Nat.le_of_ble_eq_true rfl, Nat.le_of_ble_eq_true rfl⟩) hS (fun w_8 H locs hw_8 hM hS => ?_)
        obtain ⟨d2_, hw_8, hl2_⟩ := hw_8
        have h_9 : w_8 0 = .inr (7, [.ref (adr 1), .ref (adr 3), .ref (adr 7), .ref (adr 14), .ref (adr 15), .ref (adr 16), .ref (adr 18), .ref (adr 20), .ref (adr 21), .int (nI no), .int le, .int pr, .int ra]) := by rw [hw_8, va_up_ne _ _ (by omega), va_up_ne _ _ (by omega)]; exact h0
        have h_10 : w_8 14 = .inl (ac 3, 60, .inr (.inr (.inr (.inr (oref adr no))))) := by rw [hw_8, va_up_ne _ _ (by omega), va_up_ne _ _ (by omega)]; exact hha.1
        have h_11 : w_8 15 = .inl (ac 3, 4, .inr (.inr (.inr (.inr (href adr hd))))) := by rw [hw_8, va_up_ne _ _ (by omega), va_up_ne _ _ (by omega)]; exact hha.2.1
        have h_12 : w_8 16 = .inr (1, [.ref (adr 17), .int (nI nr)]) := by rw [hw_8, va_up_ne _ _ (by omega), va_up_ne _ _ (by omega)]; exact hde.1
        have h_13 : w_8 17 = .inl (ac 0, 60, .inl (fun j => nI (rq j))) := by rw [hw_8, va_up_ne _ _ (by omega), va_up_ne _ _ (by omega)]; exact hde.2.1
        have h_14 : w_8 18 = .inr (1, [.ref (adr 19), .int (nI (nq - 1))]) := by rw [hw_8]; exact va_up_self _ _ _
        have h_15 : w_8 19 = .inl (ac 0, 60, .inl (fun j => nI (d2_ j))) := by rw [hw_8, va_up_ne _ _ (by omega)]; exact va_up_self _ _ _
        have h_16 : w_8 7 = .inr (2, [.ref (adr 8), .ref (adr 9), .ref (adr 10), .ref (adr 12), .int (nI ns)]) := by rw [hw_8, va_up_ne _ _ (by omega), va_up_ne _ _ (by omega)]; exact hm.1
        have h_17 : w_8 8 = .inl (ac 4, 40, .inr (.inr (.inr (.inr (sref adr ns so))))) := by rw [hw_8, va_up_ne _ _ (by omega), va_up_ne _ _ (by omega)]; exact hm.2.1
        have h_18 : w_8 9 = .inl (ac 1, 50, .inr (.inl hv)) := by rw [hw_8, va_up_ne _ _ (by omega), va_up_ne _ _ (by omega)]; exact hm.2.2.1
        have h_19 : w_8 10 = .inr (1, [.ref (adr 11), .int (nI nd)]) := by rw [hw_8, va_up_ne _ _ (by omega), va_up_ne _ _ (by omega)]; exact hm.2.2.2.1
        have h_20 : w_8 11 = .inl (ac 0, 60, .inl (fun j => nI (du j))) := by rw [hw_8, va_up_ne _ _ (by omega), va_up_ne _ _ (by omega)]; exact hm.2.2.2.2.1
        have h_21 : w_8 12 = .inr (0, [.ref (adr 13)]) := by rw [hw_8, va_up_ne _ _ (by omega), va_up_ne _ _ (by omega)]; exact hm.2.2.2.2.2.1
        have h_22 : w_8 13 = .inl (ac 0, 81, .inl T) := by rw [hw_8, va_up_ne _ _ (by omega), va_up_ne _ _ (by omega)]; exact hm.2.2.2.2.2.2.1
        have h_23 : w_8 (22 + 6 * oq 0) = .inr (3, [.int (nI (oq 0)), .int (rb (oq 0)), .ref (adr (23 + 6 * oq 0)), .int (st (oq 0)), .int (mt (oq 0)), .int (co (oq 0)), .int (py (oq 0))]) := by rw [hw_8, va_up_ne _ _ (by omega), va_up_ne _ _ (by omega)]; exact hO_
        have h_24 : SenF ac adr w_8 no oc on_ owd obf := by rw [hw_8]; exact (SenF.up (by omega) (SenF.up (by omega) hS1))
        refine lv_aload_n hx hb dX7_take_62 rfl (lv_at hl 2 rfl) ?_
        refine lv_iload_n hx hb dX7_take_63 rfl (lv_at hl 3 rfl) ?_
        refine lv_aload_n hx hb dX7_take_64 rfl (lv_at hl 0 rfl) ?_
        refine w_callv (va_runV (As := [.int (nI k9), .ref (adr (22 + 6 * oq 0))]) (rest := []) ⟨hx, hb, hml, hown, hts⟩ (k_X7_putInHand_r l D ac _ A N adr w_8 hM (by omega) no hd le pr ra h_9 h_11 (oq 0) (.int (nI (oq 0))) (.int (rb (oq 0))) (.ref (adr (23 + 6 * oq 0))) (.int (st (oq 0))) (.int (mt (oq 0))) (.int (co (oq 0))) (.int (py (oq 0))) (by omega) h_23 k9 (by omega)) (cwV 2 hts gX7_take_X7_putInHand rfl rfl rfl (by decide +kernel) ⟨Nat.le_of_ble_eq_true rfl, Nat.le_of_ble_eq_true rfl⟩) (pV hK (ci := 7) rfl (hM.cel (by omega) h_9)) rfl rfl hl.1 rfl (lv_room (Nat.le_of_ble_eq_true rfl)) dX7_take_65 ⟨Nat.le_of_ble_eq_true rfl, Nat.le_of_ble_eq_true rfl⟩) hS (fun w_26 H locs hw_26 hM hS => ?_)
        have h_27 : w_26 0 = .inr (7, [.ref (adr 1), .ref (adr 3), .ref (adr 7), .ref (adr 14), .ref (adr 15), .ref (adr 16), .ref (adr 18), .ref (adr 20), .ref (adr 21), .int (nI no), .int le, .int pr, .int ra]) := by rw [hw_26, va_up_ne _ _ (by omega)]; exact h_9
        have h_28 : w_26 14 = .inl (ac 3, 60, .inr (.inr (.inr (.inr (oref adr no))))) := by rw [hw_26, va_up_ne _ _ (by omega)]; exact h_10
        have h_29 : w_26 15 = .inl (ac 3, 4, .inr (.inr (.inr (.inr (href adr (va_up hd k9 (some (oq 0)))))))) := by rw [hw_26]; exact va_up_self _ _ _
        have h_30 : w_26 16 = .inr (1, [.ref (adr 17), .int (nI nr)]) := by rw [hw_26, va_up_ne _ _ (by omega)]; exact h_12
        have h_31 : w_26 17 = .inl (ac 0, 60, .inl (fun j => nI (rq j))) := by rw [hw_26, va_up_ne _ _ (by omega)]; exact h_13
        have h_32 : w_26 18 = .inr (1, [.ref (adr 19), .int (nI (nq - 1))]) := by rw [hw_26, va_up_ne _ _ (by omega)]; exact h_14
        have h_33 : w_26 19 = .inl (ac 0, 60, .inl (fun j => nI (d2_ j))) := by rw [hw_26, va_up_ne _ _ (by omega)]; exact h_15
        have h_34 : w_26 7 = .inr (2, [.ref (adr 8), .ref (adr 9), .ref (adr 10), .ref (adr 12), .int (nI ns)]) := by rw [hw_26, va_up_ne _ _ (by omega)]; exact h_16
        have h_35 : w_26 8 = .inl (ac 4, 40, .inr (.inr (.inr (.inr (sref adr ns so))))) := by rw [hw_26, va_up_ne _ _ (by omega)]; exact h_17
        have h_36 : w_26 9 = .inl (ac 1, 50, .inr (.inl hv)) := by rw [hw_26, va_up_ne _ _ (by omega)]; exact h_18
        have h_37 : w_26 10 = .inr (1, [.ref (adr 11), .int (nI nd)]) := by rw [hw_26, va_up_ne _ _ (by omega)]; exact h_19
        have h_38 : w_26 11 = .inl (ac 0, 60, .inl (fun j => nI (du j))) := by rw [hw_26, va_up_ne _ _ (by omega)]; exact h_20
        have h_39 : w_26 12 = .inr (0, [.ref (adr 13)]) := by rw [hw_26, va_up_ne _ _ (by omega)]; exact h_21
        have h_40 : w_26 13 = .inl (ac 0, 81, .inl T) := by rw [hw_26, va_up_ne _ _ (by omega)]; exact h_22
        have h_41 : w_26 (22 + 6 * oq 0) = .inr (3, [.int (nI (oq 0)), .int (rb (oq 0)), .ref (adr (23 + 6 * oq 0)), .int (st (oq 0)), .int (mt (oq 0)), .int (co (oq 0)), .int (py (oq 0))]) := by rw [hw_26, va_up_ne _ _ (by omega)]; exact h_23
        have h_42 : SenF ac adr w_26 no oc on_ owd obf := by rw [hw_26]; exact (SenF.up (by omega) h_24)
        refine lv_aload_n hx hb dX7_take_68 rfl (lv_at hl 0 rfl) ?_
        refine lv_iload_n hx hb dX7_take_69 rfl (lv_at hl 3 rfl) ?_
        refine m_putN (host := RX7) (ci := 3) (C := RX3) (T := TX3) (n := 7) (v := .int (nI k9)) (ty := tyX3 3) hx hb hts inX3_ tyX3 tyX3_ok nmX3 hown hK hM hS rfl (22 + 6 * oq 0) (by have := ho_; omega) h_41 3 (by decide) 24 rfl rfl (by decide +kernel) rfl rfl (Nat.le_of_ble_eq_true rfl) dX7_take_70 (fun H locs hM hS => ?_)
        have hM : MW D A N adr (va_up w_26 (22 + 6 * oq 0) (.inr (3, [.int (nI (oq 0)), .int (rb (oq 0)), .ref (adr (23 + 6 * oq 0)), .int (nI k9), .int (mt (oq 0)), .int (co (oq 0)), .int (py (oq 0))]))) H := hM
        obtain ⟨w_43, ew_43⟩ : ∃ z9_, z9_ = va_up w_26 (22 + 6 * oq 0) (.inr (3, [.int (nI (oq 0)), .int (rb (oq 0)), .ref (adr (23 + 6 * oq 0)), .int (nI k9), .int (mt (oq 0)), .int (co (oq 0)), .int (py (oq 0))])) := ⟨_, rfl⟩
        rw [← ew_43] at hM
        have h_44 : w_43 0 = .inr (7, [.ref (adr 1), .ref (adr 3), .ref (adr 7), .ref (adr 14), .ref (adr 15), .ref (adr 16), .ref (adr 18), .ref (adr 20), .ref (adr 21), .int (nI no), .int le, .int pr, .int ra]) := by rw [ew_43, va_up_ne _ _ (by omega)]; exact h_27
        have h_45 : w_43 14 = .inl (ac 3, 60, .inr (.inr (.inr (.inr (oref adr no))))) := by rw [ew_43, va_up_ne _ _ (by omega)]; exact h_28
        have h_46 : w_43 15 = .inl (ac 3, 4, .inr (.inr (.inr (.inr (href adr (va_up hd k9 (some (oq 0)))))))) := by rw [ew_43, va_up_ne _ _ (by omega)]; exact h_29
        have h_47 : w_43 16 = .inr (1, [.ref (adr 17), .int (nI nr)]) := by rw [ew_43, va_up_ne _ _ (by omega)]; exact h_30
        have h_48 : w_43 17 = .inl (ac 0, 60, .inl (fun j => nI (rq j))) := by rw [ew_43, va_up_ne _ _ (by omega)]; exact h_31
        have h_49 : w_43 18 = .inr (1, [.ref (adr 19), .int (nI (nq - 1))]) := by rw [ew_43, va_up_ne _ _ (by omega)]; exact h_32
        have h_50 : w_43 19 = .inl (ac 0, 60, .inl (fun j => nI (d2_ j))) := by rw [ew_43, va_up_ne _ _ (by omega)]; exact h_33
        have h_51 : w_43 7 = .inr (2, [.ref (adr 8), .ref (adr 9), .ref (adr 10), .ref (adr 12), .int (nI ns)]) := by rw [ew_43, va_up_ne _ _ (by omega)]; exact h_34
        have h_52 : w_43 8 = .inl (ac 4, 40, .inr (.inr (.inr (.inr (sref adr ns so))))) := by rw [ew_43, va_up_ne _ _ (by omega)]; exact h_35
        have h_53 : w_43 9 = .inl (ac 1, 50, .inr (.inl hv)) := by rw [ew_43, va_up_ne _ _ (by omega)]; exact h_36
        have h_54 : w_43 10 = .inr (1, [.ref (adr 11), .int (nI nd)]) := by rw [ew_43, va_up_ne _ _ (by omega)]; exact h_37
        have h_55 : w_43 11 = .inl (ac 0, 60, .inl (fun j => nI (du j))) := by rw [ew_43, va_up_ne _ _ (by omega)]; exact h_38
        have h_56 : w_43 12 = .inr (0, [.ref (adr 13)]) := by rw [ew_43, va_up_ne _ _ (by omega)]; exact h_39
        have h_57 : w_43 13 = .inl (ac 0, 81, .inl T) := by rw [ew_43, va_up_ne _ _ (by omega)]; exact h_40
        have h_58 : w_43 (22 + 6 * oq 0) = .inr (3, [.int (nI (oq 0)), .int (rb (oq 0)), .ref (adr (23 + 6 * oq 0)), .int (nI k9), .int (mt (oq 0)), .int (co (oq 0)), .int (py (oq 0))]) := by rw [ew_43]; exact va_up_self _ _ _
        have h_59 : SenF ac adr w_43 no oc on_ owd obf := by rw [ew_43]; exact SenF.up (by omega) h_42
        refine lv_aload_n hx hb dX7_take_73 rfl (lv_at hl 2 rfl) ?_
        refine lv_aload_n hx hb dX7_take_74 rfl (lv_at hl 0 rfl) ?_
        refine w_callv (va_runV (As := [.ref (adr (22 + 6 * oq 0))]) (rest := []) ⟨hx, hb, hml, hown, hts⟩ (k_X7_begin l D ac _ A N adr w_43 hM no oc on_ owd obf ns so hv nd du T (by omega) h_59 ⟨h_51, h_52, h_53, h_54, h_55, h_56, h_57, hm.2.2.2.2.2.2.2⟩ hso le pr ra h_44 (oq 0) (rb (oq 0)) (nI k9) (mt (oq 0)) (co (oq 0)) (py (oq 0)) ho_ hlo h_58) (cwV 1 hts gX7_take_X7_begin rfl rfl rfl (by decide +kernel) ⟨Nat.le_of_ble_eq_true rfl, Nat.le_of_ble_eq_true rfl⟩) (pV hK (ci := 7) rfl (hM.cel (by omega) h_44)) rfl rfl hl.1 rfl (lv_room (Nat.le_of_ble_eq_true rfl)) dX7_take_75 ⟨Nat.le_of_ble_eq_true rfl, Nat.le_of_ble_eq_true rfl⟩) hS (fun w_61 H locs hw_61 hM hS => ?_)
        obtain ⟨T_62, hw_61⟩ := hw_61
        have h_63 : w_61 13 = .inl (ac 0, 81, .inl T_62) := by rw [hw_61, va_up_ne _ _ (by omega), va_up_ne _ _ (by omega)]; exact va_up_self _ _ _
        have h_64 : w_61 (22 + 6 * oq 0) = .inr (3, [.int (nI (oq 0)), .int (rb (oq 0)), .ref (adr (23 + 6 * oq 0)), .int (nI k9), .int (bstV nd du on_ owd so oc ns (shw hv (owd (oq 0)) (on_ (oq 0))) (on_ (oq 0)) (fun j => nI (owd (oq 0) j)) (nI (oc (oq 0))) le), .int (cstI (nI (on_ (oq 0))) pr (shO (on_ (oq 0)) (fun j => nI (owd (oq 0) j)) on_ owd ns so (bstV nd du on_ owd so oc ns (shw hv (owd (oq 0)) (on_ (oq 0))) (on_ (oq 0)) (fun j => nI (owd (oq 0) j)) (nI (oc (oq 0))) le)) (rb (oq 0))), .int (nI (on_ (oq 0)) * ra * (shO (on_ (oq 0)) (fun j => nI (owd (oq 0) j)) on_ owd ns so (bstV nd du on_ owd so oc ns (shw hv (owd (oq 0)) (on_ (oq 0))) (on_ (oq 0)) (fun j => nI (owd (oq 0) j)) (nI (oc (oq 0))) le)) / 100)]) := by rw [hw_61, va_up_ne _ _ (by omega)]; exact va_up_self _ _ _
        refine lv_aload_n hx hb dX7_take_78 rfl (lv_at hl 0 rfl) ?_
        refine m_getN (host := RX7) (ci := 3) (C := RX3) (T := TX3) (n := 7) (v := .int (nI (oq 0))) hx hb hts inX3_ hown hK rfl (hM.cel (by have := ho_; omega) h_64) 0 (by decide) 21 rfl rfl dX7_take_79 ?_
        exact ex_i hx hb hlocks hr dX7_take_82 (Nat.le_of_ble_eq_true rfl) (Nat.le_of_ble_eq_true rfl) hM hS (⟨k9, hk_k9, rfl, hhn, Or.inr (Or.inr ⟨(by omega), (by omega), rfl, T_62, d2_, hl2_, by rw [hw_61, ew_43, hw_26, hw_8]; exact ⟨(TGW.up (by omega) (TGW.up (by omega) (TGW.up (by omega) (TGW.up (by omega) (TGW.up (by omega) (TGW.up (by omega) (TGW.up (by omega) hR.1))))))), (DraW.up (by omega) (DraW.up (by omega) (DraW.up (by omega) (DraW.up (by omega) (DraW.up (by omega) (DraW.up (by omega) (DraW.up (by omega) hR.2.1))))))), (RulW.up (by omega) (RulW.up (by omega) (RulW.up (by omega) (RulW.up (by omega) (RulW.up (by omega) (RulW.up (by omega) (RulW.up (by omega) hR.2.2.1))))))), (MemW.up (by omega) (MemW.up (by omega) (MemW.tab (MemW.up (by omega) (MemW.up (by omega) (MemW.up (by omega) (MemW.up (by omega) hR.2.2.2.1))))))), (SenF.bf4 (SenF.up (by omega) (SenF.up (by omega) (SenF.up (by omega) (SenF.up (by omega) (SenF.up (by omega) (SenF.up (by omega) hR.2.2.2.2.1))))))), (OrdF.up (by omega) (OrdF.set (OrdF.up (by omega) (OrdF.set (OrdF.up (by omega) (OrdF.up (by omega) (OrdF.up (by omega) hR.2.2.2.2.2.1))) rfl (va_up_same rfl).symm (va_up_same rfl).symm (va_up_same rfl).symm)) va_up_up.symm rfl rfl rfl)), (DesW.up (by omega) (DesW.up (by omega) (DesW.up (by omega) (DesW.up (by omega) (DesW.up (by omega) (DesW.oq (by have := hde.2.2.2.2; omega) hR.2.2.2.2.2.2.1)))))), (HanW.up (by omega) (HanW.up (by omega) (HanW.up (by omega) (HanW.up (by omega) (HanW.hd (HanW.up (by omega) (HanW.up (by omega) hR.2.2.2.2.2.2.2.1))))))), (MonW.up (by omega) (MonW.up (by omega) (MonW.up (by omega) (MonW.up (by omega) (MonW.up (by omega) (MonW.up (by omega) (MonW.up (by omega) hR.2.2.2.2.2.2.2.2.1))))))), (HIn.take_o hin_ (by omega) hl2_)⟩⟩)⟩)
    · have hnr0 : 0 < nr := Nat.pos_of_ne_zero (fun e => by rw [e] at c27; exact c27 (by decide))
      refine lv_aload_n hx hb dX7_take_30 rfl (lv_at hl 0 rfl) ?_
      refine m_get (ci := 7) (C := RX7) (T := TX7) (n := 13) (v := .ref (adr 16)) hx hb hts inX7_ hown hK rfl (hM.cel (by omega) h0) 5 (by decide) (hts _ (by decide +kernel)) rfl dX7_take_31 ?_
      refine lv_goto (tgt := 41) hx hb dX7_take_34 (by decide) ?_
      refine lv_astore_n (lv' := [(2, .ref (adr 16)), (0, .ref (adr 0)), (1, .int (nI k9))]) hx hb dX7_take_41 rfl hl (by decide) rfl (fun ls hl => ?_)
      refine lv_aload_n hx hb dX7_take_42 rfl (lv_at hl 1 rfl) ?_
      refine lv_aload_n hx hb dX7_take_43 rfl (lv_at hl 0 rfl) ?_
      refine lv_iconst (v := 0) hx hb dX7_take_44 (by decide) ?_
      refine r_calli (va_runV (As := [.int 0]) (rest := [.ref (adr 0)]) ⟨hx, hb, hml, hown, hts⟩ (k_X1_at l D ac _ (adr 16) (adr 17) nr (fun j => nI (rq j)) (hM.cel (by omega) hde.1) (hM.cel (by omega) hde.2.1) (by have := hde.2.2.2.2; omega) 0) (cwV 1 hts gX7_take_X1_at rfl rfl rfl (by decide +kernel) ⟨Nat.le_of_ble_eq_true rfl, Nat.le_of_ble_eq_true rfl⟩) (pV hK (ci := 1) rfl (hM.cel (by omega) hde.1)) rfl rfl hl.1 rfl (lv_room (Nat.le_of_ble_eq_true rfl)) dX7_take_45 ⟨Nat.le_of_ble_eq_true rfl, Nat.le_of_ble_eq_true rfl⟩) hS (fun rv_65 locs hrv_65 hS => ?_)
      subst hrv_65
      refine m_top (show _ = nI (rq 0) from by rw [show (0 : Int32) = nI 0 from rfl, ix_nI (by omega) (by omega)]; rfl) ?_
      have ho9 := hin_.2.2.1.2 (rq 0) (lst_mem (by omega))
      have ho_ : rq 0 < no := ho9.1
      have hlo : ∀ i, i < ns → so i ≠ rq 0 := fun i hi e => by have := (hin_.1 i hi).2; rw [e, ho9.2.1] at this; exact absurd this (by decide)
      have hO_ := hO1 (rq 0) ho_
      refine r_callq (va_runV (As := [.int (nI (rq 0))]) (rest := []) ⟨hx, hb, hml, hown, hts⟩ (k_X7_orderNumbered l D ac _ (adr 0) (adr 14) (oref adr no) (.ref (adr 1)) (.ref (adr 3)) (.ref (adr 7)) (.ref (adr 15)) (.ref (adr 16)) (.ref (adr 18)) (.ref (adr 20)) (.ref (adr 21)) (.int (nI no)) (.int le) (.int pr) (.int ra) (hM.cel (by omega) h0) (hM.cel (by omega) hha.1) (nI (rq 0))) (cwV 1 hts gX7_take_X7_orderNumbered rfl rfl rfl (by decide +kernel) ⟨Nat.le_of_ble_eq_true rfl, Nat.le_of_ble_eq_true rfl⟩) (pV hK (ci := 7) rfl (hM.cel (by omega) h0)) rfl rfl hl.1 rfl (lv_room (Nat.le_of_ble_eq_true rfl)) dX7_take_48 ⟨Nat.le_of_ble_eq_true rfl, Nat.le_of_ble_eq_true rfl⟩) hS (fun rv_66 locs hrv_66 hS => ?_)
      subst hrv_66
      refine m_topq (show _ = (ix (nI (rq 0)) no).map (fun i => adr (22 + 6 * i)) from onum_eq (by have := hha.2.2; omega)) ?_
      refine m_topq (show _ = some (adr (22 + 6 * rq 0)) from by rw [ix_nI ho_ (by have := hha.2.2; omega)]; rfl) ?_
      refine m_topr ?_
      refine lv_astore_n (lv' := [(3, .ref (adr (22 + 6 * rq 0))), (2, .ref (adr 16)), (0, .ref (adr 0)), (1, .int (nI k9))]) hx hb dX7_take_51 rfl hl (by decide) rfl (fun ls hl => ?_)
      refine lv_aload_n hx hb dX7_take_52 rfl (lv_at hl 0 rfl) ?_
      refine lv_ifnonnull (tgt := 58) hx hb dX7_take_53 (by decide) ?_
      refine lv_aload_n hx hb dX7_take_58 rfl (lv_at hl 1 rfl) ?_
      refine w_callv (va_runV (As := []) (rest := []) ⟨hx, hb, hml, hown, hts⟩ (k_X1_removeFirst l D ac _ A N adr w hM 16 17 nr rq (by omega) (by omega) (by omega) hde.1 hde.2.1 (by omega) (by omega)) (cwV 0 hts gX7_take_X1_removeFirst rfl rfl rfl (by decide +kernel) ⟨Nat.le_of_ble_eq_true rfl, Nat.le_of_ble_eq_true rfl⟩) (pV hK (ci := 1) rfl (hM.cel (by omega) hde.1)) rfl rfl hl.1 rfl (lv_room (Nat.le_of_ble_eq_true rfl)) dX7_take_59 ⟨Nat.le_of_ble_eq_true rfl, Nat.le_of_ble_eq_true rfl⟩) hS (fun w_68 H locs hw_68 hM hS => ?_)
      obtain ⟨d2_, hw_68, hl2_⟩ := hw_68
      have h_69 : w_68 0 = .inr (7, [.ref (adr 1), .ref (adr 3), .ref (adr 7), .ref (adr 14), .ref (adr 15), .ref (adr 16), .ref (adr 18), .ref (adr 20), .ref (adr 21), .int (nI no), .int le, .int pr, .int ra]) := by rw [hw_68, va_up_ne _ _ (by omega), va_up_ne _ _ (by omega)]; exact h0
      have h_70 : w_68 14 = .inl (ac 3, 60, .inr (.inr (.inr (.inr (oref adr no))))) := by rw [hw_68, va_up_ne _ _ (by omega), va_up_ne _ _ (by omega)]; exact hha.1
      have h_71 : w_68 15 = .inl (ac 3, 4, .inr (.inr (.inr (.inr (href adr hd))))) := by rw [hw_68, va_up_ne _ _ (by omega), va_up_ne _ _ (by omega)]; exact hha.2.1
      have h_72 : w_68 16 = .inr (1, [.ref (adr 17), .int (nI (nr - 1))]) := by rw [hw_68]; exact va_up_self _ _ _
      have h_73 : w_68 17 = .inl (ac 0, 60, .inl (fun j => nI (d2_ j))) := by rw [hw_68, va_up_ne _ _ (by omega)]; exact va_up_self _ _ _
      have h_74 : w_68 18 = .inr (1, [.ref (adr 19), .int (nI nq)]) := by rw [hw_68, va_up_ne _ _ (by omega), va_up_ne _ _ (by omega)]; exact hde.2.2.1
      have h_75 : w_68 19 = .inl (ac 0, 60, .inl (fun j => nI (oq j))) := by rw [hw_68, va_up_ne _ _ (by omega), va_up_ne _ _ (by omega)]; exact hde.2.2.2.1
      have h_76 : w_68 7 = .inr (2, [.ref (adr 8), .ref (adr 9), .ref (adr 10), .ref (adr 12), .int (nI ns)]) := by rw [hw_68, va_up_ne _ _ (by omega), va_up_ne _ _ (by omega)]; exact hm.1
      have h_77 : w_68 8 = .inl (ac 4, 40, .inr (.inr (.inr (.inr (sref adr ns so))))) := by rw [hw_68, va_up_ne _ _ (by omega), va_up_ne _ _ (by omega)]; exact hm.2.1
      have h_78 : w_68 9 = .inl (ac 1, 50, .inr (.inl hv)) := by rw [hw_68, va_up_ne _ _ (by omega), va_up_ne _ _ (by omega)]; exact hm.2.2.1
      have h_79 : w_68 10 = .inr (1, [.ref (adr 11), .int (nI nd)]) := by rw [hw_68, va_up_ne _ _ (by omega), va_up_ne _ _ (by omega)]; exact hm.2.2.2.1
      have h_80 : w_68 11 = .inl (ac 0, 60, .inl (fun j => nI (du j))) := by rw [hw_68, va_up_ne _ _ (by omega), va_up_ne _ _ (by omega)]; exact hm.2.2.2.2.1
      have h_81 : w_68 12 = .inr (0, [.ref (adr 13)]) := by rw [hw_68, va_up_ne _ _ (by omega), va_up_ne _ _ (by omega)]; exact hm.2.2.2.2.2.1
      have h_82 : w_68 13 = .inl (ac 0, 81, .inl T) := by rw [hw_68, va_up_ne _ _ (by omega), va_up_ne _ _ (by omega)]; exact hm.2.2.2.2.2.2.1
      have h_83 : w_68 (22 + 6 * rq 0) = .inr (3, [.int (nI (rq 0)), .int (rb (rq 0)), .ref (adr (23 + 6 * rq 0)), .int (st (rq 0)), .int (mt (rq 0)), .int (co (rq 0)), .int (py (rq 0))]) := by rw [hw_68, va_up_ne _ _ (by omega), va_up_ne _ _ (by omega)]; exact hO_
      have h_84 : SenF ac adr w_68 no oc on_ owd obf := by rw [hw_68]; exact (SenF.up (by omega) (SenF.up (by omega) hS1))
      refine lv_aload_n hx hb dX7_take_62 rfl (lv_at hl 2 rfl) ?_
      refine lv_iload_n hx hb dX7_take_63 rfl (lv_at hl 3 rfl) ?_
      refine lv_aload_n hx hb dX7_take_64 rfl (lv_at hl 0 rfl) ?_
      refine w_callv (va_runV (As := [.int (nI k9), .ref (adr (22 + 6 * rq 0))]) (rest := []) ⟨hx, hb, hml, hown, hts⟩ (k_X7_putInHand_r l D ac _ A N adr w_68 hM (by omega) no hd le pr ra h_69 h_71 (rq 0) (.int (nI (rq 0))) (.int (rb (rq 0))) (.ref (adr (23 + 6 * rq 0))) (.int (st (rq 0))) (.int (mt (rq 0))) (.int (co (rq 0))) (.int (py (rq 0))) (by omega) h_83 k9 (by omega)) (cwV 2 hts gX7_take_X7_putInHand rfl rfl rfl (by decide +kernel) ⟨Nat.le_of_ble_eq_true rfl, Nat.le_of_ble_eq_true rfl⟩) (pV hK (ci := 7) rfl (hM.cel (by omega) h_69)) rfl rfl hl.1 rfl (lv_room (Nat.le_of_ble_eq_true rfl)) dX7_take_65 ⟨Nat.le_of_ble_eq_true rfl, Nat.le_of_ble_eq_true rfl⟩) hS (fun w_86 H locs hw_86 hM hS => ?_)
      have h_87 : w_86 0 = .inr (7, [.ref (adr 1), .ref (adr 3), .ref (adr 7), .ref (adr 14), .ref (adr 15), .ref (adr 16), .ref (adr 18), .ref (adr 20), .ref (adr 21), .int (nI no), .int le, .int pr, .int ra]) := by rw [hw_86, va_up_ne _ _ (by omega)]; exact h_69
      have h_88 : w_86 14 = .inl (ac 3, 60, .inr (.inr (.inr (.inr (oref adr no))))) := by rw [hw_86, va_up_ne _ _ (by omega)]; exact h_70
      have h_89 : w_86 15 = .inl (ac 3, 4, .inr (.inr (.inr (.inr (href adr (va_up hd k9 (some (rq 0)))))))) := by rw [hw_86]; exact va_up_self _ _ _
      have h_90 : w_86 16 = .inr (1, [.ref (adr 17), .int (nI (nr - 1))]) := by rw [hw_86, va_up_ne _ _ (by omega)]; exact h_72
      have h_91 : w_86 17 = .inl (ac 0, 60, .inl (fun j => nI (d2_ j))) := by rw [hw_86, va_up_ne _ _ (by omega)]; exact h_73
      have h_92 : w_86 18 = .inr (1, [.ref (adr 19), .int (nI nq)]) := by rw [hw_86, va_up_ne _ _ (by omega)]; exact h_74
      have h_93 : w_86 19 = .inl (ac 0, 60, .inl (fun j => nI (oq j))) := by rw [hw_86, va_up_ne _ _ (by omega)]; exact h_75
      have h_94 : w_86 7 = .inr (2, [.ref (adr 8), .ref (adr 9), .ref (adr 10), .ref (adr 12), .int (nI ns)]) := by rw [hw_86, va_up_ne _ _ (by omega)]; exact h_76
      have h_95 : w_86 8 = .inl (ac 4, 40, .inr (.inr (.inr (.inr (sref adr ns so))))) := by rw [hw_86, va_up_ne _ _ (by omega)]; exact h_77
      have h_96 : w_86 9 = .inl (ac 1, 50, .inr (.inl hv)) := by rw [hw_86, va_up_ne _ _ (by omega)]; exact h_78
      have h_97 : w_86 10 = .inr (1, [.ref (adr 11), .int (nI nd)]) := by rw [hw_86, va_up_ne _ _ (by omega)]; exact h_79
      have h_98 : w_86 11 = .inl (ac 0, 60, .inl (fun j => nI (du j))) := by rw [hw_86, va_up_ne _ _ (by omega)]; exact h_80
      have h_99 : w_86 12 = .inr (0, [.ref (adr 13)]) := by rw [hw_86, va_up_ne _ _ (by omega)]; exact h_81
      have h_100 : w_86 13 = .inl (ac 0, 81, .inl T) := by rw [hw_86, va_up_ne _ _ (by omega)]; exact h_82
      have h_101 : w_86 (22 + 6 * rq 0) = .inr (3, [.int (nI (rq 0)), .int (rb (rq 0)), .ref (adr (23 + 6 * rq 0)), .int (st (rq 0)), .int (mt (rq 0)), .int (co (rq 0)), .int (py (rq 0))]) := by rw [hw_86, va_up_ne _ _ (by omega)]; exact h_83
      have h_102 : SenF ac adr w_86 no oc on_ owd obf := by rw [hw_86]; exact (SenF.up (by omega) h_84)
      refine lv_aload_n hx hb dX7_take_68 rfl (lv_at hl 0 rfl) ?_
      refine lv_iload_n hx hb dX7_take_69 rfl (lv_at hl 3 rfl) ?_
      refine m_putN (host := RX7) (ci := 3) (C := RX3) (T := TX3) (n := 7) (v := .int (nI k9)) (ty := tyX3 3) hx hb hts inX3_ tyX3 tyX3_ok nmX3 hown hK hM hS rfl (22 + 6 * rq 0) (by have := ho_; omega) h_101 3 (by decide) 24 rfl rfl (by decide +kernel) rfl rfl (Nat.le_of_ble_eq_true rfl) dX7_take_70 (fun H locs hM hS => ?_)
      have hM : MW D A N adr (va_up w_86 (22 + 6 * rq 0) (.inr (3, [.int (nI (rq 0)), .int (rb (rq 0)), .ref (adr (23 + 6 * rq 0)), .int (nI k9), .int (mt (rq 0)), .int (co (rq 0)), .int (py (rq 0))]))) H := hM
      obtain ⟨w_103, ew_103⟩ : ∃ z9_, z9_ = va_up w_86 (22 + 6 * rq 0) (.inr (3, [.int (nI (rq 0)), .int (rb (rq 0)), .ref (adr (23 + 6 * rq 0)), .int (nI k9), .int (mt (rq 0)), .int (co (rq 0)), .int (py (rq 0))])) := ⟨_, rfl⟩
      rw [← ew_103] at hM
      have h_104 : w_103 0 = .inr (7, [.ref (adr 1), .ref (adr 3), .ref (adr 7), .ref (adr 14), .ref (adr 15), .ref (adr 16), .ref (adr 18), .ref (adr 20), .ref (adr 21), .int (nI no), .int le, .int pr, .int ra]) := by rw [ew_103, va_up_ne _ _ (by omega)]; exact h_87
      have h_105 : w_103 14 = .inl (ac 3, 60, .inr (.inr (.inr (.inr (oref adr no))))) := by rw [ew_103, va_up_ne _ _ (by omega)]; exact h_88
      have h_106 : w_103 15 = .inl (ac 3, 4, .inr (.inr (.inr (.inr (href adr (va_up hd k9 (some (rq 0)))))))) := by rw [ew_103, va_up_ne _ _ (by omega)]; exact h_89
      have h_107 : w_103 16 = .inr (1, [.ref (adr 17), .int (nI (nr - 1))]) := by rw [ew_103, va_up_ne _ _ (by omega)]; exact h_90
      have h_108 : w_103 17 = .inl (ac 0, 60, .inl (fun j => nI (d2_ j))) := by rw [ew_103, va_up_ne _ _ (by omega)]; exact h_91
      have h_109 : w_103 18 = .inr (1, [.ref (adr 19), .int (nI nq)]) := by rw [ew_103, va_up_ne _ _ (by omega)]; exact h_92
      have h_110 : w_103 19 = .inl (ac 0, 60, .inl (fun j => nI (oq j))) := by rw [ew_103, va_up_ne _ _ (by omega)]; exact h_93
      have h_111 : w_103 7 = .inr (2, [.ref (adr 8), .ref (adr 9), .ref (adr 10), .ref (adr 12), .int (nI ns)]) := by rw [ew_103, va_up_ne _ _ (by omega)]; exact h_94
      have h_112 : w_103 8 = .inl (ac 4, 40, .inr (.inr (.inr (.inr (sref adr ns so))))) := by rw [ew_103, va_up_ne _ _ (by omega)]; exact h_95
      have h_113 : w_103 9 = .inl (ac 1, 50, .inr (.inl hv)) := by rw [ew_103, va_up_ne _ _ (by omega)]; exact h_96
      have h_114 : w_103 10 = .inr (1, [.ref (adr 11), .int (nI nd)]) := by rw [ew_103, va_up_ne _ _ (by omega)]; exact h_97
      have h_115 : w_103 11 = .inl (ac 0, 60, .inl (fun j => nI (du j))) := by rw [ew_103, va_up_ne _ _ (by omega)]; exact h_98
      have h_116 : w_103 12 = .inr (0, [.ref (adr 13)]) := by rw [ew_103, va_up_ne _ _ (by omega)]; exact h_99
      have h_117 : w_103 13 = .inl (ac 0, 81, .inl T) := by rw [ew_103, va_up_ne _ _ (by omega)]; exact h_100
      have h_118 : w_103 (22 + 6 * rq 0) = .inr (3, [.int (nI (rq 0)), .int (rb (rq 0)), .ref (adr (23 + 6 * rq 0)), .int (nI k9), .int (mt (rq 0)), .int (co (rq 0)), .int (py (rq 0))]) := by rw [ew_103]; exact va_up_self _ _ _
      have h_119 : SenF ac adr w_103 no oc on_ owd obf := by rw [ew_103]; exact SenF.up (by omega) h_102
      refine lv_aload_n hx hb dX7_take_73 rfl (lv_at hl 2 rfl) ?_
      refine lv_aload_n hx hb dX7_take_74 rfl (lv_at hl 0 rfl) ?_
      refine w_callv (va_runV (As := [.ref (adr (22 + 6 * rq 0))]) (rest := []) ⟨hx, hb, hml, hown, hts⟩ (k_X7_begin l D ac _ A N adr w_103 hM no oc on_ owd obf ns so hv nd du T (by omega) h_119 ⟨h_111, h_112, h_113, h_114, h_115, h_116, h_117, hm.2.2.2.2.2.2.2⟩ hso le pr ra h_104 (rq 0) (rb (rq 0)) (nI k9) (mt (rq 0)) (co (rq 0)) (py (rq 0)) ho_ hlo h_118) (cwV 1 hts gX7_take_X7_begin rfl rfl rfl (by decide +kernel) ⟨Nat.le_of_ble_eq_true rfl, Nat.le_of_ble_eq_true rfl⟩) (pV hK (ci := 7) rfl (hM.cel (by omega) h_104)) rfl rfl hl.1 rfl (lv_room (Nat.le_of_ble_eq_true rfl)) dX7_take_75 ⟨Nat.le_of_ble_eq_true rfl, Nat.le_of_ble_eq_true rfl⟩) hS (fun w_121 H locs hw_121 hM hS => ?_)
      obtain ⟨T_122, hw_121⟩ := hw_121
      have h_123 : w_121 13 = .inl (ac 0, 81, .inl T_122) := by rw [hw_121, va_up_ne _ _ (by omega), va_up_ne _ _ (by omega)]; exact va_up_self _ _ _
      have h_124 : w_121 (22 + 6 * rq 0) = .inr (3, [.int (nI (rq 0)), .int (rb (rq 0)), .ref (adr (23 + 6 * rq 0)), .int (nI k9), .int (bstV nd du on_ owd so oc ns (shw hv (owd (rq 0)) (on_ (rq 0))) (on_ (rq 0)) (fun j => nI (owd (rq 0) j)) (nI (oc (rq 0))) le), .int (cstI (nI (on_ (rq 0))) pr (shO (on_ (rq 0)) (fun j => nI (owd (rq 0) j)) on_ owd ns so (bstV nd du on_ owd so oc ns (shw hv (owd (rq 0)) (on_ (rq 0))) (on_ (rq 0)) (fun j => nI (owd (rq 0) j)) (nI (oc (rq 0))) le)) (rb (rq 0))), .int (nI (on_ (rq 0)) * ra * (shO (on_ (rq 0)) (fun j => nI (owd (rq 0) j)) on_ owd ns so (bstV nd du on_ owd so oc ns (shw hv (owd (rq 0)) (on_ (rq 0))) (on_ (rq 0)) (fun j => nI (owd (rq 0) j)) (nI (oc (rq 0))) le)) / 100)]) := by rw [hw_121, va_up_ne _ _ (by omega)]; exact va_up_self _ _ _
      refine lv_aload_n hx hb dX7_take_78 rfl (lv_at hl 0 rfl) ?_
      refine m_getN (host := RX7) (ci := 3) (C := RX3) (T := TX3) (n := 7) (v := .int (nI (rq 0))) hx hb hts inX3_ hown hK rfl (hM.cel (by have := ho_; omega) h_124) 0 (by decide) 21 rfl rfl dX7_take_79 ?_
      exact ex_i hx hb hlocks hr dX7_take_82 (Nat.le_of_ble_eq_true rfl) (Nat.le_of_ble_eq_true rfl) hM hS (⟨k9, hk_k9, rfl, hhn, Or.inr (Or.inl ⟨(by omega), rfl, T_122, d2_, hl2_, by rw [hw_121, ew_103, hw_86, hw_68]; exact ⟨(TGW.up (by omega) (TGW.up (by omega) (TGW.up (by omega) (TGW.up (by omega) (TGW.up (by omega) (TGW.up (by omega) (TGW.up (by omega) hR.1))))))), (DraW.up (by omega) (DraW.up (by omega) (DraW.up (by omega) (DraW.up (by omega) (DraW.up (by omega) (DraW.up (by omega) (DraW.up (by omega) hR.2.1))))))), (RulW.up (by omega) (RulW.up (by omega) (RulW.up (by omega) (RulW.up (by omega) (RulW.up (by omega) (RulW.up (by omega) (RulW.up (by omega) hR.2.2.1))))))), (MemW.up (by omega) (MemW.up (by omega) (MemW.tab (MemW.up (by omega) (MemW.up (by omega) (MemW.up (by omega) (MemW.up (by omega) hR.2.2.2.1))))))), (SenF.bf4 (SenF.up (by omega) (SenF.up (by omega) (SenF.up (by omega) (SenF.up (by omega) (SenF.up (by omega) (SenF.up (by omega) hR.2.2.2.2.1))))))), (OrdF.up (by omega) (OrdF.set (OrdF.up (by omega) (OrdF.set (OrdF.up (by omega) (OrdF.up (by omega) (OrdF.up (by omega) hR.2.2.2.2.2.1))) rfl (va_up_same rfl).symm (va_up_same rfl).symm (va_up_same rfl).symm)) va_up_up.symm rfl rfl rfl)), (DesW.up (by omega) (DesW.up (by omega) (DesW.up (by omega) (DesW.up (by omega) (DesW.up (by omega) (DesW.rq (by have := hde.2.2.2.2; omega) hR.2.2.2.2.2.2.1)))))), (HanW.up (by omega) (HanW.up (by omega) (HanW.up (by omega) (HanW.up (by omega) (HanW.hd (HanW.up (by omega) (HanW.up (by omega) hR.2.2.2.2.2.2.2.1))))))), (MonW.up (by omega) (MonW.up (by omega) (MonW.up (by omega) (MonW.up (by omega) (MonW.up (by omega) (MonW.up (by omega) (MonW.up (by omega) hR.2.2.2.2.2.2.2.2.1))))))), (HIn.take_r hin_ (by omega) hl2_)⟩⟩)⟩)
  · refine m_topr ?_
    refine lv_ifnull hx hb dX7_take_9 ?_
    exact x_throw hx hb hlt hlocks hout hown (by decide) (hts _ (by decide +kernel)) (hts _ (by decide +kernel)) (fun w hw => hts w (hgIS_ w hw)) ng_IS ot_IS hX hM hS (hl.1.trans hml.symm) dX7_take_12 dX7_take_15 dX7_take_16 dX7_take_19 (Nat.le_of_ble_eq_true rfl) (Nat.le_of_ble_eq_true rfl) (Nat.le_of_ble_eq_true rfl) (Nat.le_of_ble_eq_true rfl) (Nat.le_of_ble_eq_true rfl) (Nat.le_of_ble_eq_true rfl) (Or.inr ⟨rfl, cd2_2 (ixs hk_k9 (by decide) rfl) (by first | rfl | (rw [hi]; rfl))⟩)
