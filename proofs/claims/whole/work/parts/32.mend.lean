section MD
variable {fr : Nat → Int32} {ft : Nat → Nat} {cl : Nat} {wd : Nat → Nat} {bf pd : Nat → Int32} {x : Int32} {i : Nat}
/-- what the first i places became by mending -/
def mdB (fr : Nat → Int32) (cl : Nat) (wd : Nat → Nat) (bf : Nat → Int32) (i : Nat) : Nat → Int32 := fun j => if j < i ∧ ast fr cl wd bf j then fr (cl * 50 + wd j) else bf j
def mdC (fr : Nat → Int32) (cl : Nat) (wd : Nat → Nat) (bf : Nat → Int32) : Nat → Nat
  | 0 => 0
  | i + 1 => if ast fr cl wd bf i then mdC fr cl wd bf i + 1 else mdC fr cl wd bf i
def mdP (fr : Nat → Int32) (ft : Nat → Nat) (cl : Nat) (wd : Nat → Nat) (bf : Nat → Int32) (x : Int32) (pd : Nat → Int32) : Nat → (Nat → Int32)
  | 0 => pd
  | i + 1 => if ast fr cl wd bf i then upd (mdP fr ft cl wd bf x pd i) cl (mdP fr ft cl wd bf x pd i cl + mpI (nI (ft (cl * 50 + wd i))) x) else mdP fr ft cl wd bf x pd i
theorem mdB_0 : mdB fr cl wd bf 0 = bf := by
  funext j
  unfold mdB
  rw [if_neg (fun h => Nat.not_lt_zero _ h.1)]
theorem mdB_at : mdB fr cl wd bf i i = bf i := by
  unfold mdB
  rw [if_neg (fun h => Nat.lt_irrefl _ h.1)]
theorem mdB_ast : ast fr cl wd (mdB fr cl wd bf i) i ↔ ast fr cl wd bf i := by
  unfold ast
  rw [mdB_at]
theorem mdB_t (h : ast fr cl wd bf i) : mdB fr cl wd bf (i + 1) = upd (mdB fr cl wd bf i) i (fr (cl * 50 + wd i)) := by
  funext j
  unfold mdB upd
  by_cases e : j = i
  · subst e
    rw [if_pos ⟨Nat.lt_succ_self _, h⟩, if_pos rfl]
  · rw [if_neg e]
    show _ = (if j < i ∧ ast fr cl wd bf j then fr (cl * 50 + wd j) else bf j)
    by_cases e2 : j < i ∧ ast fr cl wd bf j
    · rw [if_pos e2, if_pos ⟨by omega, e2.2⟩]
    · rw [if_neg e2, if_neg (fun q => e2 ⟨by have := q.1; omega, q.2⟩)]
theorem mdB_n (h : ¬ ast fr cl wd bf i) : mdB fr cl wd bf (i + 1) = mdB fr cl wd bf i := by
  funext j
  unfold mdB
  by_cases e : j = i
  · subst e
    rw [if_neg (fun q => h q.2), if_neg (fun q => h q.2)]
  · by_cases e2 : j < i ∧ ast fr cl wd bf j
    · rw [if_pos e2, if_pos ⟨by omega, e2.2⟩]
    · rw [if_neg e2, if_neg (fun q => e2 ⟨by have := q.1; omega, q.2⟩)]
theorem mdC_t (h : ast fr cl wd bf i) : mdC fr cl wd bf (i + 1) = mdC fr cl wd bf i + 1 := if_pos h
theorem mdC_n (h : ¬ ast fr cl wd bf i) : mdC fr cl wd bf (i + 1) = mdC fr cl wd bf i := if_neg h
theorem mdP_t (h : ast fr cl wd bf i) : mdP fr ft cl wd bf x pd (i + 1) = upd (mdP fr ft cl wd bf x pd i) cl (mdP fr ft cl wd bf x pd i cl + mpI (nI (ft (cl * 50 + wd i))) x) := if_pos h
theorem mdP_n (h : ¬ ast fr cl wd bf i) : mdP fr ft cl wd bf x pd (i + 1) = mdP fr ft cl wd bf x pd i := if_neg h
end MD
theorem two_up' {w w1 : Nat → va_E} {k j : Nat} {ek ej : va_E} (hkj : k ≠ j) (h1 : w1 k = ek) (h0 : w1 j = ej) (h : ∀ q, q ≠ k → q ≠ j → w1 q = w q) : w1 = va_up (va_up w k ek) j ej := by
  funext q
  by_cases q1 : q = j
  · subst q1; rw [va_up_self, h0]
  · rw [va_up_ne _ _ q1]
    by_cases q2 : q = k
    · subst q2; rw [va_up_self, h1]
    · rw [va_up_ne _ _ q2, h q q2 q1]
theorem mcd2 {x : Int32} {ns i : Nat} {f : Nat → Bool} (hi : i < ns) (hn : ns < 2 ^ 31) (h : f i = false) : cd2 (ix (nI i) ns).isNone ((ix (nI i) ns).elim true (fun i => !f i)) = 2 := by
  rw [ix_nI hi hn]
  show cd2 false (!f i) = 2
  rw [h]
  rfl
set_option maxHeartbeats 4000000 in
set_option maxRecDepth 100000 in
/-- mend -/
theorem k_X7_mend (l : Launch) (D : va_G) (ac : Nat → ClassId) (H : Heap) (hlt : l.stackTraces = false) (A : Nat → Prop) (N : Nat) (adr : Nat → Nat) (w : Nat → va_E) (hM : MW D A N adr w H) (dl : Nat) (dw : Nat → Nat) (fs : Nat → Int32) (fr : Nat → Int32) (ft : Nat → Nat) (ns : Nat) (so : Nat → Nat) (hv : Nat → Int64) (nd : Nat) (du : Nat → Nat) (T : Nat → Int32) (nr : Nat) (rq : Nat → Nat) (nq : Nat) (oq : Nat → Nat) (pd : Nat → Int32) (er : Nat → Int32) (no : Nat) (oc : Nat → Nat) (on_ : Nat → Nat) (owd : Nat → Nat → Nat) (obf : Nat → Nat → Int32) (rb : Nat → Int32) (st : Nat → Int32) (mt : Nat → Int32) (co : Nat → Int32) (py : Nat → Int32) (hd : Nat → Option Nat) (le : Int32) (pr : Int32) (ra : Int32) (hR : HR ac adr w dl dw fs fr ft ns so hv nd du T nr rq nq oq pd er no oc on_ owd obf rb st mt co py hd le pr ra) (hN : 22 + 6 * no ≤ N) (x : Int32) : WXi l yX7_mend wsX7_mend ({ frames := 7, cells := 2, slots := 12, locals := 113 }) [.ref (adr 0), .int x] D ac H A N adr w (fun r w1 => ∃ i, i < ns ∧ x = nI i ∧ asB fr (oc (so i)) (on_ (so i)) (owd (so i)) (obf (so i)) = true ∧ r = nI (mdC fr (oc (so i)) (owd (so i)) (obf (so i)) (on_ (so i))) ∧ ∃ n2 d2, lst n2 d2 = LD2 (fun i1 => asB fr (oc (so i1)) (on_ (so i1)) (owd (so i1)) ((fun x => if x = so i then mdB fr (oc (so i)) (owd (so i)) (obf (so i)) (on_ (so i)) else obf x) (so i1))) ((lst nd du).filter (fun i1 => asB fr (oc (so i1)) (on_ (so i1)) (owd (so i1)) ((fun x => if x = so i then mdB fr (oc (so i)) (owd (so i)) (obf (so i)) (on_ (so i)) else obf x) (so i1)))) ns ∧ HR ac adr w1 dl dw fs fr ft ns so hv n2 d2 T nr rq nq oq (mdP fr ft (oc (so i)) (owd (so i)) (obf (so i)) (nI i) pd (on_ (so i))) er no oc on_ owd ((fun x => if x = so i then mdB fr (oc (so i)) (owd (so i)) (obf (so i)) (on_ (so i)) else obf x)) rb st mt co py hd le pr ra) (XC2 xIO xIS (cd2 (ix x ns).isNone ((ix x ns).elim true (fun i => !asB fr (oc (so i)) (on_ (so i)) (owd (so i)) (obf (so i)))))) 2 12 := by
  refine vx_ofW (cc := cX7_mend) (maxL := 5) (ret := (some .int)) (by decide) rfl ?_
  intro p e s m args below meth c s₁ B hml hout hv
  obtain ⟨hargs, hsz, hK, hX⟩ := hv
  have hx := B.exec
  have hb := B.bytes
  have hr := B.returns
  have hts := atoms_spec (ws := wsX7_mend) B.pre
  have hown : s.vm.findClass RX7 = some m.cls := findClass_of_methodNamed B.named
  have hlocks := B.notSynchronized
  subst hsz
  have inX4_ : ∀ w ∈ wsX40, w ∈ wsX7_mend := by decide +kernel
  have inX6_ : ∀ w ∈ wsX60, w ∈ wsX7_mend := by decide +kernel
  have inX7_ : ∀ w ∈ wsX70, w ∈ wsX7_mend := by decide +kernel
  have hgIS_ : ∀ w ∈ (vx_at0 RX7 77 xIS xNames).filter goodWord, w ∈ wsX7_mend := by decide +kernel
  have hS : va_S A s.heap s.heap [] := va_S.rf
  have hl := lv_entry ([.ref (adr 0), .int x]) (n := 5) (Nat.le_of_ble_eq_true rfl)
  have hen := lg_entry_eq m [.ref (adr 0), .int x] 5
  rw [← hargs] at hen
  rw [hen]
  generalize (lg_sl ([.ref (adr 0), .int x]) ++ List.replicate (5 - (lg_sl ([.ref (adr 0), .int x])).length) Slot.unset).toArray = ls at hl ⊢
  have hl : lv_has ls 5 [(0, .ref (adr 0)), (1, .int x)] := hl
  obtain ⟨h0, hdr, hru, hm, hS1, hO1, hde, hha, hmo, hin_⟩ := id hR
  obtain ⟨hns, hnd⟩ := hm.2.2.2.2.2.2.2
  have hso := fun i hi => (hin_.1 i hi).1
  obtain ⟨hnr60, hnq60⟩ := hde.2.2.2.2
  have hno60 := hha.2.2
  refine lv_aload_n hx hb dX7_mend_0 rfl (lv_at hl 0 rfl) ?_
  refine lv_iload_n hx hb dX7_mend_1 rfl (lv_at hl 1 rfl) ?_
  refine x_callq hlocks hout (vx_runV (As := [.int x]) (rest := []) ⟨hx, hb, hml, hown, hts⟩ (k_X7_soldSentence l D ac _ hlt A N adr w hM dl dw fs fr ft ns so hv nd du T nr rq nq oq pd er no oc on_ owd obf rb st mt co py hd le pr ra hR hN x) (cwV 1 hts gX7_mend_X7_soldSentence rfl rfl rfl (by decide +kernel) ⟨(Nat.le_of_ble_eq_true rfl), (Nat.le_of_ble_eq_true rfl)⟩) (pVX hK (hX.at hS) (ci := 7) rfl (hM.cel (by omega) h0)) rfl rfl hl.1 rfl (lv_room (Nat.le_of_ble_eq_true rfl)) dX7_mend_2 ⟨(Nat.le_of_ble_eq_true rfl), (Nat.le_of_ble_eq_true rfl)⟩) hS (fun E h => Or.inl ⟨h.1, cd2_1 h.2⟩) (Nat.le_of_ble_eq_true rfl) (Nat.le_of_ble_eq_true rfl) (fun rv_1 w_2 H locs hw_2 hM hS => ?_)
  obtain ⟨i9, hi9_, ex_i9, rfl, e9_⟩ := hw_2
  obtain rfl := e9_.symm
  have ho_ : so i9 < no := (hin_.1 i9 hi9_).1
  have hsn_ := hS1 (so i9) ho_
  obtain ⟨hn0_, hn8_, hcl_, hwd_⟩ := hsn_.2.2.2.2.2
  refine m_topr ?_
  subst ex_i9
  refine lv_astore_n (lv' := [(2, .ref (adr (23 + 6 * so i9))), (0, .ref (adr 0)), (1, .int (nI i9))]) hx hb dX7_mend_5 rfl hl (by decide) rfl (fun ls hl => ?_)
  refine lv_aload_n hx hb dX7_mend_6 rfl (lv_at hl 0 rfl) ?_
  refine lv_aload_n hx hb dX7_mend_7 rfl (lv_at hl 1 rfl) ?_
  refine m_get (ci := 7) (C := RX7) (T := TX7) (n := 13) (v := .ref (adr 3)) hx hb hts inX7_ hown hK rfl (hM.cel (by omega) h0) 1 (by decide) (hts _ (by decide +kernel)) rfl dX7_mend_8 ?_
  refine r_calli (va_runV (As := [.ref (adr 3)]) (rest := []) ⟨hx, hb, hml, hown, hts⟩ (k_X6_firstAstray l D ac _ (adr (23 + 6 * so i9)) (adr (23 + 6 * so i9 + 1)) (adr (23 + 6 * so i9 + 2)) (adr (23 + 6 * so i9 + 3)) (adr (23 + 6 * so i9 + 4)) ((oc (so i9))) ((on_ (so i9))) (fun j => nI (owd (so i9) j)) (obf (so i9)) (owd (so i9)) ⟨(hM.cel (by have := ho_; omega) hsn_.1), (hM.cel (by have := ho_; omega) hsn_.2.1), (hM.cel (by have := ho_; omega) hsn_.2.2.1), (hM.cel (by have := ho_; omega) hsn_.2.2.2.1), (hM.cel (by have := ho_; omega) hsn_.2.2.2.2.1), ⟨hn8_, hcl_, fun j hj => ⟨rfl, hwd_ j hj⟩⟩⟩ (adr 3) (adr 4) (adr 5) (adr 6) fs fr (fun j => nI (ft j)) ⟨(hM.cel (by omega) hru.1), (hM.cel (by omega) hru.2.1), (hM.cel (by omega) hru.2.2.1), (hM.cel (by omega) hru.2.2.2)⟩) (cwV 1 hts gX7_mend_X6_firstAstray rfl rfl rfl (by decide +kernel) ⟨Nat.le_of_ble_eq_true rfl, Nat.le_of_ble_eq_true rfl⟩) (pV hK (ci := 6) rfl (hM.cel (by have := ho_; omega) hsn_.1)) rfl rfl hl.1 rfl (lv_room (Nat.le_of_ble_eq_true rfl)) dX7_mend_11 ⟨Nat.le_of_ble_eq_true rfl, Nat.le_of_ble_eq_true rfl⟩) hS (fun rv_3 locs hrv_3 hS => ?_)
  refine lv_iconst (v := (-1)) hx hb dX7_mend_14 (by decide) ?_
  refine lv_icmp_ne (tgt := 26) hx hb dX7_mend_15 (by decide) (fun c15 => ?_) (fun c15 => ?_)
  · have hasb_ := asB_t hrv_3 c15
    refine fold_W (fun Q0 hQ0 => ?_)
    refine lv_iconst (v := 0) hx hb dX7_mend_26 (by decide) ?_
    refine lv_istore_n (lv' := [(3, .int 0), (2, .ref (adr (23 + 6 * so i9))), (0, .ref (adr 0)), (1, .int (nI i9))]) hx hb dX7_mend_27 rfl hl (by decide) rfl (fun ls hl => ?_)
    refine lv_iconst (v := 0) hx hb dX7_mend_28 (by decide) ?_
    refine lv_istore (lv' := [(4, .int 0), (3, .int 0), (2, .ref (adr (23 + 6 * so i9))), (0, .ref (adr 0)), (1, .int (nI i9))]) hx hb dX7_mend_29 hl (by decide) rfl (fun ls hl => ?_)
    have L31 : ∀ (k9 : Nat) (i : Nat) (hk : on_ (so i9) - i < k9) (hi : i ≤ on_ (so i9)) (wz : Nat → va_E) (z0wz : wz 0 = .inr (7, [.ref (adr 1), .ref (adr 3), .ref (adr 7), .ref (adr 14), .ref (adr 15), .ref (adr 16), .ref (adr 18), .ref (adr 20), .ref (adr 21), .int (nI no), .int le, .int pr, .int ra])) (z1wz : wz 3 = .inr (5, [.ref (adr 4), .ref (adr 5), .ref (adr 6)])) (z2wz : wz 4 = .inl (ac 0, 600, .inl fs)) (z3wz : wz 5 = .inl (ac 0, 200, .inl fr)) (z4wz : wz 6 = .inl (ac 0, 200, .inl (fun j => nI (ft j)))) (z5wz : wz 7 = .inr (2, [.ref (adr 8), .ref (adr 9), .ref (adr 10), .ref (adr 12), .int (nI ns)])) (z6wz : wz 8 = .inl (ac 4, 40, .inr (.inr (.inr (.inr (sref adr ns so)))))) (z7wz : wz 9 = .inl (ac 1, 50, .inr (.inl hv))) (z8wz : wz 10 = .inr (1, [.ref (adr 11), .int (nI nd)])) (z9wz : wz 11 = .inl (ac 0, 60, .inl (fun j => nI (du j)))) (z10wz : wz 12 = .inr (0, [.ref (adr 13)])) (z11wz : wz 13 = .inl (ac 0, 81, .inl T)) (z12wz : wz 20 = .inl (ac 0, 4, .inl (mdP fr ft (oc (so i9)) (owd (so i9)) (obf (so i9)) (nI i9) pd i))) (z13wz : wz (23 + 6 * so i9) = .inr (6, [.int (nI (oc (so i9))), .ref (adr (23 + 6 * so i9 + 1)), .ref (adr (23 + 6 * so i9 + 3))])) (z14wz : wz (23 + 6 * so i9 + 1) = .inr (4, [.ref (adr (23 + 6 * so i9 + 2)), .int (nI (on_ (so i9)))])) (z15wz : wz (23 + 6 * so i9 + 2) = .inl (ac 0, 8, .inl (fun j => nI (owd (so i9) j)))) (z16wz : wz (23 + 6 * so i9 + 3) = .inr (4, [.ref (adr (23 + 6 * so i9 + 4)), .int (nI (on_ (so i9)))])) (z17wz : wz (23 + 6 * so i9 + 4) = .inl (ac 0, 8, .inl (mdB fr (oc (so i9)) (owd (so i9)) (obf (so i9)) i))) (zrwz : ∀ q, q ≠ 20 → q ≠ 23 + 6 * so i9 + 4 → wz q = w q) (H : Heap) (locs : List Loc) (hM : MW D A N adr wz H) (hS : va_S A s.heap H locs) (ls : Array Slot) (hl : lv_has ls 5 [(0, .ref (adr 0)), (1, .int (nI i9)), (2, .ref (adr (23 + 6 * so i9))), (3, .int (nI (mdC fr (oc (so i9)) (owd (so i9)) (obf (so i9)) i))), (4, .int (nI i))]), W p l e (headSpec wsX7_mend ({ frames := 7, cells := 2, slots := 12, locals := 113 })).room s m args below meth c H locs 1 6 Q0 (F0 m 31 ls []) := by
      intro k9
      induction k9 with
      | zero => intro i hk hi wz z0wz z1wz z2wz z3wz z4wz z5wz z6wz z7wz z8wz z9wz z10wz z11wz z12wz z13wz z14wz z15wz z16wz z17wz zrwz H locs hM hS ls hl; exact absurd hk (Nat.not_lt_zero _)
      | succ k9 ih31 =>
        intro i hk hi wz z0wz z1wz z2wz z3wz z4wz z5wz z6wz z7wz z8wz z9wz z10wz z11wz z12wz z13wz z14wz z15wz z16wz z17wz zrwz H locs hM hS ls hl
        refine lv_iload hx hb dX7_mend_31 (lv_at hl 4 rfl) ?_
        refine lv_aload_n hx hb dX7_mend_33 rfl (lv_at hl 2 rfl) ?_
        refine m_getN (host := RX7) (ci := 6) (C := RX6) (T := TX6) (n := 3) (v := .ref (adr (23 + 6 * so i9 + 1))) hx hb hts inX6_ hown hK rfl (hM.cel (by have := ho_; omega) z13wz) 1 (by decide) 18 rfl rfl dX7_mend_34 ?_
        refine m_getN (host := RX7) (ci := 4) (C := RX4) (T := TX4) (n := 2) (v := .int (nI (on_ (so i9)))) hx hb hts inX4_ hown hK rfl (hM.cel (by have := ho_; omega) z14wz) 1 (by decide) 3 rfl rfl dX7_mend_37 ?_
        refine lv_icmp_ge (tgt := 123) hx hb dX7_mend_40 (by decide) (fun c40 => ?_) (fun c40 => ?_)
        · have hin : i = on_ (so i9) := by have := le_le (b := i) c40 (by omega) (by omega); omega
          have ew_ := two_up' (by omega) z12wz z17wz zrwz
          rw [hin] at ew_
          have hS2_ : SenF ac adr wz no oc on_ owd (fun x => if x = so i9 then mdB fr (oc (so i9)) (owd (so i9)) (obf (so i9)) (on_ (so i9)) else obf x) := by rw [ew_]; exact SenF.bf4 (SenF.up (by omega) hS1)
          refine lv_aload_n hx hb dX7_mend_123 rfl (lv_at hl 0 rfl) ?_
          refine m_get (ci := 7) (C := RX7) (T := TX7) (n := 13) (v := .ref (adr 7)) hx hb hts inX7_ hown hK rfl (hM.cel (by omega) z0wz) 2 (by decide) (hts _ (by decide +kernel)) rfl dX7_mend_124 ?_
          refine lv_aload_n hx hb dX7_mend_127 rfl (lv_at hl 0 rfl) ?_
          refine m_get (ci := 7) (C := RX7) (T := TX7) (n := 13) (v := .ref (adr 3)) hx hb hts inX7_ hown hK rfl (hM.cel (by omega) z0wz) 1 (by decide) (hts _ (by decide +kernel)) rfl dX7_mend_128 ?_
          refine w_callv (va_runV (As := [.ref (adr 3)]) (rest := []) ⟨hx, hb, hml, hown, hts⟩ (k_X2_listDue l D ac _ A N adr wz hM no oc on_ owd ((fun x => if x = so i9 then mdB fr (oc (so i9)) (owd (so i9)) (obf (so i9)) (on_ (so i9)) else obf x)) ns so hv nd du T (by omega) hS2_ ⟨z5wz, z6wz, z7wz, z8wz, z9wz, z10wz, z11wz, hm.2.2.2.2.2.2.2⟩ hso fs fr ft ⟨z1wz, z2wz, z3wz, z4wz⟩ (hin_.2.1.1) (hin_.2.1.2)) (cwV 1 hts gX7_mend_X2_listDue rfl rfl rfl (by decide +kernel) ⟨Nat.le_of_ble_eq_true rfl, Nat.le_of_ble_eq_true rfl⟩) (pV hK (ci := 2) rfl (hM.cel (by omega) z5wz)) rfl rfl hl.1 rfl (lv_room (Nat.le_of_ble_eq_true rfl)) dX7_mend_131 ⟨Nat.le_of_ble_eq_true rfl, Nat.le_of_ble_eq_true rfl⟩) hS (fun w_5 H locs hw_5 hM hS => ?_)
          obtain ⟨n2_, d2_, hw_5, hl2_⟩ := hw_5
          have h_6 : w_5 0 = .inr (7, [.ref (adr 1), .ref (adr 3), .ref (adr 7), .ref (adr 14), .ref (adr 15), .ref (adr 16), .ref (adr 18), .ref (adr 20), .ref (adr 21), .int (nI no), .int le, .int pr, .int ra]) := by rw [hw_5, va_up_ne _ _ (by omega), va_up_ne _ _ (by omega)]; exact z0wz
          have h_7 : w_5 3 = .inr (5, [.ref (adr 4), .ref (adr 5), .ref (adr 6)]) := by rw [hw_5, va_up_ne _ _ (by omega), va_up_ne _ _ (by omega)]; exact z1wz
          have h_8 : w_5 4 = .inl (ac 0, 600, .inl fs) := by rw [hw_5, va_up_ne _ _ (by omega), va_up_ne _ _ (by omega)]; exact z2wz
          have h_9 : w_5 5 = .inl (ac 0, 200, .inl fr) := by rw [hw_5, va_up_ne _ _ (by omega), va_up_ne _ _ (by omega)]; exact z3wz
          have h_10 : w_5 6 = .inl (ac 0, 200, .inl (fun j => nI (ft j))) := by rw [hw_5, va_up_ne _ _ (by omega), va_up_ne _ _ (by omega)]; exact z4wz
          have h_11 : w_5 20 = .inl (ac 0, 4, .inl (mdP fr ft (oc (so i9)) (owd (so i9)) (obf (so i9)) (nI i9) pd i)) := by rw [hw_5, va_up_ne _ _ (by omega), va_up_ne _ _ (by omega)]; exact z12wz
          have h_12 : w_5 7 = .inr (2, [.ref (adr 8), .ref (adr 9), .ref (adr 10), .ref (adr 12), .int (nI ns)]) := by rw [hw_5, va_up_ne _ _ (by omega), va_up_ne _ _ (by omega)]; exact z5wz
          have h_13 : w_5 8 = .inl (ac 4, 40, .inr (.inr (.inr (.inr (sref adr ns so))))) := by rw [hw_5, va_up_ne _ _ (by omega), va_up_ne _ _ (by omega)]; exact z6wz
          have h_14 : w_5 9 = .inl (ac 1, 50, .inr (.inl hv)) := by rw [hw_5, va_up_ne _ _ (by omega), va_up_ne _ _ (by omega)]; exact z7wz
          have h_15 : w_5 10 = .inr (1, [.ref (adr 11), .int (nI n2_)]) := by rw [hw_5]; exact va_up_self _ _ _
          have h_16 : w_5 11 = .inl (ac 0, 60, .inl (fun j => nI (d2_ j))) := by rw [hw_5, va_up_ne _ _ (by omega)]; exact va_up_self _ _ _
          have h_17 : w_5 12 = .inr (0, [.ref (adr 13)]) := by rw [hw_5, va_up_ne _ _ (by omega), va_up_ne _ _ (by omega)]; exact z10wz
          have h_18 : w_5 13 = .inl (ac 0, 81, .inl T) := by rw [hw_5, va_up_ne _ _ (by omega), va_up_ne _ _ (by omega)]; exact z11wz
          have h_19 : w_5 (23 + 6 * so i9) = .inr (6, [.int (nI (oc (so i9))), .ref (adr (23 + 6 * so i9 + 1)), .ref (adr (23 + 6 * so i9 + 3))]) := by rw [hw_5, va_up_ne _ _ (by omega), va_up_ne _ _ (by omega)]; exact z13wz
          have h_20 : w_5 (23 + 6 * so i9 + 1) = .inr (4, [.ref (adr (23 + 6 * so i9 + 2)), .int (nI (on_ (so i9)))]) := by rw [hw_5, va_up_ne _ _ (by omega), va_up_ne _ _ (by omega)]; exact z14wz
          have h_21 : w_5 (23 + 6 * so i9 + 2) = .inl (ac 0, 8, .inl (fun j => nI (owd (so i9) j))) := by rw [hw_5, va_up_ne _ _ (by omega), va_up_ne _ _ (by omega)]; exact z15wz
          have h_22 : w_5 (23 + 6 * so i9 + 3) = .inr (4, [.ref (adr (23 + 6 * so i9 + 4)), .int (nI (on_ (so i9)))]) := by rw [hw_5, va_up_ne _ _ (by omega), va_up_ne _ _ (by omega)]; exact z16wz
          have h_23 : w_5 (23 + 6 * so i9 + 4) = .inl (ac 0, 8, .inl (mdB fr (oc (so i9)) (owd (so i9)) (obf (so i9)) i)) := by rw [hw_5, va_up_ne _ _ (by omega), va_up_ne _ _ (by omega)]; exact z17wz
          have h_24 : SenF ac adr w_5 no oc on_ owd (fun x => if x = so i9 then mdB fr (oc (so i9)) (owd (so i9)) (obf (so i9)) (on_ (so i9)) else obf x) := by rw [hw_5]; exact (SenF.up (by omega) (SenF.up (by omega) hS2_))
          have hok_ := ld_ok hin_.2.1.1 hin_.2.1.2 hl2_
          refine lv_iload_n hx hb dX7_mend_134 rfl (lv_at hl 3 rfl) ?_
          rw [hQ0]
          exact ex_i hx hb hlocks hr dX7_mend_135 (Nat.le_of_ble_eq_true rfl) (Nat.le_of_ble_eq_true rfl) hM hS (⟨i9, hi9_, rfl, hasb_, by rw [hin], n2_, d2_, hl2_, by rw [hw_5, ew_]; exact ⟨(TGW.up (by omega) (TGW.up (by omega) (TGW.up (by omega) (TGW.up (by omega) hR.1)))), (DraW.up (by omega) (DraW.up (by omega) (DraW.up (by omega) (DraW.up (by omega) hR.2.1)))), (RulW.up (by omega) (RulW.up (by omega) (RulW.up (by omega) (RulW.up (by omega) hR.2.2.1)))), (MemW.due (Nat.le_trans (ld_len hok_) (by omega)) (MemW.up (by omega) (MemW.up (by omega) hR.2.2.2.1))), (SenF.up (by omega) (SenF.up (by omega) (SenF.bf4 (SenF.up (by omega) hR.2.2.2.2.1)))), (OrdF.up (by omega) (OrdF.up (by omega) (OrdF.up (by omega) (OrdF.up (by omega) hR.2.2.2.2.2.1)))), (DesW.up (by omega) (DesW.up (by omega) (DesW.up (by omega) (DesW.up (by omega) hR.2.2.2.2.2.2.1)))), (HanW.up (by omega) (HanW.up (by omega) (HanW.up (by omega) (HanW.up (by omega) hR.2.2.2.2.2.2.2.1)))), (MonW.up (by omega) (MonW.up (by omega) (MonW.up (by omega) (MonW.set hR.2.2.2.2.2.2.2.2.1)))), (HIn.list hin_ hok_)⟩⟩)
        · have hin : i < on_ (so i9) := nle_lt c40 (by omega) (by omega)
          refine lv_aload_n hx hb dX7_mend_43 rfl (lv_at hl 2 rfl) ?_
          refine lv_iload hx hb dX7_mend_44 (lv_at hl 4 rfl) ?_
          refine lv_aload_n hx hb dX7_mend_46 rfl (lv_at hl 0 rfl) ?_
          refine m_get (ci := 7) (C := RX7) (T := TX7) (n := 13) (v := .ref (adr 3)) hx hb hts inX7_ hown hK rfl (hM.cel (by omega) z0wz) 1 (by decide) (hts _ (by decide +kernel)) rfl dX7_mend_47 ?_
          refine r_calli (va_runV (As := [.int (nI i), .ref (adr 3)]) (rest := []) ⟨hx, hb, hml, hown, hts⟩ (k_X6_isAstrayAt l D ac _ (adr (23 + 6 * so i9)) (adr (23 + 6 * so i9 + 1)) (adr (23 + 6 * so i9 + 2)) (adr (23 + 6 * so i9 + 3)) (adr (23 + 6 * so i9 + 4)) ((oc (so i9))) ((on_ (so i9))) (fun j => nI (owd (so i9) j)) (mdB fr (oc (so i9)) (owd (so i9)) (obf (so i9)) i) (owd (so i9)) ⟨(hM.cel (by have := ho_; omega) z13wz), (hM.cel (by have := ho_; omega) z14wz), (hM.cel (by have := ho_; omega) z15wz), (hM.cel (by have := ho_; omega) z16wz), (hM.cel (by have := ho_; omega) z17wz), ⟨hn8_, hcl_, fun j hj => ⟨rfl, hwd_ j hj⟩⟩⟩ (adr 3) (adr 4) (adr 5) (adr 6) fs fr (fun j => nI (ft j)) ⟨(hM.cel (by omega) z1wz), (hM.cel (by omega) z2wz), (hM.cel (by omega) z3wz), (hM.cel (by omega) z4wz)⟩ i (by omega)) (cwV 2 hts gX7_mend_X6_isAstrayAt rfl rfl rfl (by decide +kernel) ⟨Nat.le_of_ble_eq_true rfl, Nat.le_of_ble_eq_true rfl⟩) (pV hK (ci := 6) rfl (hM.cel (by have := ho_; omega) z13wz)) rfl rfl hl.1 rfl (lv_room (Nat.le_of_ble_eq_true rfl)) dX7_mend_50 ⟨Nat.le_of_ble_eq_true rfl, Nat.le_of_ble_eq_true rfl⟩) hS (fun rv_25 locs hrv_25 hS => ?_)
          subst hrv_25
          refine lv_if_eq (tgt := 117) hx hb dX7_mend_53 (by decide) (fun c53 => ?_) (fun c53 => ?_)
          · have hna : ¬ ast fr (oc (so i9)) (owd (so i9)) (obf (so i9)) i := fun q => by rw [if_pos (mdB_ast.mpr q)] at c53; exact absurd c53 (by decide)
            rw [← mdC_n hna] at hl
            refine lv_iinc (v := nI (i + 1)) (lv' := [(4, .int (nI (i + 1))), (0, .ref (adr 0)), (1, .int (nI i9)), (2, .ref (adr (23 + 6 * so i9))), (3, .int (nI (mdC fr (oc (so i9)) (owd (so i9)) (obf (so i9)) (i + 1))))]) hx hb dX7_mend_117 hl (k := 4) rfl (nI_1 _) (by decide) rfl (fun ls hl => ?_)
            refine lv_goto (tgt := 31) hx hb dX7_mend_120 (by decide) ?_
            exact ih31 (i + 1) (by omega) (by omega) wz z0wz z1wz z2wz z3wz z4wz z5wz z6wz z7wz z8wz z9wz z10wz z11wz (by rw [mdP_n hna]; exact z12wz) z13wz z14wz z15wz z16wz (by rw [mdB_n hna]; exact z17wz) zrwz _ _ hM hS ls (lv_sub hl [1, 2, 3, 4, 0] rfl)
          · have hya : ast fr (oc (so i9)) (owd (so i9)) (obf (so i9)) i := Classical.byContradiction (fun q => c53 (if_neg (fun z => q (mdB_ast.mp z))))
            refine lv_aload_n hx hb dX7_mend_56 rfl (lv_at hl 0 rfl) ?_
            refine m_get (ci := 7) (C := RX7) (T := TX7) (n := 13) (v := .ref (adr 20)) hx hb hts inX7_ hown hK rfl (hM.cel (by omega) z0wz) 7 (by decide) (hts _ (by decide +kernel)) rfl dX7_mend_57 ?_
            refine lv_aload_n hx hb dX7_mend_60 rfl (lv_at hl 2 rfl) ?_
            refine m_getN (host := RX7) (ci := 6) (C := RX6) (T := TX6) (n := 3) (v := .int (nI (oc (so i9)))) hx hb hts inX6_ hown hK rfl (hM.cel (by have := ho_; omega) z13wz) 0 (by decide) 16 rfl rfl dX7_mend_61 ?_
            refine lv_aload_n hx hb dX7_mend_64 rfl (lv_at hl 0 rfl) ?_
            refine lv_iload_n hx hb dX7_mend_65 rfl (lv_at hl 1 rfl) ?_
            refine lv_aload_n hx hb dX7_mend_66 rfl (lv_at hl 2 rfl) ?_
            refine m_getN (host := RX7) (ci := 6) (C := RX6) (T := TX6) (n := 3) (v := .int (nI (oc (so i9)))) hx hb hts inX6_ hown hK rfl (hM.cel (by have := ho_; omega) z13wz) 0 (by decide) 16 rfl rfl dX7_mend_67 ?_
            refine lv_aload_n hx hb dX7_mend_70 rfl (lv_at hl 2 rfl) ?_
            refine m_getN (host := RX7) (ci := 6) (C := RX6) (T := TX6) (n := 3) (v := .ref (adr (23 + 6 * so i9 + 1))) hx hb hts inX6_ hown hK rfl (hM.cel (by have := ho_; omega) z13wz) 1 (by decide) 18 rfl rfl dX7_mend_71 ?_
            refine lv_iload hx hb dX7_mend_74 (lv_at hl 4 rfl) ?_
            refine r_calli (va_runV (As := [.int (nI i)]) (rest := [.int (nI (oc (so i9))), .int (nI i9), .ref (adr 0), .int (nI (oc (so i9))), .ref (adr 20)]) ⟨hx, hb, hml, hown, hts⟩ (k_X4_at l D ac _ (adr (23 + 6 * so i9 + 1)) (adr (23 + 6 * so i9 + 2)) (on_ (so i9)) (fun j => nI (owd (so i9) j)) (hM.cel (by have := ho_; omega) z14wz) (hM.cel (by have := ho_; omega) z15wz) (by omega) (nI i)) (cwV 1 hts gX7_mend_X4_at rfl rfl rfl (by decide +kernel) ⟨Nat.le_of_ble_eq_true rfl, Nat.le_of_ble_eq_true rfl⟩) (pV hK (ci := 4) rfl (hM.cel (by have := ho_; omega) z14wz)) rfl rfl hl.1 rfl (lv_room (Nat.le_of_ble_eq_true rfl)) dX7_mend_76 ⟨Nat.le_of_ble_eq_true rfl, Nat.le_of_ble_eq_true rfl⟩) hS (fun rv_26 locs hrv_26 hS => ?_)
            subst hrv_26
            refine m_top (show ((ix (nI i) (on_ (so i9))).elim (-1) (fun j => nI (owd (so i9) j))) = nI (owd (so i9) i) from by rw [ix_nI hin (by omega)]; rfl) ?_
            refine r_calli (va_runV (As := [.int (nI i9), .int (nI (oc (so i9))), .int (nI (owd (so i9) i))]) (rest := [.int (nI (oc (so i9))), .ref (adr 20)]) ⟨hx, hb, hml, hown, hts⟩ (k_X7_mendingPrice l D ac _ (adr 0) (.ref (adr 1)) (.ref (adr 7)) (.ref (adr 14)) (.ref (adr 15)) (.ref (adr 16)) (.ref (adr 18)) (.ref (adr 20)) (.ref (adr 21)) (.int (nI no)) (.int le) (.int pr) (.int ra) (adr 3) (adr 4) (adr 5) (adr 6) fs fr (fun j => nI (ft j)) ⟨(hM.cel (by omega) z1wz), (hM.cel (by omega) z2wz), (hM.cel (by omega) z3wz), (hM.cel (by omega) z4wz)⟩ (hM.cel (by omega) z0wz) (nI i9) ((oc (so i9))) ((owd (so i9) i)) (hcl_) (hwd_ i hin)) (cwV 3 hts gX7_mend_X7_mendingPrice rfl rfl rfl (by decide +kernel) ⟨Nat.le_of_ble_eq_true rfl, Nat.le_of_ble_eq_true rfl⟩) (pV hK (ci := 7) rfl (hM.cel (by omega) z0wz)) rfl rfl hl.1 rfl (lv_room (Nat.le_of_ble_eq_true rfl)) dX7_mend_79 ⟨Nat.le_of_ble_eq_true rfl, Nat.le_of_ble_eq_true rfl⟩) hS (fun rv_27 locs hrv_27 hS => ?_)
            subst hrv_27
            refine w_callv (va_runS (As := [.ref (adr 20), .int (nI (oc (so i9))), .int (mpI ((fun j => nI (ft j)) ((oc (so i9)) * 50 + (owd (so i9) i))) (nI i9))]) (rest := []) ⟨hx, hb, hml, hown, hts⟩ (k_X7_addTo l D ac _ A N adr wz hM 20 (by omega) (mdP fr ft (oc (so i9)) (owd (so i9)) (obf (so i9)) (nI i9) pd i) z12wz ((oc (so i9))) (by omega) (mpI ((fun j => nI (ft j)) ((oc (so i9)) * 50 + (owd (so i9) i))) (nI i9))) (va_cwS 3 hts gX7_mend_X7_addTo rfl rfl rfl (by decide +kernel) ⟨Nat.le_of_ble_eq_true rfl, Nat.le_of_ble_eq_true rfl⟩) (pS hK) rfl rfl hl.1 rfl (lv_room (Nat.le_of_ble_eq_true rfl)) dX7_mend_82 ⟨Nat.le_of_ble_eq_true rfl, Nat.le_of_ble_eq_true rfl⟩) hS (fun w_29 H locs hw_29 hM hS => ?_)
            have h_30 : w_29 0 = .inr (7, [.ref (adr 1), .ref (adr 3), .ref (adr 7), .ref (adr 14), .ref (adr 15), .ref (adr 16), .ref (adr 18), .ref (adr 20), .ref (adr 21), .int (nI no), .int le, .int pr, .int ra]) := by rw [hw_29, va_up_ne _ _ (by omega)]; exact z0wz
            have h_31 : w_29 3 = .inr (5, [.ref (adr 4), .ref (adr 5), .ref (adr 6)]) := by rw [hw_29, va_up_ne _ _ (by omega)]; exact z1wz
            have h_32 : w_29 4 = .inl (ac 0, 600, .inl fs) := by rw [hw_29, va_up_ne _ _ (by omega)]; exact z2wz
            have h_33 : w_29 5 = .inl (ac 0, 200, .inl fr) := by rw [hw_29, va_up_ne _ _ (by omega)]; exact z3wz
            have h_34 : w_29 6 = .inl (ac 0, 200, .inl (fun j => nI (ft j))) := by rw [hw_29, va_up_ne _ _ (by omega)]; exact z4wz
            have h_35 : w_29 20 = .inl (ac 0, 4, .inl (upd (mdP fr ft (oc (so i9)) (owd (so i9)) (obf (so i9)) (nI i9) pd i) ((oc (so i9))) ((mdP fr ft (oc (so i9)) (owd (so i9)) (obf (so i9)) (nI i9) pd i) ((oc (so i9))) + (mpI ((fun j => nI (ft j)) ((oc (so i9)) * 50 + (owd (so i9) i))) (nI i9))))) := by rw [hw_29]; exact va_up_self _ _ _
            have h_36 : w_29 7 = .inr (2, [.ref (adr 8), .ref (adr 9), .ref (adr 10), .ref (adr 12), .int (nI ns)]) := by rw [hw_29, va_up_ne _ _ (by omega)]; exact z5wz
            have h_37 : w_29 8 = .inl (ac 4, 40, .inr (.inr (.inr (.inr (sref adr ns so))))) := by rw [hw_29, va_up_ne _ _ (by omega)]; exact z6wz
            have h_38 : w_29 9 = .inl (ac 1, 50, .inr (.inl hv)) := by rw [hw_29, va_up_ne _ _ (by omega)]; exact z7wz
            have h_39 : w_29 10 = .inr (1, [.ref (adr 11), .int (nI nd)]) := by rw [hw_29, va_up_ne _ _ (by omega)]; exact z8wz
            have h_40 : w_29 11 = .inl (ac 0, 60, .inl (fun j => nI (du j))) := by rw [hw_29, va_up_ne _ _ (by omega)]; exact z9wz
            have h_41 : w_29 12 = .inr (0, [.ref (adr 13)]) := by rw [hw_29, va_up_ne _ _ (by omega)]; exact z10wz
            have h_42 : w_29 13 = .inl (ac 0, 81, .inl T) := by rw [hw_29, va_up_ne _ _ (by omega)]; exact z11wz
            have h_43 : w_29 (23 + 6 * so i9) = .inr (6, [.int (nI (oc (so i9))), .ref (adr (23 + 6 * so i9 + 1)), .ref (adr (23 + 6 * so i9 + 3))]) := by rw [hw_29, va_up_ne _ _ (by omega)]; exact z13wz
            have h_44 : w_29 (23 + 6 * so i9 + 1) = .inr (4, [.ref (adr (23 + 6 * so i9 + 2)), .int (nI (on_ (so i9)))]) := by rw [hw_29, va_up_ne _ _ (by omega)]; exact z14wz
            have h_45 : w_29 (23 + 6 * so i9 + 2) = .inl (ac 0, 8, .inl (fun j => nI (owd (so i9) j))) := by rw [hw_29, va_up_ne _ _ (by omega)]; exact z15wz
            have h_46 : w_29 (23 + 6 * so i9 + 3) = .inr (4, [.ref (adr (23 + 6 * so i9 + 4)), .int (nI (on_ (so i9)))]) := by rw [hw_29, va_up_ne _ _ (by omega)]; exact z16wz
            have h_47 : w_29 (23 + 6 * so i9 + 4) = .inl (ac 0, 8, .inl (mdB fr (oc (so i9)) (owd (so i9)) (obf (so i9)) i)) := by rw [hw_29, va_up_ne _ _ (by omega)]; exact z17wz
            refine lv_aload_n hx hb dX7_mend_85 rfl (lv_at hl 2 rfl) ?_
            refine m_getN (host := RX7) (ci := 6) (C := RX6) (T := TX6) (n := 3) (v := .ref (adr (23 + 6 * so i9 + 3))) hx hb hts inX6_ hown hK rfl (hM.cel (by have := ho_; omega) h_43) 2 (by decide) 20 rfl rfl dX7_mend_86 ?_
            refine lv_iload hx hb dX7_mend_89 (lv_at hl 4 rfl) ?_
            refine lv_aload_n hx hb dX7_mend_91 rfl (lv_at hl 0 rfl) ?_
            refine m_get (ci := 7) (C := RX7) (T := TX7) (n := 13) (v := .ref (adr 3)) hx hb hts inX7_ hown hK rfl (hM.cel (by omega) h_30) 1 (by decide) (hts _ (by decide +kernel)) rfl dX7_mend_92 ?_
            refine lv_aload_n hx hb dX7_mend_95 rfl (lv_at hl 2 rfl) ?_
            refine m_getN (host := RX7) (ci := 6) (C := RX6) (T := TX6) (n := 3) (v := .int (nI (oc (so i9)))) hx hb hts inX6_ hown hK rfl (hM.cel (by have := ho_; omega) h_43) 0 (by decide) 16 rfl rfl dX7_mend_96 ?_
            refine lv_aload_n hx hb dX7_mend_99 rfl (lv_at hl 2 rfl) ?_
            refine m_getN (host := RX7) (ci := 6) (C := RX6) (T := TX6) (n := 3) (v := .ref (adr (23 + 6 * so i9 + 1))) hx hb hts inX6_ hown hK rfl (hM.cel (by have := ho_; omega) h_43) 1 (by decide) 18 rfl rfl dX7_mend_100 ?_
            refine lv_iload hx hb dX7_mend_103 (lv_at hl 4 rfl) ?_
            refine r_calli (va_runV (As := [.int (nI i)]) (rest := [.int (nI (oc (so i9))), .ref (adr 3), .int (nI i), .ref (adr (23 + 6 * so i9 + 3))]) ⟨hx, hb, hml, hown, hts⟩ (k_X4_at l D ac _ (adr (23 + 6 * so i9 + 1)) (adr (23 + 6 * so i9 + 2)) (on_ (so i9)) (fun j => nI (owd (so i9) j)) (hM.cel (by have := ho_; omega) h_44) (hM.cel (by have := ho_; omega) h_45) (by omega) (nI i)) (cwV 1 hts gX7_mend_X4_at rfl rfl rfl (by decide +kernel) ⟨Nat.le_of_ble_eq_true rfl, Nat.le_of_ble_eq_true rfl⟩) (pV hK (ci := 4) rfl (hM.cel (by have := ho_; omega) h_44)) rfl rfl hl.1 rfl (lv_room (Nat.le_of_ble_eq_true rfl)) dX7_mend_105 ⟨Nat.le_of_ble_eq_true rfl, Nat.le_of_ble_eq_true rfl⟩) hS (fun rv_48 locs hrv_48 hS => ?_)
            subst hrv_48
            refine m_top (show ((ix (nI i) (on_ (so i9))).elim (-1) (fun j => nI (owd (so i9) j))) = nI (owd (so i9) i) from by rw [ix_nI hin (by omega)]; rfl) ?_
            refine r_calli (va_runV (As := [.int (nI (oc (so i9))), .int (nI (owd (so i9) i))]) (rest := [.int (nI i), .ref (adr (23 + 6 * so i9 + 3))]) ⟨hx, hb, hml, hown, hts⟩ (k_X5_rulingOf l D ac _ (adr 3) (adr 4) (adr 5) (adr 6) fs fr (fun j => nI (ft j)) ⟨(hM.cel (by omega) h_31), (hM.cel (by omega) h_32), (hM.cel (by omega) h_33), (hM.cel (by omega) h_34)⟩ (oc (so i9)) (owd (so i9) i) (hcl_) (hwd_ i hin)) (cwV 2 hts gX7_mend_X5_rulingOf rfl rfl rfl (by decide +kernel) ⟨Nat.le_of_ble_eq_true rfl, Nat.le_of_ble_eq_true rfl⟩) (pV hK (ci := 5) rfl (hM.cel (by omega) h_31)) rfl rfl hl.1 rfl (lv_room (Nat.le_of_ble_eq_true rfl)) dX7_mend_108 ⟨Nat.le_of_ble_eq_true rfl, Nat.le_of_ble_eq_true rfl⟩) hS (fun rv_49 locs hrv_49 hS => ?_)
            subst hrv_49
            refine w_callv (va_runV (As := [.int (nI i), .int (fr ((oc (so i9)) * 50 + (owd (so i9) i)))]) (rest := []) ⟨hx, hb, hml, hown, hts⟩ (k_X4_put l D ac _ A N adr w_29 hM (23 + 6 * so i9 + 3) (23 + 6 * so i9 + 4) ((on_ (so i9))) (mdB fr (oc (so i9)) (owd (so i9)) (obf (so i9)) i) (by have := ho_; omega) (by have := ho_; omega) (by omega) h_46 h_47 (by omega) i (by omega) (fr ((oc (so i9)) * 50 + (owd (so i9) i)))) (cwV 2 hts gX7_mend_X4_put rfl rfl rfl (by decide +kernel) ⟨Nat.le_of_ble_eq_true rfl, Nat.le_of_ble_eq_true rfl⟩) (pV hK (ci := 4) rfl (hM.cel (by have := ho_; omega) h_46)) rfl rfl hl.1 rfl (lv_room (Nat.le_of_ble_eq_true rfl)) dX7_mend_111 ⟨Nat.le_of_ble_eq_true rfl, Nat.le_of_ble_eq_true rfl⟩) hS (fun w_51 H locs hw_51 hM hS => ?_)
            have ef_ : upd (mdB fr (oc (so i9)) (owd (so i9)) (obf (so i9)) i) i (fr ((oc (so i9)) * 50 + (owd (so i9) i))) = mdB fr (oc (so i9)) (owd (so i9)) (obf (so i9)) (i + 1) := (mdB_t hya).symm
            rw [ef_] at hw_51
            clear ef_
            have h_52 : w_51 0 = .inr (7, [.ref (adr 1), .ref (adr 3), .ref (adr 7), .ref (adr 14), .ref (adr 15), .ref (adr 16), .ref (adr 18), .ref (adr 20), .ref (adr 21), .int (nI no), .int le, .int pr, .int ra]) := by rw [hw_51, va_up_ne _ _ (by omega)]; exact h_30
            have h_53 : w_51 3 = .inr (5, [.ref (adr 4), .ref (adr 5), .ref (adr 6)]) := by rw [hw_51, va_up_ne _ _ (by omega)]; exact h_31
            have h_54 : w_51 4 = .inl (ac 0, 600, .inl fs) := by rw [hw_51, va_up_ne _ _ (by omega)]; exact h_32
            have h_55 : w_51 5 = .inl (ac 0, 200, .inl fr) := by rw [hw_51, va_up_ne _ _ (by omega)]; exact h_33
            have h_56 : w_51 6 = .inl (ac 0, 200, .inl (fun j => nI (ft j))) := by rw [hw_51, va_up_ne _ _ (by omega)]; exact h_34
            have h_57 : w_51 20 = .inl (ac 0, 4, .inl (upd (mdP fr ft (oc (so i9)) (owd (so i9)) (obf (so i9)) (nI i9) pd i) ((oc (so i9))) ((mdP fr ft (oc (so i9)) (owd (so i9)) (obf (so i9)) (nI i9) pd i) ((oc (so i9))) + (mpI ((fun j => nI (ft j)) ((oc (so i9)) * 50 + (owd (so i9) i))) (nI i9))))) := by rw [hw_51, va_up_ne _ _ (by omega)]; exact h_35
            have h_58 : w_51 7 = .inr (2, [.ref (adr 8), .ref (adr 9), .ref (adr 10), .ref (adr 12), .int (nI ns)]) := by rw [hw_51, va_up_ne _ _ (by omega)]; exact h_36
            have h_59 : w_51 8 = .inl (ac 4, 40, .inr (.inr (.inr (.inr (sref adr ns so))))) := by rw [hw_51, va_up_ne _ _ (by omega)]; exact h_37
            have h_60 : w_51 9 = .inl (ac 1, 50, .inr (.inl hv)) := by rw [hw_51, va_up_ne _ _ (by omega)]; exact h_38
            have h_61 : w_51 10 = .inr (1, [.ref (adr 11), .int (nI nd)]) := by rw [hw_51, va_up_ne _ _ (by omega)]; exact h_39
            have h_62 : w_51 11 = .inl (ac 0, 60, .inl (fun j => nI (du j))) := by rw [hw_51, va_up_ne _ _ (by omega)]; exact h_40
            have h_63 : w_51 12 = .inr (0, [.ref (adr 13)]) := by rw [hw_51, va_up_ne _ _ (by omega)]; exact h_41
            have h_64 : w_51 13 = .inl (ac 0, 81, .inl T) := by rw [hw_51, va_up_ne _ _ (by omega)]; exact h_42
            have h_65 : w_51 (23 + 6 * so i9) = .inr (6, [.int (nI (oc (so i9))), .ref (adr (23 + 6 * so i9 + 1)), .ref (adr (23 + 6 * so i9 + 3))]) := by rw [hw_51, va_up_ne _ _ (by omega)]; exact h_43
            have h_66 : w_51 (23 + 6 * so i9 + 1) = .inr (4, [.ref (adr (23 + 6 * so i9 + 2)), .int (nI (on_ (so i9)))]) := by rw [hw_51, va_up_ne _ _ (by omega)]; exact h_44
            have h_67 : w_51 (23 + 6 * so i9 + 2) = .inl (ac 0, 8, .inl (fun j => nI (owd (so i9) j))) := by rw [hw_51, va_up_ne _ _ (by omega)]; exact h_45
            have h_68 : w_51 (23 + 6 * so i9 + 3) = .inr (4, [.ref (adr (23 + 6 * so i9 + 4)), .int (nI (on_ (so i9)))]) := by rw [hw_51, va_up_ne _ _ (by omega)]; exact h_46
            have h_69 : w_51 (23 + 6 * so i9 + 4) = .inl (ac 0, 8, .inl (mdB fr (oc (so i9)) (owd (so i9)) (obf (so i9)) (i + 1))) := by rw [hw_51]; exact va_up_self _ _ _
            refine lv_iinc (v := nI (mdC fr (oc (so i9)) (owd (so i9)) (obf (so i9)) (i + 1))) (lv' := [(3, .int (nI (mdC fr (oc (so i9)) (owd (so i9)) (obf (so i9)) (i + 1)))), (0, .ref (adr 0)), (1, .int (nI i9)), (2, .ref (adr (23 + 6 * so i9))), (4, .int (nI i))]) hx hb dX7_mend_114 hl (k := 3) rfl (by rw [mdC_t hya]; exact nI_1 _) (by decide) rfl (fun ls hl => ?_)
            refine lv_iinc (v := nI (i + 1)) (lv' := [(4, .int (nI (i + 1))), (3, .int (nI (mdC fr (oc (so i9)) (owd (so i9)) (obf (so i9)) (i + 1)))), (0, .ref (adr 0)), (1, .int (nI i9)), (2, .ref (adr (23 + 6 * so i9)))]) hx hb dX7_mend_117 hl (k := 4) rfl (nI_1 _) (by decide) rfl (fun ls hl => ?_)
            refine lv_goto (tgt := 31) hx hb dX7_mend_120 (by decide) ?_
            exact ih31 (i + 1) (by omega) (by omega) w_51 h_52 h_53 h_54 h_55 h_56 h_58 h_59 h_60 h_61 h_62 h_63 h_64 (by rw [mdP_t hya]; exact h_57) h_65 h_66 h_67 h_68 h_69 (fun q q1 q2 => by rw [hw_51, va_up_ne _ _ q2, hw_29, va_up_ne _ _ q1]; exact zrwz q q1 q2) _ _ hM hS ls (lv_sub hl [2, 3, 4, 1, 0] rfl)
    exact L31 _ 0 (Nat.lt_succ_self _) (Nat.zero_le _) w h0 hru.1 hru.2.1 hru.2.2.1 hru.2.2.2 hm.1 hm.2.1 hm.2.2.1 hm.2.2.2.1 hm.2.2.2.2.1 hm.2.2.2.2.2.1 hm.2.2.2.2.2.2.1 hmo.1 hsn_.1 hsn_.2.1 hsn_.2.2.1 hsn_.2.2.2.1 (by rw [mdB_0]; exact hsn_.2.2.2.2.1) (fun q _ _ => rfl) _ _ hM hS ls (lv_sub hl [3, 4, 2, 1, 0] rfl)
  · exact x_throw hx hb hlt hlocks hout hown (by decide) (hts _ (by decide +kernel)) (hts _ (by decide +kernel)) (fun w hw => hts w (hgIS_ w hw)) ng_IS ot_IS hX hM hS (hl.1.trans hml.symm) dX7_mend_18 dX7_mend_21 dX7_mend_22 dX7_mend_25 (Nat.le_of_ble_eq_true rfl) (Nat.le_of_ble_eq_true rfl) (Nat.le_of_ble_eq_true rfl) (Nat.le_of_ble_eq_true rfl) (Nat.le_of_ble_eq_true rfl) (Nat.le_of_ble_eq_true rfl) (Or.inr ⟨rfl, mcd2 (x := 0) (f := fun i => asB fr (oc (so i)) (on_ (so i)) (owd (so i)) (obf (so i))) hi9_ (by omega) (asB_f hn8_ hrv_3 c15)⟩)
