/-- what a word's voices agree on after one more -/
def sayA (fs : Nat → Int32) (t q : Nat) (u : Int32) : Int32 := agr ((upd fs (t * 200 + q) u) (0 * 200 + q)) ((upd fs (t * 200 + q) u) (1 * 200 + q)) ((upd fs (t * 200 + q) u) (2 * 200 + q))
def sayR (fs fr : Nat → Int32) (t q : Nat) (u : Int32) : Nat → Int32 := upd fr q (sayA fs t q u)
def sayT (fs fr : Nat → Int32) (ft : Nat → Nat) (ns t q : Nat) (u : Int32) : Nat → Nat := if sayA fs t q u = fr q then ft else va_up ft q ns
theorem upd_same {f : Nat → Int32} {k : Nat} {x : Int32} (h : x = f k) : upd f k x = f := by
  funext j
  unfold upd
  by_cases e : j = k
  · rw [if_pos e, e, h]
  · rw [if_neg e]
theorem hear_one {ac : Nat → ClassId} {w w1 : Nat → va_E} {fs fr : Nat → Int32} {ft : Nat → Nat} {ns t q : Nat} {u : Int32} (h5 : w 5 = .inl (ac 0, 200, .inl fr)) (h6 : w 6 = .inl (ac 0, 200, .inl (fun j => nI (ft j))))
    (h : (sayA fs t q u = fr q ∧ w1 = va_up w 4 (.inl (ac 0, 600, .inl (upd fs (t * 200 + q) u)))) ∨ (¬ sayA fs t q u = fr q ∧ w1 = va_up (va_up (va_up w 4 (.inl (ac 0, 600, .inl (upd fs (t * 200 + q) u)))) 5 (.inl (ac 0, 200, .inl (upd fr q (sayA fs t q u))))) 6 (.inl (ac 0, 200, .inl (upd (fun j => nI (ft j)) q (nI ns)))))) :
    w1 = va_up (va_up (va_up w 4 (.inl (ac 0, 600, .inl (upd fs (t * 200 + q) u)))) 5 (.inl (ac 0, 200, .inl (sayR fs fr t q u)))) 6 (.inl (ac 0, 200, .inl (fun j => nI (sayT fs fr ft ns t q u j)))) := by
  rcases h with ⟨h1, h2⟩ | ⟨h1, h2⟩
  · unfold sayR sayT
    rw [if_pos h1, upd_same h1, va_up_same (f := va_up w 4 _) (k := 5) (by rw [va_up_ne _ _ (by decide)]; exact h5), va_up_same (f := va_up w 4 _) (k := 6) (by rw [va_up_ne _ _ (by decide)]; exact h6)]
    exact h2
  · unfold sayR sayT
    rw [if_neg h1, ← upd_nI]
    exact h2
theorem RulW.set {ac : Nat → ClassId} {adr : Nat → Nat} {w : Nat → va_E} {fs fr fs1 fr1 : Nat → Int32} {ft ft1 : Nat → Nat} (h : RulW ac adr w fs fr ft) : RulW ac adr (va_up (va_up (va_up w 4 (.inl (ac 0, 600, .inl fs1))) 5 (.inl (ac 0, 200, .inl fr1))) 6 (.inl (ac 0, 200, .inl (fun j => nI (ft1 j))))) fs1 fr1 ft1 :=
  ⟨by rw [va_up_ne _ _ (by decide), va_up_ne _ _ (by decide), va_up_ne _ _ (by decide)]; exact h.1, by rw [va_up_ne _ _ (by decide), va_up_ne _ _ (by decide)]; exact va_up_self _ _ _, by rw [va_up_ne _ _ (by decide)]; exact va_up_self _ _ _, va_up_self _ _ _⟩
theorem fold_W {p : Program} {l : Launch} {e : Env} {R : Room} {s : State} {m : MethodId} {args : Array Value} {below : List Frame} {meth : Method} {c : Code} {H : Heap} {locs : List Loc} {cells slots : Nat} {Q : State → Prop} {g : JFrame} (h : ∀ Q0 : State → Prop, Q0 = Q → W p l e R s m args below meth c H locs cells slots Q0 g) : W p l e R s m args below meth c H locs cells slots Q g := h Q rfl
set_option maxHeartbeats 4000000 in
set_option maxRecDepth 100000 in
/-- say -/
theorem k_X7_say (l : Launch) (D : va_G) (ac : Nat → ClassId) (H : Heap) (hlt : l.stackTraces = false) (A : Nat → Prop) (N : Nat) (adr : Nat → Nat) (w : Nat → va_E) (hM : MW D A N adr w H) (dl : Nat) (dw : Nat → Nat) (fs : Nat → Int32) (fr : Nat → Int32) (ft : Nat → Nat) (ns : Nat) (so : Nat → Nat) (hv : Nat → Int64) (nd : Nat) (du : Nat → Nat) (T : Nat → Int32) (nr : Nat) (rq : Nat → Nat) (nq : Nat) (oq : Nat → Nat) (pd : Nat → Int32) (er : Nat → Int32) (no : Nat) (oc : Nat → Nat) (on_ : Nat → Nat) (owd : Nat → Nat → Nat) (obf : Nat → Nat → Int32) (rb : Nat → Int32) (st : Nat → Int32) (mt : Nat → Int32) (co : Nat → Int32) (py : Nat → Int32) (hd : Nat → Option Nat) (le : Int32) (pr : Int32) (ra : Int32) (hR : HR ac adr w dl dw fs fr ft ns so hv nd du T nr rq nq oq pd er no oc on_ owd obf rb st mt co py hd le pr ra) (hN : 22 + 6 * no ≤ N) (x y z u : Int32) : WXi l yX7_say wsX7_say ({ frames := 8, cells := 3, slots := 18, locals := 130 }) [.ref (adr 0), .int x, .int y, .int z, .int u] D ac H A N adr w (fun r w1 => ∃ t k j, t < 3 ∧ k < 4 ∧ j < 50 ∧ x = nI t ∧ y = nI k ∧ z = nI j ∧ (¬ u < -1 ∧ u < 100) ∧ ∃ n2 d2, lst n2 d2 = LD2 (fun i => asB (sayR fs fr t (k * 50 + j) u) (oc (so i)) (on_ (so i)) (owd (so i)) (obf (so i))) ((lst nd du).filter (fun i => asB (sayR fs fr t (k * 50 + j) u) (oc (so i)) (on_ (so i)) (owd (so i)) (obf (so i)))) ns ∧ r = nI n2 ∧ HR ac adr w1 dl dw (upd fs (t * 200 + (k * 50 + j)) u) (sayR fs fr t (k * 50 + j) u) (sayT fs fr ft ns t (k * 50 + j) u) ns so hv n2 d2 T nr rq nq oq pd er no oc on_ owd obf rb st mt co py hd le pr ra) (XC1 xIA (cd1 ((ix x 3).isNone || ((ix y 4).isNone || (ix z 50).isNone) || (decide (u < -1) || !decide (u < 100))))) 3 18 := by
  refine vx_ofW (cc := cX7_say) (maxL := 5) (ret := (some .int)) (by decide) rfl ?_
  intro p e s m args below meth c s₁ B hml hout hv
  obtain ⟨hargs, hsz, hK, hX⟩ := hv
  have hx := B.exec
  have hb := B.bytes
  have hr := B.returns
  have hts := atoms_spec (ws := wsX7_say) B.pre
  have hown : s.vm.findClass RX7 = some m.cls := findClass_of_methodNamed B.named
  have hlocks := B.notSynchronized
  subst hsz
  have inX1_ : ∀ w ∈ wsX10, w ∈ wsX7_say := by decide +kernel
  have inX2_ : ∀ w ∈ wsX20, w ∈ wsX7_say := by decide +kernel
  have inX7_ : ∀ w ∈ wsX70, w ∈ wsX7_say := by decide +kernel
  have hgIA_ : ∀ w ∈ (vx_at0 RX7 71 xIA xNames).filter goodWord, w ∈ wsX7_say := by decide +kernel
  have hS : va_S A s.heap s.heap [] := va_S.rf
  have hl := lv_entry ([.ref (adr 0), .int x, .int y, .int z, .int u]) (n := 5) (Nat.le_of_ble_eq_true rfl)
  have hen := lg_entry_eq m [.ref (adr 0), .int x, .int y, .int z, .int u] 5
  rw [← hargs] at hen
  rw [hen]
  generalize (lg_sl ([.ref (adr 0), .int x, .int y, .int z, .int u]) ++ List.replicate (5 - (lg_sl ([.ref (adr 0), .int x, .int y, .int z, .int u])).length) Slot.unset).toArray = ls at hl ⊢
  have hl : lv_has ls 5 [(0, .ref (adr 0)), (1, .int x), (2, .int y), (3, .int z), (4, .int u)] := hl
  obtain ⟨h0, hdr, hru, hm, hS1, hO1, hde, hha, hmo, hin_⟩ := id hR
  obtain ⟨hns, hnd⟩ := hm.2.2.2.2.2.2.2
  have hso := fun i hi => (hin_.1 i hi).1
  obtain ⟨hnr60, hnq60⟩ := hde.2.2.2.2
  have hno60 := hha.2.2
  refine lv_iload_n hx hb dX7_say_0 rfl (lv_at hl 1 rfl) ?_
  refine lv_if_lt (tgt := 9) hx hb dX7_say_1 (by decide) (fun c1 => ?_) (fun c1 => ?_)
  · exact x_throw hx hb hlt hlocks hout hown (by decide) (hts _ (by decide +kernel)) (hts _ (by decide +kernel)) (fun w hw => hts w (hgIA_ w hw)) ng_IA ot_IA hX hM hS (hl.1.trans hml.symm) dX7_say_9 dX7_say_12 dX7_say_13 dX7_say_16 (Nat.le_of_ble_eq_true rfl) (Nat.le_of_ble_eq_true rfl) (Nat.le_of_ble_eq_true rfl) (Nat.le_of_ble_eq_true rfl) (Nat.le_of_ble_eq_true rfl) (Nat.le_of_ble_eq_true rfl) (⟨rfl, by rw [ixn (n := 3) (by first | exact Or.inl c1 | exact Or.inr (le_of_nlt c6))]; rfl⟩)
  · refine lv_iload_n hx hb dX7_say_4 rfl (lv_at hl 1 rfl) ?_
    refine lv_iconst (v := 3) hx hb dX7_say_5 (by decide) ?_
    refine lv_icmp_lt (tgt := 17) hx hb dX7_say_6 (by decide) (fun c6 => ?_) (fun c6 => ?_)
    · obtain ⟨t9, ht9_, ex_t9⟩ := ixk (n := 3) c1 (nle_of_lt c6) (by decide)
      subst ex_t9
      refine lv_iload_n hx hb dX7_say_17 rfl (lv_at hl 2 rfl) ?_
      refine lv_iload_n hx hb dX7_say_18 rfl (lv_at hl 3 rfl) ?_
      refine x_callv hlocks hout (vx_runS (As := [.int y, .int z]) (rest := []) ⟨hx, hb, hml, hown, hts⟩ (k_X7_refuseUnlessClientAndWord l D ac _ hlt A N adr w hM y z) (va_cwS 2 hts gX7_say_X7_refuseUnlessClientAndWord rfl rfl rfl (by decide +kernel) ⟨(Nat.le_of_ble_eq_true rfl), (Nat.le_of_ble_eq_true rfl)⟩) (pSX hK (hX.at hS)) rfl rfl hl.1 rfl (lv_room (Nat.le_of_ble_eq_true rfl)) dX7_say_19 ⟨(Nat.le_of_ble_eq_true rfl), (Nat.le_of_ble_eq_true rfl)⟩) hS (fun E h => ⟨h.1, by rw [h.2]; simp [cd1]⟩) (Nat.le_of_ble_eq_true rfl) (Nat.le_of_ble_eq_true rfl) (fun w_2 H locs hw_2 hM hS => ?_)
      obtain ⟨⟨k9, hk_k9, ex_k9⟩, ⟨j9, hk_j9, ex_j9⟩, e9_⟩ := hw_2
      obtain rfl := e9_.symm
      subst ex_k9
      subst ex_j9
      refine lv_iload hx hb dX7_say_22 (lv_at hl 4 rfl) ?_
      refine lv_iconst (v := (-1)) hx hb dX7_say_24 (by decide) ?_
      refine lv_icmp_lt (tgt := 35) hx hb dX7_say_25 (by decide) (fun c25 => ?_) (fun c25 => ?_)
      · exact x_throw hx hb hlt hlocks hout hown (by decide) (hts _ (by decide +kernel)) (hts _ (by decide +kernel)) (fun w hw => hts w (hgIA_ w hw)) ng_IA ot_IA hX hM hS (hl.1.trans hml.symm) dX7_say_35 dX7_say_38 dX7_say_39 dX7_say_42 (Nat.le_of_ble_eq_true rfl) (Nat.le_of_ble_eq_true rfl) (Nat.le_of_ble_eq_true rfl) (Nat.le_of_ble_eq_true rfl) (Nat.le_of_ble_eq_true rfl) (Nat.le_of_ble_eq_true rfl) (⟨rfl, by first | (rw [decide_eq_true c25]; simp [cd1]; done) | (rw [decide_eq_false c32]; simp [cd1])⟩)
      · refine lv_iload hx hb dX7_say_28 (lv_at hl 4 rfl) ?_
        refine lv_bipush (v := 100) hx hb dX7_say_30 (by decide) ?_
        refine lv_icmp_lt (tgt := 43) hx hb dX7_say_32 (by decide) (fun c32 => ?_) (fun c32 => ?_)
        · refine lv_aload_n hx hb dX7_say_43 rfl (lv_at hl 0 rfl) ?_
          refine m_get (ci := 7) (C := RX7) (T := TX7) (n := 13) (v := .ref (adr 3)) hx hb hts inX7_ hown hK rfl (hM.cel (by omega) h0) 1 (by decide) (hts _ (by decide +kernel)) rfl dX7_say_44 ?_
          refine lv_iload_n hx hb dX7_say_47 rfl (lv_at hl 1 rfl) ?_
          refine lv_iload_n hx hb dX7_say_48 rfl (lv_at hl 2 rfl) ?_
          refine lv_iload_n hx hb dX7_say_49 rfl (lv_at hl 3 rfl) ?_
          refine r_calli (va_runS (As := [.int (nI k9), .int (nI j9)]) (rest := [.int (nI t9), .ref (adr 3)]) ⟨hx, hb, hml, hown, hts⟩ (k_X5_slotOf l D ac _ k9 j9 (hk_k9) (hk_j9)) (va_cwS 2 hts gX7_say_X5_slotOf rfl rfl rfl (by decide +kernel) ⟨Nat.le_of_ble_eq_true rfl, Nat.le_of_ble_eq_true rfl⟩) (pS hK) rfl rfl hl.1 rfl (lv_room (Nat.le_of_ble_eq_true rfl)) dX7_say_50 ⟨Nat.le_of_ble_eq_true rfl, Nat.le_of_ble_eq_true rfl⟩) hS (fun rv_3 locs hrv_3 hS => ?_)
          subst hrv_3
          refine lv_iload hx hb dX7_say_53 (lv_at hl 4 rfl) ?_
          refine lv_aload_n hx hb dX7_say_55 rfl (lv_at hl 0 rfl) ?_
          refine m_get (ci := 7) (C := RX7) (T := TX7) (n := 13) (v := .ref (adr 7)) hx hb hts inX7_ hown hK rfl (hM.cel (by omega) h0) 2 (by decide) (hts _ (by decide +kernel)) rfl dX7_say_56 ?_
          refine m_getN (host := RX7) (ci := 2) (C := RX2) (T := TX2) (n := 5) (v := .int (nI ns)) hx hb hts inX2_ hown hK rfl (hM.cel (by omega) hm.1) 4 (by decide) 12 rfl rfl dX7_say_59 ?_
          refine w_callv (va_runV (As := [.int (nI t9), .int (nI (k9 * 50 + j9)), .int u, .int (nI ns)]) (rest := []) ⟨hx, hb, hml, hown, hts⟩ (k_X5_hear l D ac _ A N adr w hM 3 4 5 6 fs fr (fun j => nI (ft j)) (by omega) (by omega) (by omega) (by omega) (by decide) hru.1 hru.2.1 hru.2.2.1 hru.2.2.2 t9 ((k9 * 50 + j9)) (by omega) (by omega) u (nI ns)) (cwV 4 hts gX7_say_X5_hear rfl rfl rfl (by decide +kernel) ⟨Nat.le_of_ble_eq_true rfl, Nat.le_of_ble_eq_true rfl⟩) (pV hK (ci := 5) rfl (hM.cel (by omega) hru.1)) rfl rfl hl.1 rfl (lv_room (Nat.le_of_ble_eq_true rfl)) dX7_say_62 ⟨Nat.le_of_ble_eq_true rfl, Nat.le_of_ble_eq_true rfl⟩) hS (fun w_5 H locs hw_5 hM hS => ?_)
          have hh_6 := hear_one hru.2.2.1 hru.2.2.2 hw_5
          have h_7 : w_5 0 = .inr (7, [.ref (adr 1), .ref (adr 3), .ref (adr 7), .ref (adr 14), .ref (adr 15), .ref (adr 16), .ref (adr 18), .ref (adr 20), .ref (adr 21), .int (nI no), .int le, .int pr, .int ra]) := by rw [hh_6, va_up_ne _ _ (by omega), va_up_ne _ _ (by omega), va_up_ne _ _ (by omega)]; exact h0
          have h_8 : w_5 3 = .inr (5, [.ref (adr 4), .ref (adr 5), .ref (adr 6)]) := by rw [hh_6, va_up_ne _ _ (by omega), va_up_ne _ _ (by omega), va_up_ne _ _ (by omega)]; exact hru.1
          have h_9 : w_5 4 = .inl (ac 0, 600, .inl (upd fs (t9 * 200 + ((k9 * 50 + j9))) u)) := by rw [hh_6, va_up_ne _ _ (by omega), va_up_ne _ _ (by omega)]; exact va_up_self _ _ _
          have h_10 : w_5 5 = .inl (ac 0, 200, .inl (sayR fs fr t9 ((k9 * 50 + j9)) u)) := by rw [hh_6, va_up_ne _ _ (by omega)]; exact va_up_self _ _ _
          have h_11 : w_5 6 = .inl (ac 0, 200, .inl (fun j => nI (sayT fs fr ft ns t9 ((k9 * 50 + j9)) u j))) := by rw [hh_6]; exact va_up_self _ _ _
          have h_12 : w_5 7 = .inr (2, [.ref (adr 8), .ref (adr 9), .ref (adr 10), .ref (adr 12), .int (nI ns)]) := by rw [hh_6, va_up_ne _ _ (by omega), va_up_ne _ _ (by omega), va_up_ne _ _ (by omega)]; exact hm.1
          have h_13 : w_5 8 = .inl (ac 4, 40, .inr (.inr (.inr (.inr (sref adr ns so))))) := by rw [hh_6, va_up_ne _ _ (by omega), va_up_ne _ _ (by omega), va_up_ne _ _ (by omega)]; exact hm.2.1
          have h_14 : w_5 9 = .inl (ac 1, 50, .inr (.inl hv)) := by rw [hh_6, va_up_ne _ _ (by omega), va_up_ne _ _ (by omega), va_up_ne _ _ (by omega)]; exact hm.2.2.1
          have h_15 : w_5 10 = .inr (1, [.ref (adr 11), .int (nI nd)]) := by rw [hh_6, va_up_ne _ _ (by omega), va_up_ne _ _ (by omega), va_up_ne _ _ (by omega)]; exact hm.2.2.2.1
          have h_16 : w_5 11 = .inl (ac 0, 60, .inl (fun j => nI (du j))) := by rw [hh_6, va_up_ne _ _ (by omega), va_up_ne _ _ (by omega), va_up_ne _ _ (by omega)]; exact hm.2.2.2.2.1
          have h_17 : w_5 12 = .inr (0, [.ref (adr 13)]) := by rw [hh_6, va_up_ne _ _ (by omega), va_up_ne _ _ (by omega), va_up_ne _ _ (by omega)]; exact hm.2.2.2.2.2.1
          have h_18 : w_5 13 = .inl (ac 0, 81, .inl T) := by rw [hh_6, va_up_ne _ _ (by omega), va_up_ne _ _ (by omega), va_up_ne _ _ (by omega)]; exact hm.2.2.2.2.2.2.1
          have h_19 : SenF ac adr w_5 no oc on_ owd obf := by rw [hh_6]; exact (SenF.up (by omega) (SenF.up (by omega) (SenF.up (by omega) hS1)))
          refine lv_aload_n hx hb dX7_say_65 rfl (lv_at hl 0 rfl) ?_
          refine m_get (ci := 7) (C := RX7) (T := TX7) (n := 13) (v := .ref (adr 7)) hx hb hts inX7_ hown hK rfl (hM.cel (by omega) h_7) 2 (by decide) (hts _ (by decide +kernel)) rfl dX7_say_66 ?_
          refine lv_aload_n hx hb dX7_say_69 rfl (lv_at hl 0 rfl) ?_
          refine m_get (ci := 7) (C := RX7) (T := TX7) (n := 13) (v := .ref (adr 3)) hx hb hts inX7_ hown hK rfl (hM.cel (by omega) h_7) 1 (by decide) (hts _ (by decide +kernel)) rfl dX7_say_70 ?_
          refine w_callv (va_runV (As := [.ref (adr 3)]) (rest := []) ⟨hx, hb, hml, hown, hts⟩ (k_X2_listDue l D ac _ A N adr w_5 hM no oc on_ owd obf ns so hv nd du T (by omega) h_19 ⟨h_12, h_13, h_14, h_15, h_16, h_17, h_18, hm.2.2.2.2.2.2.2⟩ hso (upd fs (t9 * 200 + ((k9 * 50 + j9))) u) (sayR fs fr t9 ((k9 * 50 + j9)) u) (sayT fs fr ft ns t9 ((k9 * 50 + j9)) u) ⟨h_8, h_9, h_10, h_11⟩ (hin_.2.1.1) (hin_.2.1.2)) (cwV 1 hts gX7_say_X2_listDue rfl rfl rfl (by decide +kernel) ⟨Nat.le_of_ble_eq_true rfl, Nat.le_of_ble_eq_true rfl⟩) (pV hK (ci := 2) rfl (hM.cel (by omega) h_12)) rfl rfl hl.1 rfl (lv_room (Nat.le_of_ble_eq_true rfl)) dX7_say_73 ⟨Nat.le_of_ble_eq_true rfl, Nat.le_of_ble_eq_true rfl⟩) hS (fun w_21 H locs hw_21 hM hS => ?_)
          obtain ⟨n2_, d2_, hw_21, hl2_⟩ := hw_21
          have h_22 : w_21 0 = .inr (7, [.ref (adr 1), .ref (adr 3), .ref (adr 7), .ref (adr 14), .ref (adr 15), .ref (adr 16), .ref (adr 18), .ref (adr 20), .ref (adr 21), .int (nI no), .int le, .int pr, .int ra]) := by rw [hw_21, va_up_ne _ _ (by omega), va_up_ne _ _ (by omega)]; exact h_7
          have h_23 : w_21 3 = .inr (5, [.ref (adr 4), .ref (adr 5), .ref (adr 6)]) := by rw [hw_21, va_up_ne _ _ (by omega), va_up_ne _ _ (by omega)]; exact h_8
          have h_24 : w_21 4 = .inl (ac 0, 600, .inl (upd fs (t9 * 200 + ((k9 * 50 + j9))) u)) := by rw [hw_21, va_up_ne _ _ (by omega), va_up_ne _ _ (by omega)]; exact h_9
          have h_25 : w_21 5 = .inl (ac 0, 200, .inl (sayR fs fr t9 ((k9 * 50 + j9)) u)) := by rw [hw_21, va_up_ne _ _ (by omega), va_up_ne _ _ (by omega)]; exact h_10
          have h_26 : w_21 6 = .inl (ac 0, 200, .inl (fun j => nI (sayT fs fr ft ns t9 ((k9 * 50 + j9)) u j))) := by rw [hw_21, va_up_ne _ _ (by omega), va_up_ne _ _ (by omega)]; exact h_11
          have h_27 : w_21 7 = .inr (2, [.ref (adr 8), .ref (adr 9), .ref (adr 10), .ref (adr 12), .int (nI ns)]) := by rw [hw_21, va_up_ne _ _ (by omega), va_up_ne _ _ (by omega)]; exact h_12
          have h_28 : w_21 8 = .inl (ac 4, 40, .inr (.inr (.inr (.inr (sref adr ns so))))) := by rw [hw_21, va_up_ne _ _ (by omega), va_up_ne _ _ (by omega)]; exact h_13
          have h_29 : w_21 9 = .inl (ac 1, 50, .inr (.inl hv)) := by rw [hw_21, va_up_ne _ _ (by omega), va_up_ne _ _ (by omega)]; exact h_14
          have h_30 : w_21 10 = .inr (1, [.ref (adr 11), .int (nI n2_)]) := by rw [hw_21]; exact va_up_self _ _ _
          have h_31 : w_21 11 = .inl (ac 0, 60, .inl (fun j => nI (d2_ j))) := by rw [hw_21, va_up_ne _ _ (by omega)]; exact va_up_self _ _ _
          have h_32 : w_21 12 = .inr (0, [.ref (adr 13)]) := by rw [hw_21, va_up_ne _ _ (by omega), va_up_ne _ _ (by omega)]; exact h_17
          have h_33 : w_21 13 = .inl (ac 0, 81, .inl T) := by rw [hw_21, va_up_ne _ _ (by omega), va_up_ne _ _ (by omega)]; exact h_18
          have h_34 : SenF ac adr w_21 no oc on_ owd obf := by rw [hw_21]; exact (SenF.up (by omega) (SenF.up (by omega) h_19))
          have hok_ := ld_ok hin_.2.1.1 hin_.2.1.2 hl2_
          refine lv_aload_n hx hb dX7_say_76 rfl (lv_at hl 0 rfl) ?_
          refine m_get (ci := 7) (C := RX7) (T := TX7) (n := 13) (v := .ref (adr 7)) hx hb hts inX7_ hown hK rfl (hM.cel (by omega) h_22) 2 (by decide) (hts _ (by decide +kernel)) rfl dX7_say_77 ?_
          refine m_getN (host := RX7) (ci := 2) (C := RX2) (T := TX2) (n := 5) (v := .ref (adr 10)) hx hb hts inX2_ hown hK rfl (hM.cel (by omega) h_27) 2 (by decide) 10 rfl rfl dX7_say_80 ?_
          refine m_getN (host := RX7) (ci := 1) (C := RX1) (T := TX1) (n := 2) (v := .int (nI n2_)) hx hb hts inX1_ hown hK rfl (hM.cel (by omega) h_30) 1 (by decide) 8 rfl rfl dX7_say_83 ?_
          exact ex_i hx hb hlocks hr dX7_say_86 (Nat.le_of_ble_eq_true rfl) (Nat.le_of_ble_eq_true rfl) hM hS (⟨t9, k9, j9, ht9_, hk_k9, hk_j9, rfl, rfl, rfl, ⟨c25, c32⟩, n2_, d2_, hl2_, rfl, by rw [hw_21, hh_6]; exact ⟨(TGW.up (by omega) (TGW.up (by omega) (TGW.up (by omega) (TGW.up (by omega) (TGW.up (by omega) hR.1))))), (DraW.up (by omega) (DraW.up (by omega) (DraW.up (by omega) (DraW.up (by omega) (DraW.up (by omega) hR.2.1))))), (RulW.up (by omega) (RulW.up (by omega) (RulW.set hR.2.2.1))), (MemW.due (Nat.le_trans (ld_len hok_) (by omega)) (MemW.up (by omega) (MemW.up (by omega) (MemW.up (by omega) hR.2.2.2.1)))), (SenF.up (by omega) (SenF.up (by omega) (SenF.up (by omega) (SenF.up (by omega) (SenF.up (by omega) hR.2.2.2.2.1))))), (OrdF.up (by omega) (OrdF.up (by omega) (OrdF.up (by omega) (OrdF.up (by omega) (OrdF.up (by omega) hR.2.2.2.2.2.1))))), (DesW.up (by omega) (DesW.up (by omega) (DesW.up (by omega) (DesW.up (by omega) (DesW.up (by omega) hR.2.2.2.2.2.2.1))))), (HanW.up (by omega) (HanW.up (by omega) (HanW.up (by omega) (HanW.up (by omega) (HanW.up (by omega) hR.2.2.2.2.2.2.2.1))))), (MonW.up (by omega) (MonW.up (by omega) (MonW.up (by omega) (MonW.up (by omega) (MonW.up (by omega) hR.2.2.2.2.2.2.2.2.1))))), (HIn.list hin_ hok_)⟩⟩)
        · exact x_throw hx hb hlt hlocks hout hown (by decide) (hts _ (by decide +kernel)) (hts _ (by decide +kernel)) (fun w hw => hts w (hgIA_ w hw)) ng_IA ot_IA hX hM hS (hl.1.trans hml.symm) dX7_say_35 dX7_say_38 dX7_say_39 dX7_say_42 (Nat.le_of_ble_eq_true rfl) (Nat.le_of_ble_eq_true rfl) (Nat.le_of_ble_eq_true rfl) (Nat.le_of_ble_eq_true rfl) (Nat.le_of_ble_eq_true rfl) (Nat.le_of_ble_eq_true rfl) (⟨rfl, by first | (rw [decide_eq_true c25]; simp [cd1]; done) | (rw [decide_eq_false c32]; simp [cd1])⟩)
    · exact x_throw hx hb hlt hlocks hout hown (by decide) (hts _ (by decide +kernel)) (hts _ (by decide +kernel)) (fun w hw => hts w (hgIA_ w hw)) ng_IA ot_IA hX hM hS (hl.1.trans hml.symm) dX7_say_9 dX7_say_12 dX7_say_13 dX7_say_16 (Nat.le_of_ble_eq_true rfl) (Nat.le_of_ble_eq_true rfl) (Nat.le_of_ble_eq_true rfl) (Nat.le_of_ble_eq_true rfl) (Nat.le_of_ble_eq_true rfl) (Nat.le_of_ble_eq_true rfl) (⟨rfl, by rw [ixn (n := 3) (by first | exact Or.inl c1 | exact Or.inr (le_of_nlt c6))]; rfl⟩)
