/-- a sentence in the memory of the machine: its five cells, by names from q on -/
def SenW (ac : Nat → ClassId) (adr : Nat → Nat) (w : Nat → va_E) (q cl n : Nat) (wd : Nat → Nat) (bf : Nat → Int32) : Prop := w q = .inr (6, [.int (nI cl), .ref (adr (q + 1)), .ref (adr (q + 3))]) ∧ w (q + 1) = .inr (4, [.ref (adr (q + 2)), .int (nI n)]) ∧ w (q + 2) = .inl (ac 0, 8, .inl (fun j => nI (wd j))) ∧ w (q + 3) = .inr (4, [.ref (adr (q + 4)), .int (nI n)]) ∧ w (q + 4) = .inl (ac 0, 8, .inl bf) ∧ 0 < n ∧ n ≤ 8 ∧ cl < 4 ∧ ∀ j, j < n → wd j < 50
def SenF (ac : Nat → ClassId) (adr : Nat → Nat) (w : Nat → va_E) (no : Nat) (oc on_ : Nat → Nat) (owd : Nat → Nat → Nat) (obf : Nat → Nat → Int32) : Prop := ∀ o, o < no → SenW ac adr w (23 + 6 * o) (oc o) (on_ o) (owd o) (obf o)
theorem SenW.up {ac : Nat → ClassId} {adr : Nat → Nat} {w : Nat → va_E} {q cl n : Nat} {wd : Nat → Nat} {bf : Nat → Int32} (h : SenW ac adr w q cl n wd bf) {k : Nat} {e : va_E} (hk : k < q ∨ q + 4 < k) : SenW ac adr (va_up w k e) q cl n wd bf := by
  obtain ⟨h1, h2, h3, h4, h5, h6⟩ := h
  exact ⟨by rw [va_up_ne _ _ (by omega)]; exact h1, by rw [va_up_ne _ _ (by omega)]; exact h2, by rw [va_up_ne _ _ (by omega)]; exact h3, by rw [va_up_ne _ _ (by omega)]; exact h4, by rw [va_up_ne _ _ (by omega)]; exact h5, h6⟩
theorem SenF.up {ac : Nat → ClassId} {adr : Nat → Nat} {w : Nat → va_E} {no : Nat} {oc on_ : Nat → Nat} {owd : Nat → Nat → Nat} {obf : Nat → Nat → Int32} {k : Nat} {e : va_E} (hk : k < 22 ∨ k % 6 = 4) (h : SenF ac adr w no oc on_ owd obf) : SenF ac adr (va_up w k e) no oc on_ owd obf := fun o ho => (h o ho).up (by omega)
theorem SenF.bf {ac : Nat → ClassId} {adr : Nat → Nat} {w : Nat → va_E} {no : Nat} {oc on_ : Nat → Nat} {owd : Nat → Nat → Nat} {obf : Nat → Nat → Int32} {o : Nat} {bf : Nat → Int32} (h : SenF ac adr w no oc on_ owd obf) : SenF ac adr (va_up w (27 + 6 * o) (.inl (ac 0, 8, .inl bf))) no oc on_ owd (fun x => if x = o then bf else obf x) := by
  intro x hx
  by_cases e : x = o
  · subst e
    obtain ⟨h1, h2, h3, h4, h5, h6⟩ := h x hx
    refine ⟨by rw [va_up_ne _ _ (by omega)]; exact h1, by rw [va_up_ne _ _ (by omega)]; exact h2, by rw [va_up_ne _ _ (by omega)]; exact h3, by rw [va_up_ne _ _ (by omega)]; exact h4, ?_, h6⟩
    rw [show 23 + 6 * x + 4 = 27 + 6 * x from by omega, va_up_self]
    show _ = Sum.inl (ac 0, 8, Sum.inl (if x = x then bf else obf x))
    rw [if_pos rfl]
  · have := (h x hx).up (k := 27 + 6 * o) (e := .inl (ac 0, 8, .inl bf)) (by omega)
    rw [show (fun x => if x = o then bf else obf x) x = obf x from if_neg e]
    exact this
/-- where the sold sentences lie -/
def sref (adr : Nat → Nat) (ns : Nat) (so : Nat → Nat) : Nat → Option Nat := fun i => if i < ns then some (adr (23 + 6 * so i)) else none
def MemW (ac : Nat → ClassId) (adr : Nat → Nat) (w : Nat → va_E) (ns : Nat) (so : Nat → Nat) (hv : Nat → Int64) (nd : Nat) (du : Nat → Nat) (T : Nat → Int32) : Prop := w 7 = .inr (2, [.ref (adr 8), .ref (adr 9), .ref (adr 10), .ref (adr 12), .int (nI ns)]) ∧ w 8 = .inl (ac 4, 40, .inr (.inr (.inr (.inr (sref adr ns so))))) ∧ w 9 = .inl (ac 1, 50, .inr (.inl hv)) ∧ w 10 = .inr (1, [.ref (adr 11), .int (nI nd)]) ∧ w 11 = .inl (ac 0, 60, .inl (fun j => nI (du j))) ∧ w 12 = .inr (0, [.ref (adr 13)]) ∧ w 13 = .inl (ac 0, 81, .inl T) ∧ ns ≤ 40 ∧ nd ≤ 40
theorem MemW.tab {ac : Nat → ClassId} {adr : Nat → Nat} {w : Nat → va_E} {ns : Nat} {so : Nat → Nat} {hv : Nat → Int64} {nd : Nat} {du : Nat → Nat} {T T1 : Nat → Int32} (h : MemW ac adr w ns so hv nd du T) : MemW ac adr (va_up w 13 (.inl (ac 0, 81, .inl T1))) ns so hv nd du T1 := by
  obtain ⟨h1, h2, h3, h4, h5, h6, h7, h8⟩ := h
  exact ⟨by rw [va_up_ne _ _ (by decide)]; exact h1, by rw [va_up_ne _ _ (by decide)]; exact h2, by rw [va_up_ne _ _ (by decide)]; exact h3, by rw [va_up_ne _ _ (by decide)]; exact h4, by rw [va_up_ne _ _ (by decide)]; exact h5, by rw [va_up_ne _ _ (by decide)]; exact h6, va_up_self _ _ _, h8⟩
theorem MemW.up {ac : Nat → ClassId} {adr : Nat → Nat} {w : Nat → va_E} {ns : Nat} {so : Nat → Nat} {hv : Nat → Int64} {nd : Nat} {du : Nat → Nat} {T : Nat → Int32} {k : Nat} {e : va_E} (hk : k < 7 ∨ 13 < k) (h : MemW ac adr w ns so hv nd du T) : MemW ac adr (va_up w k e) ns so hv nd du T := by
  obtain ⟨h1, h2, h3, h4, h5, h6, h7, h8⟩ := h
  exact ⟨by rw [va_up_ne _ _ (by omega)]; exact h1, by rw [va_up_ne _ _ (by omega)]; exact h2, by rw [va_up_ne _ _ (by omega)]; exact h3, by rw [va_up_ne _ _ (by omega)]; exact h4, by rw [va_up_ne _ _ (by omega)]; exact h5, by rw [va_up_ne _ _ (by omega)]; exact h6, by rw [va_up_ne _ _ (by omega)]; exact h7, h8⟩
theorem sat_eq {adr : Nat → Nat} {ns : Nat} {so : Nat → Nat} {x : Int32} (h : ns ≤ 40) : (ix x 40).bind (sref adr ns so) = (ix x ns).map (fun i => adr (23 + 6 * so i)) := by
  rcases hi : ix x ns with _ | i
  · rcases hj : ix x 40 with _ | j
    · rfl
    · obtain ⟨q1, q2⟩ := ix_of hj (by decide)
      subst q2
      rcases ix_none hi with q | q
      · exact absurd q (nI_pos (by omega))
      · have := le_le q (by omega) (by omega)
        show sref adr ns so j = none
        unfold sref
        rw [if_neg (by omega)]
  · obtain ⟨q1, q2⟩ := ix_of hi (by omega)
    subst q2
    rw [ix_nI (by omega) (by decide)]
    show sref adr ns so i = _
    unfold sref
    rw [if_pos q1]
    rfl
theorem va_up_same {α : Type} {f : Nat → α} {k : Nat} {v : α} (h : f k = v) : va_up f k v = f := by
  funext q
  by_cases e : q = k
  · rw [e, va_up_self, h]
  · rw [va_up_ne _ _ e]
theorem va_up_up {α : Type} {f : Nat → α} {k : Nat} {v v1 : α} : va_up (va_up f k v) k v1 = va_up f k v1 := by
  funext q
  by_cases e : q = k
  · rw [e, va_up_self, va_up_self]
  · rw [va_up_ne _ _ e, va_up_ne _ _ e, va_up_ne _ _ e]
set_option maxHeartbeats 4000000 in
set_option maxRecDepth 100000 in
/-- Memory.sentenceAt -/
theorem k_X2_sentenceAt (l : Launch) (D : va_G) (ac : Nat → ClassId) (H : Heap) (a b8 : Nat) (f : Nat → Option Nat) (x1 x2 x3 x4 : Value) (h1 : Cel D H a (.inr (2, [.ref b8, x1, x2, x3, x4]))) (h2 : Cel D H b8 (.inl (ac 4, 40, .inr (.inr (.inr (.inr f)))))) (x : Int32) : ROq l yX2_sentenceAt wsX2_sentenceAt ({ frames := 0, cells := 0, slots := 0, locals := 0 }) [.ref a, .int x] D ac H (fun r => r = (ix x 40).bind f) := by
  refine Met.ofW (cc := cX2_sentenceAt) (maxL := 2) (ret := (some (.object "TermGate$Sentence"))) (by decide) rfl ?_
  intro p e s m args below meth c s₁ B hml hv
  obtain ⟨hargs, hsz, hK⟩ := hv
  have hx := B.exec
  have hb := B.bytes
  have hr := B.returns
  have hts := atoms_spec (ws := wsX2_sentenceAt) B.pre
  have hown : s.vm.findClass RX2 = some m.cls := findClass_of_methodNamed B.named
  have hlocks := B.notSynchronized
  subst hsz
  have inX2_ : ∀ w ∈ wsX20, w ∈ wsX2_sentenceAt := by decide +kernel
  have hS : va_S (fun _ => False) s.heap s.heap [] := va_S.rf
  have hl := lv_entry ([.ref a, .int x]) (n := 2) (Nat.le_of_ble_eq_true rfl)
  have hen := lg_entry_eq m [.ref a, .int x] 2
  rw [← hargs] at hen
  rw [hen]
  generalize (lg_sl ([.ref a, .int x]) ++ List.replicate (2 - (lg_sl ([.ref a, .int x])).length) Slot.unset).toArray = ls at hl ⊢
  have hl : lv_has ls 2 [(0, .ref a), (1, .int x)] := hl
  refine lv_iload_n hx hb dX2_sentenceAt_0 rfl (lv_at hl 1 rfl) ?_
  refine lv_if_lt (tgt := 22) hx hb dX2_sentenceAt_1 (by decide) (fun c1 => ?_) (fun c1 => ?_)
  · refine lv_null hx hb dX2_sentenceAt_22 ?_
    exact e_q (r := none) hx hb hlocks hr (Or.inl ⟨_, rfl⟩) dX2_sentenceAt_23 hS (by first | (rw [ix_neg c1]; rfl) | (rw [ix_big c10]; rfl) | (rw [ix_some c1 c10]; rfl))
  · refine lv_iload_n hx hb dX2_sentenceAt_4 rfl (lv_at hl 1 rfl) ?_
    refine lv_aload_n hx hb dX2_sentenceAt_5 rfl (lv_at hl 0 rfl) ?_
    refine m_get (ci := 2) (C := RX2) (T := TX2) (n := 5) (v := .ref b8) hx hb hts inX2_ hown hK rfl h1 0 (by decide) (hts _ (by decide +kernel)) rfl dX2_sentenceAt_6 ?_
    refine m_alen (v := 40) (ty := _) hx hb hK 4 h2 rfl (by first | rfl | decide) dX2_sentenceAt_9 ?_
    refine lv_icmp_ge (tgt := 22) hx hb dX2_sentenceAt_10 (by decide) (fun c10 => ?_) (fun c10 => ?_)
    · refine lv_null hx hb dX2_sentenceAt_22 ?_
      exact e_q (r := none) hx hb hlocks hr (Or.inl ⟨_, rfl⟩) dX2_sentenceAt_23 hS (by first | (rw [ix_neg c1]; rfl) | (rw [ix_big c10]; rfl) | (rw [ix_some c1 c10]; rfl))
    · refine lv_aload_n hx hb dX2_sentenceAt_13 rfl (lv_at hl 0 rfl) ?_
      refine m_get (ci := 2) (C := RX2) (T := TX2) (n := 5) (v := .ref b8) hx hb hts inX2_ hown hK rfl h1 0 (by decide) (hts _ (by decide +kernel)) rfl dX2_sentenceAt_14 ?_
      refine lv_iload_n hx hb dX2_sentenceAt_17 rfl (lv_at hl 1 rfl) ?_
      refine m_aldq hx hb hK 4 h2 rfl (vin_a c1 c10 (by decide)) dX2_sentenceAt_18 ?_
      refine lv_goto (tgt := 23) hx hb dX2_sentenceAt_19 (by decide) ?_
      exact e_q (r := f x.toNatClampNeg) hx hb hlocks hr (Or.inl ⟨_, rfl⟩) dX2_sentenceAt_23 hS (by first | (rw [ix_neg c1]; rfl) | (rw [ix_big c10]; rfl) | (rw [ix_some c1 c10]; rfl))
/-- the share by a likeness -/
def shI (L : Int32) : Int32 := if 100 ≤ L then 20 else if 85 ≤ L then 50 else if 70 ≤ L then 70 else 90
/-- the likeness of a row of n words f and the sentence o -/
def lkO (n : Nat) (f : Nat → Int32) (on_ : Nat → Nat) (owd : Nat → Nat → Nat) (o : Nat) : Int32 := lik (max n (on_ o)) (ed f (fun j => nI (owd o j)) n (on_ o))
/-- the share of a row of n words f by the match x -/
def shO (n : Nat) (f : Nat → Int32) (on_ : Nat → Nat) (owd : Nat → Nat → Nat) (ns : Nat) (so : Nat → Nat) (x : Int32) : Int32 := (ix x ns).elim 100 (fun i => shI (lkO n f on_ owd (so i)))
theorem nle_of_lt {a b : Int32} (h : a < b) : ¬ b ≤ a := by
  rw [Int32.lt_iff_toInt_lt] at h
  rw [Int32.le_iff_toInt_le]
  omega
theorem le_of_nlt {a b : Int32} (h : ¬ a < b) : b ≤ a := by
  rw [Int32.lt_iff_toInt_lt] at h
  rw [Int32.le_iff_toInt_le]
  omega
set_option maxHeartbeats 4000000 in
set_option maxRecDepth 100000 in
/-- Memory.shareOf -/
theorem k_X2_shareOf (l : Launch) (D : va_G) (ac : Nat → ClassId) (H : Heap) (A : Nat → Prop) (N : Nat) (adr : Nat → Nat) (w : Nat → va_E) (hM : MW D A N adr w H) (no : Nat) (oc on_ : Nat → Nat) (owd : Nat → Nat → Nat) (obf : Nat → Nat → Int32) (ns : Nat) (so : Nat → Nat) (hv : Nat → Int64) (nd : Nat) (du : Nat → Nat) (T : Nat → Int32) (hN : 22 + 6 * no ≤ N) (hS1 : SenF ac adr w no oc on_ owd obf) (hm : MemW ac adr w ns so hv nd du T) (hso : ∀ i, i < ns → so i < no) (ra va n : Nat) (f : Nat → Int32) (hra : ra < N) (hva : va < N) (hrn : (ra < 7 ∨ 13 < ra) ∧ (va < 7 ∨ 13 < va)) (hn0 : 0 < n) (hn : n ≤ 8) (g1 : w ra = .inr (4, [.ref (adr va), .int (nI n)])) (g2 : w va = .inl (ac 0, 8, .inl f)) (x : Int32) : WRi l yX2_shareOf wsX2_shareOf ({ frames := 4, cells := 0, slots := 0, locals := 98 }) [.ref (adr 7), .ref (adr ra), .int x] D ac H A N adr (fun r w1 => r = shO n f on_ owd ns so x ∧ ∃ T1 : Nat → Int32, w1 = va_up w 13 (.inl (ac 0, 81, .inl T1))) := by
  refine Met.ofW (cc := cX2_shareOf) (maxL := 5) (ret := (some .int)) (by decide) rfl ?_
  intro p e s m args below meth c s₁ B hml hv
  obtain ⟨hargs, hsz, hK⟩ := hv
  have hx := B.exec
  have hb := B.bytes
  have hr := B.returns
  have hts := atoms_spec (ws := wsX2_shareOf) B.pre
  have hown : s.vm.findClass RX2 = some m.cls := findClass_of_methodNamed B.named
  have hlocks := B.notSynchronized
  subst hsz
  have inX2_ : ∀ w ∈ wsX20, w ∈ wsX2_shareOf := by decide +kernel
  have inX6_ : ∀ w ∈ wsX60, w ∈ wsX2_shareOf := by decide +kernel
  have hS : va_S A s.heap s.heap [] := va_S.rf
  have hl := lv_entry ([.ref (adr 7), .ref (adr ra), .int x]) (n := 5) (Nat.le_of_ble_eq_true rfl)
  have hen := lg_entry_eq m [.ref (adr 7), .ref (adr ra), .int x] 5
  rw [← hargs] at hen
  rw [hen]
  generalize (lg_sl ([.ref (adr 7), .ref (adr ra), .int x]) ++ List.replicate (5 - (lg_sl ([.ref (adr 7), .ref (adr ra), .int x])).length) Slot.unset).toArray = ls at hl ⊢
  have hl : lv_has ls 5 [(0, .ref (adr 7)), (1, .ref (adr ra)), (2, .int x)] := hl
  obtain ⟨hns, hnd⟩ := hm.2.2.2.2.2.2.2
  refine lv_aload_n hx hb dX2_shareOf_0 rfl (lv_at hl 0 rfl) ?_
  refine lv_iload_n hx hb dX2_shareOf_1 rfl (lv_at hl 2 rfl) ?_
  refine r_callq (va_runV (As := [.int x]) (rest := []) ⟨hx, hb, hml, hown, hts⟩ (k_X2_sentenceAt l D ac _ (adr 7) (adr 8) (sref adr ns so) (.ref (adr 9)) (.ref (adr 10)) (.ref (adr 12)) (.int (nI ns)) (hM.cel (by omega) hm.1) (hM.cel (by omega) hm.2.1) x) (cwV 1 hts gX2_shareOf_X2_sentenceAt rfl rfl rfl (by decide +kernel) ⟨Nat.le_of_ble_eq_true rfl, Nat.le_of_ble_eq_true rfl⟩) (pV hK (ci := 2) rfl (hM.cel (by omega) hm.1)) rfl rfl hl.1 rfl (lv_room (Nat.le_of_ble_eq_true rfl)) dX2_shareOf_2 ⟨Nat.le_of_ble_eq_true rfl, Nat.le_of_ble_eq_true rfl⟩) hS (fun rv_1 locs hrv_1 hS => ?_)
  subst hrv_1
  refine m_topq (show (ix x 40).bind (sref adr ns so) = (ix x ns).map (fun i => adr (23 + 6 * so i)) from sat_eq (by omega)) ?_
  rcases hi : ix x ns with _ | jhi
  · refine m_topn ?_
    refine lv_astore_nN (lv' := [(3, .null), (0, .ref (adr 7)), (1, .ref (adr ra)), (2, .int x)]) hx hb dX2_shareOf_5 rfl hl (by decide) rfl (fun ls hl => ?_)
    refine lv_aload_nN hx hb dX2_shareOf_6 rfl (lv_at hl 0 rfl) ?_
    refine lv_ifnonnullN hx hb dX2_shareOf_7 ?_
    refine lv_bipush (v := 100) hx hb dX2_shareOf_10 (by decide) ?_
    exact e_wi hx hb hlocks hr dX2_shareOf_12 hM hS (⟨by unfold shO; rw [hi]; rfl, T, (va_up_same hm.2.2.2.2.2.2.1).symm⟩)
  · obtain ⟨hj_, he_⟩ := ix_of hi (by omega)
    have ho_ : so jhi < no := hso jhi hj_
    have hsn_ := hS1 (so jhi) ho_
    obtain ⟨hn0_, hn8_, hcl_, hwd_⟩ := hsn_.2.2.2.2.2
    refine m_topr ?_
    refine lv_astore_n (lv' := [(3, .ref (adr (23 + 6 * so jhi))), (0, .ref (adr 7)), (1, .ref (adr ra)), (2, .int x)]) hx hb dX2_shareOf_5 rfl hl (by decide) rfl (fun ls hl => ?_)
    refine lv_aload_n hx hb dX2_shareOf_6 rfl (lv_at hl 0 rfl) ?_
    refine lv_ifnonnull (tgt := 13) hx hb dX2_shareOf_7 (by decide) ?_
    refine lv_aload_n hx hb dX2_shareOf_13 rfl (lv_at hl 1 rfl) ?_
    refine m_get (ci := 2) (C := RX2) (T := TX2) (n := 5) (v := .ref (adr 12)) hx hb hts inX2_ hown hK rfl (hM.cel (by omega) hm.1) 3 (by decide) (hts _ (by decide +kernel)) rfl dX2_shareOf_14 ?_
    refine lv_aload_n hx hb dX2_shareOf_17 rfl (lv_at hl 2 rfl) ?_
    refine lv_aload_n hx hb dX2_shareOf_18 rfl (lv_at hl 0 rfl) ?_
    refine m_getN (host := RX7) (ci := 6) (C := RX6) (T := TX6) (n := 3) (v := .ref (adr (23 + 6 * so jhi + 1))) hx hb hts inX6_ hown hK rfl (hM.cel (by have := ho_; omega) hsn_.1) 1 (by decide) 17 rfl rfl dX2_shareOf_19 ?_
    refine w_calli (va_runV (As := [.ref (adr ra), .ref (adr (23 + 6 * so jhi + 1))]) (rest := []) ⟨hx, hb, hml, hown, hts⟩ (k_X0_likenessOf l D ac _ A N adr w hM 12 13 T (by omega) (by omega) (by omega) hm.2.2.2.2.2.1 hm.2.2.2.2.2.2.1 ra va (23 + 6 * so jhi + 1) (23 + 6 * so jhi + 2) n ((on_ (so jhi))) f (fun j => nI (owd (so jhi) j)) hra hva (by have := ho_; omega) (by have := ho_; omega) (by omega) (by omega) (by omega) g1 g2 hsn_.2.1 hsn_.2.2.1 (Nat.lt_of_lt_of_le hn0 (Nat.le_max_left _ _))) (cwV 2 hts gX2_shareOf_X0_likenessOf rfl rfl rfl (by decide +kernel) ⟨Nat.le_of_ble_eq_true rfl, Nat.le_of_ble_eq_true rfl⟩) (pV hK (ci := 0) rfl (hM.cel (by omega) hm.2.2.2.2.2.1)) rfl rfl hl.1 rfl (lv_room (Nat.le_of_ble_eq_true rfl)) dX2_shareOf_22 ⟨Nat.le_of_ble_eq_true rfl, Nat.le_of_ble_eq_true rfl⟩) hS (fun rv_2 w_3 H locs hw_3 hM hS => ?_)
    obtain ⟨hrv_2, T_4, hw_3, eT_4⟩ := hw_3
    have h_5 : w_3 7 = .inr (2, [.ref (adr 8), .ref (adr 9), .ref (adr 10), .ref (adr 12), .int (nI ns)]) := by rw [hw_3, va_up_ne _ _ (by omega)]; exact hm.1
    have h_6 : w_3 8 = .inl (ac 4, 40, .inr (.inr (.inr (.inr (sref adr ns so))))) := by rw [hw_3, va_up_ne _ _ (by omega)]; exact hm.2.1
    have h_7 : w_3 9 = .inl (ac 1, 50, .inr (.inl hv)) := by rw [hw_3, va_up_ne _ _ (by omega)]; exact hm.2.2.1
    have h_8 : w_3 10 = .inr (1, [.ref (adr 11), .int (nI nd)]) := by rw [hw_3, va_up_ne _ _ (by omega)]; exact hm.2.2.2.1
    have h_9 : w_3 11 = .inl (ac 0, 60, .inl (fun j => nI (du j))) := by rw [hw_3, va_up_ne _ _ (by omega)]; exact hm.2.2.2.2.1
    have h_10 : w_3 12 = .inr (0, [.ref (adr 13)]) := by rw [hw_3, va_up_ne _ _ (by omega)]; exact hm.2.2.2.2.2.1
    have h_11 : w_3 13 = .inl (ac 0, 81, .inl T_4) := by rw [hw_3]; exact va_up_self _ _ _
    have h_12 : w_3 ra = .inr (4, [.ref (adr va), .int (nI n)]) := by rw [hw_3, va_up_ne _ _ (by omega)]; exact g1
    have h_13 : w_3 va = .inl (ac 0, 8, .inl f) := by rw [hw_3, va_up_ne _ _ (by omega)]; exact g2
    have h_14 : w_3 (23 + 6 * so jhi) = .inr (6, [.int (nI (oc (so jhi))), .ref (adr (23 + 6 * so jhi + 1)), .ref (adr (23 + 6 * so jhi + 3))]) := by rw [hw_3, va_up_ne _ _ (by omega)]; exact hsn_.1
    have h_15 : w_3 (23 + 6 * so jhi + 1) = .inr (4, [.ref (adr (23 + 6 * so jhi + 2)), .int (nI (on_ (so jhi)))]) := by rw [hw_3, va_up_ne _ _ (by omega)]; exact hsn_.2.1
    have h_16 : w_3 (23 + 6 * so jhi + 2) = .inl (ac 0, 8, .inl (fun j => nI (owd (so jhi) j))) := by rw [hw_3, va_up_ne _ _ (by omega)]; exact hsn_.2.2.1
    have h_17 : w_3 (23 + 6 * so jhi + 3) = .inr (4, [.ref (adr (23 + 6 * so jhi + 4)), .int (nI (on_ (so jhi)))]) := by rw [hw_3, va_up_ne _ _ (by omega)]; exact hsn_.2.2.2.1
    have h_18 : w_3 (23 + 6 * so jhi + 4) = .inl (ac 0, 8, .inl (obf (so jhi))) := by rw [hw_3, va_up_ne _ _ (by omega)]; exact hsn_.2.2.2.2.1
    have h_19 : SenF ac adr w_3 no oc on_ owd obf := by rw [hw_3]; exact (SenF.up (by omega) hS1)
    subst hrv_2
    refine lv_istore (lv' := [(4, .int (lik (max n ((on_ (so jhi)))) (ed f (fun j => nI (owd (so jhi) j)) n ((on_ (so jhi)))))), (3, .ref (adr (23 + 6 * so jhi))), (0, .ref (adr 7)), (1, .ref (adr ra)), (2, .int x)]) hx hb dX2_shareOf_25 hl (by decide) rfl (fun ls hl => ?_)
    refine lv_iload hx hb dX2_shareOf_27 (lv_at hl 0 rfl) ?_
    refine lv_bipush (v := 100) hx hb dX2_shareOf_29 (by decide) ?_
    refine lv_icmp_lt (tgt := 37) hx hb dX2_shareOf_31 (by decide) (fun c31 => ?_) (fun c31 => ?_)
    · refine lv_iload hx hb dX2_shareOf_37 (lv_at hl 0 rfl) ?_
      refine lv_bipush (v := 85) hx hb dX2_shareOf_39 (by decide) ?_
      refine lv_icmp_lt (tgt := 47) hx hb dX2_shareOf_41 (by decide) (fun c41 => ?_) (fun c41 => ?_)
      · refine lv_iload hx hb dX2_shareOf_47 (lv_at hl 0 rfl) ?_
        refine lv_bipush (v := 70) hx hb dX2_shareOf_49 (by decide) ?_
        refine lv_icmp_lt (tgt := 59) hx hb dX2_shareOf_51 (by decide) (fun c51 => ?_) (fun c51 => ?_)
        · refine lv_bipush (v := 90) hx hb dX2_shareOf_59 (by decide) ?_
          exact e_wi hx hb hlocks hr dX2_shareOf_61 hM hS (⟨by unfold shO; rw [hi]; show _ = shI (lkO n f on_ owd (so jhi)); unfold shI lkO; rw [if_neg (nle_of_lt c31), if_neg (nle_of_lt c41)]; first | rw [if_pos (le_of_nlt c51)] | rw [if_neg (nle_of_lt c51)], T_4, hw_3⟩)
        · refine lv_bipush (v := 70) hx hb dX2_shareOf_54 (by decide) ?_
          refine lv_goto (tgt := 61) hx hb dX2_shareOf_56 (by decide) ?_
          exact e_wi hx hb hlocks hr dX2_shareOf_61 hM hS (⟨by unfold shO; rw [hi]; show _ = shI (lkO n f on_ owd (so jhi)); unfold shI lkO; rw [if_neg (nle_of_lt c31), if_neg (nle_of_lt c41)]; first | rw [if_pos (le_of_nlt c51)] | rw [if_neg (nle_of_lt c51)], T_4, hw_3⟩)
      · refine lv_bipush (v := 50) hx hb dX2_shareOf_44 (by decide) ?_
        exact e_wi hx hb hlocks hr dX2_shareOf_46 hM hS (⟨by unfold shO; rw [hi]; show _ = shI (lkO n f on_ owd (so jhi)); unfold shI lkO; rw [if_neg (nle_of_lt c31), if_pos (le_of_nlt c41)], T_4, hw_3⟩)
    · refine lv_bipush (v := 20) hx hb dX2_shareOf_34 (by decide) ?_
      exact e_wi hx hb hlocks hr dX2_shareOf_36 hM hS (⟨by unfold shO; rw [hi]; show _ = shI (lkO n f on_ owd (so jhi)); unfold shI lkO; rw [if_pos (le_of_nlt c31)], T_4, hw_3⟩)
/-- the sentences that share one of the first words of a row -/
def shw (hv : Nat → Int64) (wd : Nat → Nat) : Nat → Int64
  | 0 => 0
  | j + 1 => shw hv wd j ||| hv (wd j)
set_option maxHeartbeats 4000000 in
set_option maxRecDepth 100000 in
/-- Memory.sharingWith -/
theorem k_X2_sharingWith (l : Launch) (D : va_G) (ac : Nat → ClassId) (H : Heap) (a b9 : Nat) (hv : Nat → Int64) (x1 x2 x3 x4 : Value) (h1 : Cel D H a (.inr (2, [x1, .ref b9, x2, x3, x4]))) (h2 : Cel D H b9 (.inl (ac 1, 50, .inr (.inl hv)))) (ra va n : Nat) (wd : Nat → Nat) (h3 : Cel D H ra (.inr (4, [.ref va, .int (nI n)]))) (h4 : Cel D H va (.inl (ac 0, 8, .inl (fun j => nI (wd j))))) (hn : n ≤ 8) (hwd : ∀ j, j < n → wd j < 50) : ROl l yX2_sharingWith wsX2_sharingWith ({ frames := 1, cells := 0, slots := 0, locals := 21 }) [.ref a, .ref ra] D ac H (fun r => r = shw hv wd n) := by
  refine Met.ofW (cc := cX2_sharingWith) (maxL := 6) (ret := (some .long)) (by decide) rfl ?_
  intro p e s m args below meth c s₁ B hml hv
  obtain ⟨hargs, hsz, hK⟩ := hv
  have hx := B.exec
  have hb := B.bytes
  have hr := B.returns
  have hts := atoms_spec (ws := wsX2_sharingWith) B.pre
  have hown : s.vm.findClass RX2 = some m.cls := findClass_of_methodNamed B.named
  have hlocks := B.notSynchronized
  subst hsz
  have inX2_ : ∀ w ∈ wsX20, w ∈ wsX2_sharingWith := by decide +kernel
  have inX4_ : ∀ w ∈ wsX40, w ∈ wsX2_sharingWith := by decide +kernel
  have hS : va_S (fun _ => False) s.heap s.heap [] := va_S.rf
  have hl := lv_entry ([.ref a, .ref ra]) (n := 6) (Nat.le_of_ble_eq_true rfl)
  have hen := lg_entry_eq m [.ref a, .ref ra] 6
  rw [← hargs] at hen
  rw [hen]
  generalize (lg_sl ([.ref a, .ref ra]) ++ List.replicate (6 - (lg_sl ([.ref a, .ref ra])).length) Slot.unset).toArray = ls at hl ⊢
  have hl : lv_has ls 6 [(0, .ref a), (1, .ref ra)] := hl
  obtain ⟨Q0, hQ0⟩ : ∃ z, z = MQ below (va_Ql (fun r (_ : Unit) => (fun r => r = shw hv wd n) r) (fun _ t => t.heap = s.heap) (fun _ => False)) args s 0 0 (fun _ => False) := ⟨_, rfl⟩
  rw [← hQ0]
  refine lv_lconst (v := 0) hx hb dX2_sharingWith_0 (by decide) ?_
  refine lv_lstore_n (lv' := [(2, .long 0), (0, .ref a), (1, .ref ra)]) hx hb dX2_sharingWith_1 rfl hl (by decide) rfl (fun ls hl => ?_)
  refine lv_iconst (v := 0) hx hb dX2_sharingWith_2 (by decide) ?_
  refine lv_istore (lv' := [(4, .int 0), (2, .long 0), (0, .ref a), (1, .ref ra)]) hx hb dX2_sharingWith_3 hl (by decide) rfl (fun ls hl => ?_)
  have L5 : ∀ (k9 : Nat) (i : Nat) (hk : n - i < k9) (hi : i ≤ n) (locs : List Loc) (hS : va_S (fun _ => False) s.heap s.heap locs) (ls : Array Slot) (hl : lv_has ls 6 [(0, .ref a), (1, .ref ra), (2, .long (shw hv wd i)), (4, .int (nI i))]), W p l e (headSpec wsX2_sharingWith ({ frames := 1, cells := 0, slots := 0, locals := 21 })).room s m args below meth c s.heap locs 0 0 Q0 (F0 m 5 ls []) := by
    intro k9
    induction k9 with
    | zero => intro i hk hi locs hS ls hl; exact absurd hk (Nat.not_lt_zero _)
    | succ k9 ih5 =>
      intro i hk hi locs hS ls hl
      refine lv_iload hx hb dX2_sharingWith_5 (lv_at hl 3 rfl) ?_
      refine lv_aload_n hx hb dX2_sharingWith_7 rfl (lv_at hl 1 rfl) ?_
      refine m_getN (host := RX7) (ci := 4) (C := RX4) (T := TX4) (n := 2) (v := .int (nI n)) hx hb hts inX4_ hown hK rfl h3 1 (by decide) 4 rfl rfl dX2_sharingWith_8 ?_
      refine lv_icmp_ge (tgt := 53) hx hb dX2_sharingWith_11 (by decide) (fun c11 => ?_) (fun c11 => ?_)
      · have hin : i = n := by have := le_le (b := i) c11 (by omega) (by omega); omega
        refine lv_lload_n hx hb dX2_sharingWith_53 rfl (lv_at hl 2 rfl) ?_
        rw [hQ0]
        exact e_l hx hb hlocks hr dX2_sharingWith_54 hS (by rw [hin])
      · have hin : i < n := nle_lt c11 (by omega) (by omega)
        have hw_ := hwd i hin
        refine lv_aload_n hx hb dX2_sharingWith_14 rfl (lv_at hl 1 rfl) ?_
        refine lv_iload hx hb dX2_sharingWith_15 (lv_at hl 3 rfl) ?_
        refine r_calli (va_runV (As := [.int (nI i)]) (rest := []) ⟨hx, hb, hml, hown, hts⟩ (k_X4_at l D ac _ ra va n (fun j => nI (wd j)) h3 h4 (by omega) (nI i)) (cwV 1 hts gX2_sharingWith_X4_at rfl rfl rfl (by decide +kernel) ⟨Nat.le_of_ble_eq_true rfl, Nat.le_of_ble_eq_true rfl⟩) (pV hK (ci := 4) rfl h3) rfl rfl hl.1 rfl (lv_room (Nat.le_of_ble_eq_true rfl)) dX2_sharingWith_17 ⟨Nat.le_of_ble_eq_true rfl, Nat.le_of_ble_eq_true rfl⟩) hS (fun rv_1 locs hrv_1 hS => ?_)
        subst hrv_1
        refine m_top (show ((ix (nI i) n).elim (-1) (fun j => nI (wd j))) = nI (wd i) from by rw [ix_nI hin (by omega)]; rfl) ?_
        refine lv_istore (lv' := [(5, .int (nI (wd i))), (0, .ref a), (1, .ref ra), (2, .long (shw hv wd i)), (4, .int (nI i))]) hx hb dX2_sharingWith_20 hl (by decide) rfl (fun ls hl => ?_)
        refine lv_iload hx hb dX2_sharingWith_22 (lv_at hl 0 rfl) ?_
        refine lv_if_lt (tgt := 47) hx hb dX2_sharingWith_24 (by decide) (fun c24 => ?_) (fun c24 => ?_)
        · exact absurd c24 (nI_pos (by omega))
        · refine lv_iload hx hb dX2_sharingWith_27 (lv_at hl 0 rfl) ?_
          refine lv_aload_n hx hb dX2_sharingWith_29 rfl (lv_at hl 1 rfl) ?_
          refine m_get (ci := 2) (C := RX2) (T := TX2) (n := 5) (v := .ref b9) hx hb hts inX2_ hown hK rfl h1 1 (by decide) (hts _ (by decide +kernel)) rfl dX2_sharingWith_30 ?_
          refine m_alen (v := 50) (ty := _) hx hb hK 1 h2 rfl (by first | rfl | decide) dX2_sharingWith_33 ?_
          refine lv_icmp_ge (tgt := 47) hx hb dX2_sharingWith_34 (by decide) (fun c34 => ?_) (fun c34 => ?_)
          · exact absurd (le_le (a := 50) c34 (by omega) (by omega)) (by omega)
          · refine lv_lload_n hx hb dX2_sharingWith_37 rfl (lv_at hl 3 rfl) ?_
            refine lv_aload_n hx hb dX2_sharingWith_38 rfl (lv_at hl 1 rfl) ?_
            refine m_get (ci := 2) (C := RX2) (T := TX2) (n := 5) (v := .ref b9) hx hb hts inX2_ hown hK rfl h1 1 (by decide) (hts _ (by decide +kernel)) rfl dX2_sharingWith_39 ?_
            refine lv_iload hx hb dX2_sharingWith_42 (lv_at hl 0 rfl) ?_
            refine m_lald hx hb hK h2 (vp_in_nI (by omega) (by decide)) dX2_sharingWith_44 ?_
            refine m_topl (show hv (nI (wd i)).toNatClampNeg = hv (wd i) from by rw [nI_clamp (by omega)]) ?_
            refine lv_lor hx hb dX2_sharingWith_45 ?_
            refine m_topl (show (shw hv wd i ||| (hv (wd i))) = shw hv wd (i + 1) from rfl) ?_
            refine lv_lstore_n (lv' := [(2, .long (shw hv wd (i + 1))), (5, .int (nI (wd i))), (0, .ref a), (1, .ref ra), (4, .int (nI i))]) hx hb dX2_sharingWith_46 rfl hl (by decide) rfl (fun ls hl => ?_)
            refine lv_iinc (v := nI (i + 1)) (lv' := [(4, .int (nI (i + 1))), (2, .long (shw hv wd (i + 1))), (5, .int (nI (wd i))), (0, .ref a), (1, .ref ra)]) hx hb dX2_sharingWith_47 hl (k := 4) rfl (nI_1 _) (by decide) rfl (fun ls hl => ?_)
            refine lv_goto (tgt := 5) hx hb dX2_sharingWith_50 (by decide) ?_
            exact ih5 (i + 1) (by omega) (by omega) _ hS ls (lv_sub hl [3, 4, 1, 0] rfl)
  exact L5 _ 0 (Nat.lt_succ_self _) (Nat.zero_le _) _ hS ls (lv_sub hl [2, 3, 1, 0] rfl)
theorem tie_0 {L b o q : Int32} (h : ¬ L = b) : (if L = b ∧ (¬ o = 0 ∨ q = 0) then (1 : Int32) else 0) = 0 := if_neg (fun z => h z.1)
theorem tie_1 {L b o q : Int32} (h : L = b) (h2 : ¬ o = 0) : (if L = b ∧ (¬ o = 0 ∨ q = 0) then (1 : Int32) else 0) = 1 := if_pos ⟨h, Or.inl h2⟩
theorem tie_2 {L b o q : Int32} (h : o = 0) (h2 : ¬ q = 0) : (if L = b ∧ (¬ o = 0 ∨ q = 0) then (1 : Int32) else 0) = 0 := if_neg (fun z => z.2.elim (fun y => y h) h2)
theorem tie_3 {L b o q : Int32} (h : L = b) (h2 : q = 0) : (if L = b ∧ (¬ o = 0 ∨ q = 0) then (1 : Int32) else 0) = 1 := if_pos ⟨h, Or.inr h2⟩
def inD (nd : Nat) (du : Nat → Nat) (i : Nat) : Bool := (List.range nd).any (fun j => nI (du j) == nI i)
/-- the sentences that are passed over -/
def skD (am : Int64) (nd : Nat) (du : Nat → Nat) (i : Nat) : Bool := (lg_cmp ((am >>> ((nI i).toInt64 &&& 63)) &&& 1) 0 == 0) || inD nd du i
/-- the best one of the first i: its number, its likeness, whether it is the client's own -/
def bst (sk : Nat → Bool) (L ow : Nat → Int32) (le : Int32) : Nat → Int32 × Int32 × Int32
  | 0 => (-1, 0, 0)
  | i + 1 => if sk i = true then bst sk L ow le i else if ¬ L i < le ∧ ((bst sk L ow le i).2.1 < L i ∨ (L i = (bst sk L ow le i).2.1 ∧ (¬ ow i = 0 ∨ (bst sk L ow le i).2.2 = 0))) then (nI i, L i, ow i) else bst sk L ow le i
theorem bst_s {sk : Nat → Bool} {L ow : Nat → Int32} {le : Int32} {i : Nat} (h : sk i = true) : bst sk L ow le (i + 1) = bst sk L ow le i := if_pos h
theorem bst_t {sk : Nat → Bool} {L ow : Nat → Int32} {le : Int32} {i : Nat} (h : sk i = false) (h1 : ¬ L i < le) (h2 : (bst sk L ow le i).2.1 < L i ∨ ¬ (if L i = (bst sk L ow le i).2.1 ∧ (¬ ow i = 0 ∨ (bst sk L ow le i).2.2 = 0) then (1 : Int32) else 0) = 0) : bst sk L ow le (i + 1) = (nI i, L i, ow i) := by
  show (if _ then _ else _) = _
  rw [if_neg (by rw [h]; decide), if_pos]
  refine ⟨h1, h2.imp id (fun q => ?_)⟩
  by_cases e : L i = (bst sk L ow le i).2.1 ∧ (¬ ow i = 0 ∨ (bst sk L ow le i).2.2 = 0)
  · exact e
  · rw [if_neg e] at q; exact absurd rfl q
theorem bst_n {sk : Nat → Bool} {L ow : Nat → Int32} {le : Int32} {i : Nat} (h : sk i = false) (h2 : L i < le ∨ (¬ (bst sk L ow le i).2.1 < L i ∧ (if L i = (bst sk L ow le i).2.1 ∧ (¬ ow i = 0 ∨ (bst sk L ow le i).2.2 = 0) then (1 : Int32) else 0) = 0)) : bst sk L ow le (i + 1) = bst sk L ow le i := by
  show (if _ then _ else _) = _
  rw [if_neg (by rw [h]; decide), if_neg]
  rintro ⟨q1, q2⟩
  rcases h2 with h2 | ⟨h2, h3⟩
  · exact q1 h2
  · rcases q2 with q2 | q2
    · exact h2 q2
    · rw [if_pos q2] at h3; exact absurd h3 (by decide)
theorem skD_1 {am : Int64} {nd : Nat} {du : Nat → Nat} {i : Nat} (h : lg_cmp ((am >>> ((nI i).toInt64 &&& 63)) &&& 1) 0 = 0) : skD am nd du i = true := by simp [skD, h]
theorem skD_2 {am : Int64} {nd : Nat} {du : Nat → Nat} {i : Nat} {r : Int32} (h : (r = 1 ∧ ∃ j, j < nd ∧ (fun j => nI (du j)) j = nI i) ∨ (r = 0 ∧ ∀ j, j < nd → (fun j => nI (du j)) j ≠ nI i)) (hr : ¬ r = 0) : skD am nd du i = true := by
  rcases h with ⟨_, j, h1, h2⟩ | ⟨h1, _⟩
  · have : inD nd du i = true := List.any_eq_true.mpr ⟨j, List.mem_range.mpr h1, by simpa using h2⟩
    simp [skD, this]
  · exact absurd h1 hr
theorem skD_0 {am : Int64} {nd : Nat} {du : Nat → Nat} {i : Nat} {r : Int32} (h0 : ¬ lg_cmp ((am >>> ((nI i).toInt64 &&& 63)) &&& 1) 0 = 0) (h : (r = 1 ∧ ∃ j, j < nd ∧ (fun j => nI (du j)) j = nI i) ∨ (r = 0 ∧ ∀ j, j < nd → (fun j => nI (du j)) j ≠ nI i)) (hr : r = 0) : skD am nd du i = false := by
  rcases h with ⟨h1, _⟩ | ⟨_, h1⟩
  · rw [h1] at hr; exact absurd hr (by decide)
  · have : inD nd du i = false := by
      rw [inD, List.any_eq_false]
      intro j hj
      simpa using h1 j (List.mem_range.mp hj)
    simp [skD, this, h0]
set_option maxHeartbeats 4000000 in
set_option maxRecDepth 100000 in
/-- Memory.bestAmong -/
theorem k_X2_bestAmong (l : Launch) (D : va_G) (ac : Nat → ClassId) (H : Heap) (A : Nat → Prop) (N : Nat) (adr : Nat → Nat) (w : Nat → va_E) (hM : MW D A N adr w H) (no : Nat) (oc on_ : Nat → Nat) (owd : Nat → Nat → Nat) (obf : Nat → Nat → Int32) (ns : Nat) (so : Nat → Nat) (hv : Nat → Int64) (nd : Nat) (du : Nat → Nat) (T : Nat → Int32) (hN : 22 + 6 * no ≤ N) (hS1 : SenF ac adr w no oc on_ owd obf) (hm : MemW ac adr w ns so hv nd du T) (hso : ∀ i, i < ns → so i < no) (ra va n : Nat) (f : Nat → Int32) (hra : ra < N) (hva : va < N) (hrn : (ra < 7 ∨ 13 < ra) ∧ (va < 7 ∨ 13 < va)) (hn0 : 0 < n) (hn : n ≤ 8) (g1 : w ra = .inr (4, [.ref (adr va), .int (nI n)])) (g2 : w va = .inl (ac 0, 8, .inl f)) (am : Int64) (cl le : Int32) : WRi l yX2_bestAmong wsX2_bestAmong ({ frames := 4, cells := 0, slots := 0, locals := 98 }) [.ref (adr 7), .long am, .ref (adr ra), .int cl, .int le] D ac H A N adr (fun r w1 => r = (bst (skD am nd du) (fun i => lkO n f on_ owd (so i)) (fun i => if nI (oc (so i)) = cl then (1 : Int32) else 0) le ns).1 ∧ ∃ T1 : Nat → Int32, w1 = va_up w 13 (.inl (ac 0, 81, .inl T1))) := by
  refine Met.ofW (cc := cX2_bestAmong) (maxL := 14) (ret := (some .int)) (by decide) rfl ?_
  intro p e s m args below meth c s₁ B hml hv
  obtain ⟨hargs, hsz, hK⟩ := hv
  have hx := B.exec
  have hb := B.bytes
  have hr := B.returns
  have hts := atoms_spec (ws := wsX2_bestAmong) B.pre
  have hown : s.vm.findClass RX2 = some m.cls := findClass_of_methodNamed B.named
  have hlocks := B.notSynchronized
  subst hsz
  have inX2_ : ∀ w ∈ wsX20, w ∈ wsX2_bestAmong := by decide +kernel
  have inX6_ : ∀ w ∈ wsX60, w ∈ wsX2_bestAmong := by decide +kernel
  have hS : va_S A s.heap s.heap [] := va_S.rf
  have hl := lv_entry ([.ref (adr 7), .long am, .ref (adr ra), .int cl, .int le]) (n := 14) (Nat.le_of_ble_eq_true rfl)
  have hen := lg_entry_eq m [.ref (adr 7), .long am, .ref (adr ra), .int cl, .int le] 14
  rw [← hargs] at hen
  rw [hen]
  generalize (lg_sl ([.ref (adr 7), .long am, .ref (adr ra), .int cl, .int le]) ++ List.replicate (14 - (lg_sl ([.ref (adr 7), .long am, .ref (adr ra), .int cl, .int le])).length) Slot.unset).toArray = ls at hl ⊢
  have hl : lv_has ls 14 [(0, .ref (adr 7)), (1, .long am), (3, .ref (adr ra)), (4, .int cl), (5, .int le)] := hl
  obtain ⟨Q0, hQ0⟩ : ∃ z, z = MQ below (va_Qi (fun r w1 => r = (bst (skD am nd du) (fun i => lkO n f on_ owd (so i)) (fun i => if nI (oc (so i)) = cl then (1 : Int32) else 0) le ns).1 ∧ ∃ T1 : Nat → Int32, w1 = va_up w 13 (.inl (ac 0, 81, .inl T1))) (fun c t => MW D A N adr c t.heap) A) args s 0 0 A := ⟨_, rfl⟩
  rw [← hQ0]
  obtain ⟨hns, hnd⟩ := hm.2.2.2.2.2.2.2
  refine lv_iconst (v := (-1)) hx hb dX2_bestAmong_0 (by decide) ?_
  refine lv_istore (lv' := [(6, .int (-1)), (0, .ref (adr 7)), (1, .long am), (3, .ref (adr ra)), (4, .int cl), (5, .int le)]) hx hb dX2_bestAmong_1 hl (by decide) rfl (fun ls hl => ?_)
  refine lv_iconst (v := 0) hx hb dX2_bestAmong_3 (by decide) ?_
  refine lv_istore (lv' := [(7, .int 0), (6, .int (-1)), (0, .ref (adr 7)), (1, .long am), (3, .ref (adr ra)), (4, .int cl), (5, .int le)]) hx hb dX2_bestAmong_4 hl (by decide) rfl (fun ls hl => ?_)
  refine lv_iconst (v := 0) hx hb dX2_bestAmong_6 (by decide) ?_
  refine lv_istore (lv' := [(8, .int 0), (7, .int 0), (6, .int (-1)), (0, .ref (adr 7)), (1, .long am), (3, .ref (adr ra)), (4, .int cl), (5, .int le)]) hx hb dX2_bestAmong_7 hl (by decide) rfl (fun ls hl => ?_)
  refine lv_iconst (v := 0) hx hb dX2_bestAmong_9 (by decide) ?_
  refine lv_istore (lv' := [(9, .int 0), (8, .int 0), (7, .int 0), (6, .int (-1)), (0, .ref (adr 7)), (1, .long am), (3, .ref (adr ra)), (4, .int cl), (5, .int le)]) hx hb dX2_bestAmong_10 hl (by decide) rfl (fun ls hl => ?_)
  have L12 : ∀ (k9 : Nat) (i : Nat) (Tz : Nat → Int32) (hk : ns - i < k9) (hi9 : i ≤ ns) (wz : Nat → va_E) (z0wz : wz 7 = .inr (2, [.ref (adr 8), .ref (adr 9), .ref (adr 10), .ref (adr 12), .int (nI ns)])) (z1wz : wz 8 = .inl (ac 4, 40, .inr (.inr (.inr (.inr (sref adr ns so)))))) (z2wz : wz 10 = .inr (1, [.ref (adr 11), .int (nI nd)])) (z3wz : wz 11 = .inl (ac 0, 60, .inl (fun j => nI (du j)))) (z4wz : wz 12 = .inr (0, [.ref (adr 13)])) (z5wz : wz 13 = .inl (ac 0, 81, .inl Tz)) (z6wz : wz ra = .inr (4, [.ref (adr va), .int (nI n)])) (z7wz : wz va = .inl (ac 0, 8, .inl f)) (zSwz : SenF ac adr wz no oc on_ owd obf) (zrwz : ∀ q, q ≠ 13 → wz q = w q) (H : Heap) (locs : List Loc) (hM : MW D A N adr wz H) (hS : va_S A s.heap H locs) (ls : Array Slot) (hl : lv_has ls 14 [(0, .ref (adr 7)), (1, .long am), (3, .ref (adr ra)), (4, .int cl), (5, .int le), (6, .int ((bst (skD am nd du) (fun i => lkO n f on_ owd (so i)) (fun i => if nI (oc (so i)) = cl then (1 : Int32) else 0) le i).1)), (7, .int ((bst (skD am nd du) (fun i => lkO n f on_ owd (so i)) (fun i => if nI (oc (so i)) = cl then (1 : Int32) else 0) le i).2.1)), (8, .int ((bst (skD am nd du) (fun i => lkO n f on_ owd (so i)) (fun i => if nI (oc (so i)) = cl then (1 : Int32) else 0) le i).2.2)), (9, .int (nI i))]), W p l e (headSpec wsX2_bestAmong ({ frames := 4, cells := 0, slots := 0, locals := 98 })).room s m args below meth c H locs 0 0 Q0 (F0 m 12 ls []) := by
    intro k9
    induction k9 with
    | zero => intro i Tz hk hi9 wz z0wz z1wz z2wz z3wz z4wz z5wz z6wz z7wz zSwz zrwz H locs hM hS ls hl; exact absurd hk (Nat.not_lt_zero _)
    | succ k9 ih12 =>
      intro i Tz hk hi9 wz z0wz z1wz z2wz z3wz z4wz z5wz z6wz z7wz zSwz zrwz H locs hM hS ls hl
      refine lv_iload hx hb dX2_bestAmong_12 (lv_at hl 8 rfl) ?_
      refine lv_aload_n hx hb dX2_bestAmong_14 rfl (lv_at hl 0 rfl) ?_
      refine m_get (ci := 2) (C := RX2) (T := TX2) (n := 5) (v := .int (nI ns)) hx hb hts inX2_ hown hK rfl (hM.cel (by omega) z0wz) 4 (by decide) (hts _ (by decide +kernel)) rfl dX2_bestAmong_15 ?_
      refine lv_icmp_ge (tgt := 153) hx hb dX2_bestAmong_18 (by decide) (fun c18 => ?_) (fun c18 => ?_)
      · have hin : i = ns := by have := le_le (b := i) c18 (by omega) (by omega); omega
        refine lv_iload hx hb dX2_bestAmong_153 (lv_at hl 5 rfl) ?_
        rw [hQ0]
        exact e_wi hx hb hlocks hr dX2_bestAmong_155 hM hS (⟨by rw [hin], Tz, va_upeq z5wz zrwz⟩)
      · have hin : i < ns := nle_lt c18 (by omega) (by omega)
        refine lv_aload_n hx hb dX2_bestAmong_21 rfl (lv_at hl 0 rfl) ?_
        refine lv_iload hx hb dX2_bestAmong_22 (lv_at hl 8 rfl) ?_
        refine r_callq (va_runV (As := [.int (nI i)]) (rest := []) ⟨hx, hb, hml, hown, hts⟩ (k_X2_sentenceAt l D ac _ (adr 7) (adr 8) (sref adr ns so) (.ref (adr 9)) (.ref (adr 10)) (.ref (adr 12)) (.int (nI ns)) (hM.cel (by omega) z0wz) (hM.cel (by omega) z1wz) (nI i)) (cwV 1 hts gX2_bestAmong_X2_sentenceAt rfl rfl rfl (by decide +kernel) ⟨Nat.le_of_ble_eq_true rfl, Nat.le_of_ble_eq_true rfl⟩) (pV hK (ci := 2) rfl (hM.cel (by omega) z0wz)) rfl rfl hl.1 rfl (lv_room (Nat.le_of_ble_eq_true rfl)) dX2_bestAmong_24 ⟨Nat.le_of_ble_eq_true rfl, Nat.le_of_ble_eq_true rfl⟩) hS (fun rv_1 locs hrv_1 hS => ?_)
        subst hrv_1
        refine m_topq (show (ix (nI i) 40).bind (sref adr ns so) = (ix (nI i) ns).map (fun i => adr (23 + 6 * so i)) from sat_eq (by omega)) ?_
        rcases hi : ix (nI i) ns with _ | jhi
        · exact absurd (ix_nI hin (by omega)) (by rw [hi]; exact fun h => nomatch h)
        · obtain ⟨hj_, he_⟩ := ix_of hi (by omega)
          have hji : i = jhi := (nI_eq (by omega) (by omega)).mp he_
          subst hji
          have ho_ : so i < no := hso i hj_
          have hsn_ := zSwz (so i) ho_
          obtain ⟨hn0_, hn8_, hcl_, hwd_⟩ := hsn_.2.2.2.2.2
          refine m_topr ?_
          refine lv_astore (lv' := [(10, .ref (adr (23 + 6 * so i))), (0, .ref (adr 7)), (1, .long am), (3, .ref (adr ra)), (4, .int cl), (5, .int le), (6, .int ((bst (skD am nd du) (fun i => lkO n f on_ owd (so i)) (fun i => if nI (oc (so i)) = cl then (1 : Int32) else 0) le i).1)), (7, .int ((bst (skD am nd du) (fun i => lkO n f on_ owd (so i)) (fun i => if nI (oc (so i)) = cl then (1 : Int32) else 0) le i).2.1)), (8, .int ((bst (skD am nd du) (fun i => lkO n f on_ owd (so i)) (fun i => if nI (oc (so i)) = cl then (1 : Int32) else 0) le i).2.2)), (9, .int (nI i))]) hx hb dX2_bestAmong_27 hl (by decide) rfl (fun ls hl => ?_)
          refine lv_aload hx hb dX2_bestAmong_29 (lv_at hl 0 rfl) ?_
          refine lv_ifnull hx hb dX2_bestAmong_31 ?_
          refine lv_lload_n hx hb dX2_bestAmong_34 rfl (lv_at hl 2 rfl) ?_
          refine lv_iload hx hb dX2_bestAmong_35 (lv_at hl 9 rfl) ?_
          refine lv_lshr (v := am >>> ((nI i).toInt64 &&& 63)) hx hb dX2_bestAmong_37 rfl ?_
          refine lv_lconst (v := 1) hx hb dX2_bestAmong_38 (by decide) ?_
          refine lv_land hx hb dX2_bestAmong_39 ?_
          refine lv_lconst (v := 0) hx hb dX2_bestAmong_40 (by decide) ?_
          refine W.lcmp hx hb dX2_bestAmong_41 ?_
          refine lv_if_eq (tgt := 147) hx hb dX2_bestAmong_42 (by decide) (fun c42 => ?_) (fun c42 => ?_)
          · have eb_ : bst (skD am nd du) (fun i => lkO n f on_ owd (so i)) (fun i => if nI (oc (so i)) = cl then (1 : Int32) else 0) le (i + 1) = ((bst (skD am nd du) (fun i => lkO n f on_ owd (so i)) (fun i => if nI (oc (so i)) = cl then (1 : Int32) else 0) le i).1, (bst (skD am nd du) (fun i => lkO n f on_ owd (so i)) (fun i => if nI (oc (so i)) = cl then (1 : Int32) else 0) le i).2.1, (bst (skD am nd du) (fun i => lkO n f on_ owd (so i)) (fun i => if nI (oc (so i)) = cl then (1 : Int32) else 0) le i).2.2) := bst_s (skD_1 c42)
            have hl : lv_has ls 14 [(10, .ref (adr (23 + 6 * so i))), (0, .ref (adr 7)), (1, .long am), (3, .ref (adr ra)), (4, .int cl), (5, .int le), (6, .int ((bst (skD am nd du) (fun i => lkO n f on_ owd (so i)) (fun i => if nI (oc (so i)) = cl then (1 : Int32) else 0) le (i + 1)).1)), (7, .int ((bst (skD am nd du) (fun i => lkO n f on_ owd (so i)) (fun i => if nI (oc (so i)) = cl then (1 : Int32) else 0) le (i + 1)).2.1)), (8, .int ((bst (skD am nd du) (fun i => lkO n f on_ owd (so i)) (fun i => if nI (oc (so i)) = cl then (1 : Int32) else 0) le (i + 1)).2.2)), (9, .int (nI i))] := by rw [eb_]; exact hl
            refine lv_iinc (v := nI (i + 1)) (lv' := [(9, .int (nI (i + 1))), (10, .ref (adr (23 + 6 * so i))), (0, .ref (adr 7)), (1, .long am), (3, .ref (adr ra)), (4, .int cl), (5, .int le), (6, .int ((bst (skD am nd du) (fun i => lkO n f on_ owd (so i)) (fun i => if nI (oc (so i)) = cl then (1 : Int32) else 0) le (i + 1)).1)), (7, .int ((bst (skD am nd du) (fun i => lkO n f on_ owd (so i)) (fun i => if nI (oc (so i)) = cl then (1 : Int32) else 0) le (i + 1)).2.1)), (8, .int ((bst (skD am nd du) (fun i => lkO n f on_ owd (so i)) (fun i => if nI (oc (so i)) = cl then (1 : Int32) else 0) le (i + 1)).2.2))]) hx hb dX2_bestAmong_147 hl (k := 9) rfl (nI_1 _) (by decide) rfl (fun ls hl => ?_)
            refine lv_goto (tgt := 12) hx hb dX2_bestAmong_150 (by decide) ?_
            exact ih12 (i + 1) Tz (by omega) (by omega) wz z0wz z1wz z2wz z3wz z4wz z5wz z6wz z7wz zSwz zrwz _ _ hM hS ls (lv_sub hl [2, 3, 4, 5, 6, 7, 8, 9, 0] rfl)
          · refine lv_aload_n hx hb dX2_bestAmong_45 rfl (lv_at hl 1 rfl) ?_
            refine m_get (ci := 2) (C := RX2) (T := TX2) (n := 5) (v := .ref (adr 10)) hx hb hts inX2_ hown hK rfl (hM.cel (by omega) z0wz) 2 (by decide) (hts _ (by decide +kernel)) rfl dX2_bestAmong_46 ?_
            refine lv_iload hx hb dX2_bestAmong_49 (lv_at hl 9 rfl) ?_
            refine r_calli (va_runV (As := [.int (nI i)]) (rest := []) ⟨hx, hb, hml, hown, hts⟩ (k_X1_holds l D ac _ (adr 10) (adr 11) nd (fun j => nI (du j)) (hM.cel (by omega) z2wz) (hM.cel (by omega) z3wz) (by omega) (nI i)) (cwV 1 hts gX2_bestAmong_X1_holds rfl rfl rfl (by decide +kernel) ⟨Nat.le_of_ble_eq_true rfl, Nat.le_of_ble_eq_true rfl⟩) (pV hK (ci := 1) rfl (hM.cel (by omega) z2wz)) rfl rfl hl.1 rfl (lv_room (Nat.le_of_ble_eq_true rfl)) dX2_bestAmong_51 ⟨Nat.le_of_ble_eq_true rfl, Nat.le_of_ble_eq_true rfl⟩) hS (fun rv_2 locs hrv_2 hS => ?_)
            refine lv_if_eq (tgt := 60) hx hb dX2_bestAmong_54 (by decide) (fun c54 => ?_) (fun c54 => ?_)
            · refine lv_aload_n hx hb dX2_bestAmong_60 rfl (lv_at hl 1 rfl) ?_
              refine m_get (ci := 2) (C := RX2) (T := TX2) (n := 5) (v := .ref (adr 12)) hx hb hts inX2_ hown hK rfl (hM.cel (by omega) z0wz) 3 (by decide) (hts _ (by decide +kernel)) rfl dX2_bestAmong_61 ?_
              refine lv_aload_n hx hb dX2_bestAmong_64 rfl (lv_at hl 3 rfl) ?_
              refine lv_aload hx hb dX2_bestAmong_65 (lv_at hl 0 rfl) ?_
              refine m_getN (host := RX7) (ci := 6) (C := RX6) (T := TX6) (n := 3) (v := .ref (adr (23 + 6 * so i + 1))) hx hb hts inX6_ hown hK rfl (hM.cel (by have := ho_; omega) hsn_.1) 1 (by decide) 17 rfl rfl dX2_bestAmong_67 ?_
              refine w_calli (va_runV (As := [.ref (adr ra), .ref (adr (23 + 6 * so i + 1))]) (rest := []) ⟨hx, hb, hml, hown, hts⟩ (k_X0_likenessOf l D ac _ A N adr wz hM 12 13 Tz (by omega) (by omega) (by omega) z4wz z5wz ra va (23 + 6 * so i + 1) (23 + 6 * so i + 2) n ((on_ (so i))) f (fun j => nI (owd (so i) j)) hra hva (by have := ho_; omega) (by have := ho_; omega) (by omega) (by omega) (by omega) z6wz z7wz hsn_.2.1 hsn_.2.2.1 (Nat.lt_of_lt_of_le hn0 (Nat.le_max_left _ _))) (cwV 2 hts gX2_bestAmong_X0_likenessOf rfl rfl rfl (by decide +kernel) ⟨Nat.le_of_ble_eq_true rfl, Nat.le_of_ble_eq_true rfl⟩) (pV hK (ci := 0) rfl (hM.cel (by omega) z4wz)) rfl rfl hl.1 rfl (lv_room (Nat.le_of_ble_eq_true rfl)) dX2_bestAmong_70 ⟨Nat.le_of_ble_eq_true rfl, Nat.le_of_ble_eq_true rfl⟩) hS (fun rv_3 w_4 H locs hw_4 hM hS => ?_)
              obtain ⟨hrv_3, T_5, hw_4, eT_5⟩ := hw_4
              have h_6 : w_4 7 = .inr (2, [.ref (adr 8), .ref (adr 9), .ref (adr 10), .ref (adr 12), .int (nI ns)]) := by rw [hw_4, va_up_ne _ _ (by omega)]; exact z0wz
              have h_7 : w_4 8 = .inl (ac 4, 40, .inr (.inr (.inr (.inr (sref adr ns so))))) := by rw [hw_4, va_up_ne _ _ (by omega)]; exact z1wz
              have h_8 : w_4 10 = .inr (1, [.ref (adr 11), .int (nI nd)]) := by rw [hw_4, va_up_ne _ _ (by omega)]; exact z2wz
              have h_9 : w_4 11 = .inl (ac 0, 60, .inl (fun j => nI (du j))) := by rw [hw_4, va_up_ne _ _ (by omega)]; exact z3wz
              have h_10 : w_4 12 = .inr (0, [.ref (adr 13)]) := by rw [hw_4, va_up_ne _ _ (by omega)]; exact z4wz
              have h_11 : w_4 13 = .inl (ac 0, 81, .inl T_5) := by rw [hw_4]; exact va_up_self _ _ _
              have h_12 : w_4 ra = .inr (4, [.ref (adr va), .int (nI n)]) := by rw [hw_4, va_up_ne _ _ (by omega)]; exact z6wz
              have h_13 : w_4 va = .inl (ac 0, 8, .inl f) := by rw [hw_4, va_up_ne _ _ (by omega)]; exact z7wz
              have h_14 : w_4 (23 + 6 * so i) = .inr (6, [.int (nI (oc (so i))), .ref (adr (23 + 6 * so i + 1)), .ref (adr (23 + 6 * so i + 3))]) := by rw [hw_4, va_up_ne _ _ (by omega)]; exact hsn_.1
              have h_15 : w_4 (23 + 6 * so i + 1) = .inr (4, [.ref (adr (23 + 6 * so i + 2)), .int (nI (on_ (so i)))]) := by rw [hw_4, va_up_ne _ _ (by omega)]; exact hsn_.2.1
              have h_16 : w_4 (23 + 6 * so i + 2) = .inl (ac 0, 8, .inl (fun j => nI (owd (so i) j))) := by rw [hw_4, va_up_ne _ _ (by omega)]; exact hsn_.2.2.1
              have h_17 : w_4 (23 + 6 * so i + 3) = .inr (4, [.ref (adr (23 + 6 * so i + 4)), .int (nI (on_ (so i)))]) := by rw [hw_4, va_up_ne _ _ (by omega)]; exact hsn_.2.2.2.1
              have h_18 : w_4 (23 + 6 * so i + 4) = .inl (ac 0, 8, .inl (obf (so i))) := by rw [hw_4, va_up_ne _ _ (by omega)]; exact hsn_.2.2.2.2.1
              have h_19 : SenF ac adr w_4 no oc on_ owd obf := by rw [hw_4]; exact (SenF.up (by omega) zSwz)
              subst hrv_3
              refine lv_istore (lv' := [(11, .int (lik (max n ((on_ (so i)))) (ed f (fun j => nI (owd (so i) j)) n ((on_ (so i)))))), (10, .ref (adr (23 + 6 * so i))), (0, .ref (adr 7)), (1, .long am), (3, .ref (adr ra)), (4, .int cl), (5, .int le), (6, .int ((bst (skD am nd du) (fun i => lkO n f on_ owd (so i)) (fun i => if nI (oc (so i)) = cl then (1 : Int32) else 0) le i).1)), (7, .int ((bst (skD am nd du) (fun i => lkO n f on_ owd (so i)) (fun i => if nI (oc (so i)) = cl then (1 : Int32) else 0) le i).2.1)), (8, .int ((bst (skD am nd du) (fun i => lkO n f on_ owd (so i)) (fun i => if nI (oc (so i)) = cl then (1 : Int32) else 0) le i).2.2)), (9, .int (nI i))]) hx hb dX2_bestAmong_73 hl (by decide) rfl (fun ls hl => ?_)
              refine lv_aload hx hb dX2_bestAmong_75 (lv_at hl 1 rfl) ?_
              refine m_getN (host := RX7) (ci := 6) (C := RX6) (T := TX6) (n := 3) (v := .int (nI (oc (so i)))) hx hb hts inX6_ hown hK rfl (hM.cel (by have := ho_; omega) h_14) 0 (by decide) 15 rfl rfl dX2_bestAmong_77 ?_
              refine lv_iload hx hb dX2_bestAmong_80 (lv_at hl 5 rfl) ?_
              have J90 : ∀ (ls : Array Slot), lv_has ls 14 [(11, .int (lik (max n ((on_ (so i)))) (ed f (fun j => nI (owd (so i) j)) n ((on_ (so i)))))), (10, .ref (adr (23 + 6 * so i))), (0, .ref (adr 7)), (1, .long am), (3, .ref (adr ra)), (4, .int cl), (5, .int le), (6, .int ((bst (skD am nd du) (fun i => lkO n f on_ owd (so i)) (fun i => if nI (oc (so i)) = cl then (1 : Int32) else 0) le i).1)), (7, .int ((bst (skD am nd du) (fun i => lkO n f on_ owd (so i)) (fun i => if nI (oc (so i)) = cl then (1 : Int32) else 0) le i).2.1)), (8, .int ((bst (skD am nd du) (fun i => lkO n f on_ owd (so i)) (fun i => if nI (oc (so i)) = cl then (1 : Int32) else 0) le i).2.2)), (9, .int (nI i))] → W p l e (headSpec wsX2_bestAmong ({ frames := 4, cells := 0, slots := 0, locals := 98 })).room s m args below meth c H locs 0 0 Q0 (F0 m 90 ls [.int (if nI (oc (so i)) = cl then (1 : Int32) else 0)]) := by
                intro ls hl
                refine lv_istore (lv' := [(12, .int (if nI (oc (so i)) = cl then (1 : Int32) else 0)), (11, .int (lik (max n ((on_ (so i)))) (ed f (fun j => nI (owd (so i) j)) n ((on_ (so i)))))), (10, .ref (adr (23 + 6 * so i))), (0, .ref (adr 7)), (1, .long am), (3, .ref (adr ra)), (4, .int cl), (5, .int le), (6, .int ((bst (skD am nd du) (fun i => lkO n f on_ owd (so i)) (fun i => if nI (oc (so i)) = cl then (1 : Int32) else 0) le i).1)), (7, .int ((bst (skD am nd du) (fun i => lkO n f on_ owd (so i)) (fun i => if nI (oc (so i)) = cl then (1 : Int32) else 0) le i).2.1)), (8, .int ((bst (skD am nd du) (fun i => lkO n f on_ owd (so i)) (fun i => if nI (oc (so i)) = cl then (1 : Int32) else 0) le i).2.2)), (9, .int (nI i))]) hx hb dX2_bestAmong_90 hl (by decide) rfl (fun ls hl => ?_)
                refine lv_iload hx hb dX2_bestAmong_92 (lv_at hl 1 rfl) ?_
                refine lv_iload hx hb dX2_bestAmong_94 (lv_at hl 9 rfl) ?_
                have J114 : ∀ (ls : Array Slot), lv_has ls 14 [(12, .int (if nI (oc (so i)) = cl then (1 : Int32) else 0)), (11, .int (lik (max n ((on_ (so i)))) (ed f (fun j => nI (owd (so i) j)) n ((on_ (so i)))))), (10, .ref (adr (23 + 6 * so i))), (0, .ref (adr 7)), (1, .long am), (3, .ref (adr ra)), (4, .int cl), (5, .int le), (6, .int ((bst (skD am nd du) (fun i => lkO n f on_ owd (so i)) (fun i => if nI (oc (so i)) = cl then (1 : Int32) else 0) le i).1)), (7, .int ((bst (skD am nd du) (fun i => lkO n f on_ owd (so i)) (fun i => if nI (oc (so i)) = cl then (1 : Int32) else 0) le i).2.1)), (8, .int ((bst (skD am nd du) (fun i => lkO n f on_ owd (so i)) (fun i => if nI (oc (so i)) = cl then (1 : Int32) else 0) le i).2.2)), (9, .int (nI i))] → W p l e (headSpec wsX2_bestAmong ({ frames := 4, cells := 0, slots := 0, locals := 98 })).room s m args below meth c H locs 0 0 Q0 (F0 m 114 ls [.int (if lik (max n (on_ (so i))) (ed f (fun j => nI (owd (so i) j)) n (on_ (so i))) = (bst (skD am nd du) (fun i => lkO n f on_ owd (so i)) (fun i => if nI (oc (so i)) = cl then (1 : Int32) else 0) le i).2.1 ∧ (¬ (if nI (oc (so i)) = cl then (1 : Int32) else 0) = 0 ∨ (bst (skD am nd du) (fun i => lkO n f on_ owd (so i)) (fun i => if nI (oc (so i)) = cl then (1 : Int32) else 0) le i).2.2 = 0) then 1 else 0)]) := by
                  intro ls hl
                  refine lv_istore (lv' := [(13, .int (if lik (max n (on_ (so i))) (ed f (fun j => nI (owd (so i) j)) n (on_ (so i))) = (bst (skD am nd du) (fun i => lkO n f on_ owd (so i)) (fun i => if nI (oc (so i)) = cl then (1 : Int32) else 0) le i).2.1 ∧ (¬ (if nI (oc (so i)) = cl then (1 : Int32) else 0) = 0 ∨ (bst (skD am nd du) (fun i => lkO n f on_ owd (so i)) (fun i => if nI (oc (so i)) = cl then (1 : Int32) else 0) le i).2.2 = 0) then 1 else 0)), (12, .int (if nI (oc (so i)) = cl then (1 : Int32) else 0)), (11, .int (lik (max n ((on_ (so i)))) (ed f (fun j => nI (owd (so i) j)) n ((on_ (so i)))))), (10, .ref (adr (23 + 6 * so i))), (0, .ref (adr 7)), (1, .long am), (3, .ref (adr ra)), (4, .int cl), (5, .int le), (6, .int ((bst (skD am nd du) (fun i => lkO n f on_ owd (so i)) (fun i => if nI (oc (so i)) = cl then (1 : Int32) else 0) le i).1)), (7, .int ((bst (skD am nd du) (fun i => lkO n f on_ owd (so i)) (fun i => if nI (oc (so i)) = cl then (1 : Int32) else 0) le i).2.1)), (8, .int ((bst (skD am nd du) (fun i => lkO n f on_ owd (so i)) (fun i => if nI (oc (so i)) = cl then (1 : Int32) else 0) le i).2.2)), (9, .int (nI i))]) hx hb dX2_bestAmong_114 hl (by decide) rfl (fun ls hl => ?_)
                  refine lv_iload hx hb dX2_bestAmong_116 (lv_at hl 2 rfl) ?_
                  refine lv_iload hx hb dX2_bestAmong_118 (lv_at hl 8 rfl) ?_
                  refine lv_icmp_lt (tgt := 147) hx hb dX2_bestAmong_120 (by decide) (fun c120 => ?_) (fun c120 => ?_)
                  · have eb_ : bst (skD am nd du) (fun i => lkO n f on_ owd (so i)) (fun i => if nI (oc (so i)) = cl then (1 : Int32) else 0) le (i + 1) = ((bst (skD am nd du) (fun i => lkO n f on_ owd (so i)) (fun i => if nI (oc (so i)) = cl then (1 : Int32) else 0) le i).1, (bst (skD am nd du) (fun i => lkO n f on_ owd (so i)) (fun i => if nI (oc (so i)) = cl then (1 : Int32) else 0) le i).2.1, (bst (skD am nd du) (fun i => lkO n f on_ owd (so i)) (fun i => if nI (oc (so i)) = cl then (1 : Int32) else 0) le i).2.2) := bst_n (skD_0 c42 hrv_2 c54) (Or.inl c120)
                    have hl : lv_has ls 14 [(13, .int (if lik (max n (on_ (so i))) (ed f (fun j => nI (owd (so i) j)) n (on_ (so i))) = (bst (skD am nd du) (fun i => lkO n f on_ owd (so i)) (fun i => if nI (oc (so i)) = cl then (1 : Int32) else 0) le i).2.1 ∧ (¬ (if nI (oc (so i)) = cl then (1 : Int32) else 0) = 0 ∨ (bst (skD am nd du) (fun i => lkO n f on_ owd (so i)) (fun i => if nI (oc (so i)) = cl then (1 : Int32) else 0) le i).2.2 = 0) then 1 else 0)), (12, .int (if nI (oc (so i)) = cl then (1 : Int32) else 0)), (11, .int (lik (max n ((on_ (so i)))) (ed f (fun j => nI (owd (so i) j)) n ((on_ (so i)))))), (10, .ref (adr (23 + 6 * so i))), (0, .ref (adr 7)), (1, .long am), (3, .ref (adr ra)), (4, .int cl), (5, .int le), (6, .int ((bst (skD am nd du) (fun i => lkO n f on_ owd (so i)) (fun i => if nI (oc (so i)) = cl then (1 : Int32) else 0) le (i + 1)).1)), (7, .int ((bst (skD am nd du) (fun i => lkO n f on_ owd (so i)) (fun i => if nI (oc (so i)) = cl then (1 : Int32) else 0) le (i + 1)).2.1)), (8, .int ((bst (skD am nd du) (fun i => lkO n f on_ owd (so i)) (fun i => if nI (oc (so i)) = cl then (1 : Int32) else 0) le (i + 1)).2.2)), (9, .int (nI i))] := by rw [eb_]; exact hl
                    refine lv_iinc (v := nI (i + 1)) (lv' := [(9, .int (nI (i + 1))), (13, .int (if lik (max n (on_ (so i))) (ed f (fun j => nI (owd (so i) j)) n (on_ (so i))) = (bst (skD am nd du) (fun i => lkO n f on_ owd (so i)) (fun i => if nI (oc (so i)) = cl then (1 : Int32) else 0) le i).2.1 ∧ (¬ (if nI (oc (so i)) = cl then (1 : Int32) else 0) = 0 ∨ (bst (skD am nd du) (fun i => lkO n f on_ owd (so i)) (fun i => if nI (oc (so i)) = cl then (1 : Int32) else 0) le i).2.2 = 0) then 1 else 0)), (12, .int (if nI (oc (so i)) = cl then (1 : Int32) else 0)), (11, .int (lik (max n ((on_ (so i)))) (ed f (fun j => nI (owd (so i) j)) n ((on_ (so i)))))), (10, .ref (adr (23 + 6 * so i))), (0, .ref (adr 7)), (1, .long am), (3, .ref (adr ra)), (4, .int cl), (5, .int le), (6, .int ((bst (skD am nd du) (fun i => lkO n f on_ owd (so i)) (fun i => if nI (oc (so i)) = cl then (1 : Int32) else 0) le (i + 1)).1)), (7, .int ((bst (skD am nd du) (fun i => lkO n f on_ owd (so i)) (fun i => if nI (oc (so i)) = cl then (1 : Int32) else 0) le (i + 1)).2.1)), (8, .int ((bst (skD am nd du) (fun i => lkO n f on_ owd (so i)) (fun i => if nI (oc (so i)) = cl then (1 : Int32) else 0) le (i + 1)).2.2))]) hx hb dX2_bestAmong_147 hl (k := 12) rfl (nI_1 _) (by decide) rfl (fun ls hl => ?_)
                    refine lv_goto (tgt := 12) hx hb dX2_bestAmong_150 (by decide) ?_
                    exact ih12 (i + 1) T_5 (by omega) (by omega) w_4 h_6 h_7 h_8 h_9 h_10 h_11 h_12 h_13 h_19 (fun q q1 => by rw [hw_4, va_up_ne _ _ q1]; exact zrwz q q1) _ _ hM hS ls (lv_sub hl [5, 6, 7, 8, 9, 10, 11, 12, 0] rfl)
                  · refine lv_iload hx hb dX2_bestAmong_123 (lv_at hl 2 rfl) ?_
                    refine lv_iload hx hb dX2_bestAmong_125 (lv_at hl 10 rfl) ?_
                    refine lv_icmp_gt (tgt := 135) hx hb dX2_bestAmong_127 (by decide) (fun c127 => ?_) (fun c127 => ?_)
                    · refine lv_iload hx hb dX2_bestAmong_135 (lv_at hl 12 rfl) ?_
                      refine lv_istore (lv' := [(6, .int (nI i)), (13, .int (if lik (max n (on_ (so i))) (ed f (fun j => nI (owd (so i) j)) n (on_ (so i))) = (bst (skD am nd du) (fun i => lkO n f on_ owd (so i)) (fun i => if nI (oc (so i)) = cl then (1 : Int32) else 0) le i).2.1 ∧ (¬ (if nI (oc (so i)) = cl then (1 : Int32) else 0) = 0 ∨ (bst (skD am nd du) (fun i => lkO n f on_ owd (so i)) (fun i => if nI (oc (so i)) = cl then (1 : Int32) else 0) le i).2.2 = 0) then 1 else 0)), (12, .int (if nI (oc (so i)) = cl then (1 : Int32) else 0)), (11, .int (lik (max n ((on_ (so i)))) (ed f (fun j => nI (owd (so i) j)) n ((on_ (so i)))))), (10, .ref (adr (23 + 6 * so i))), (0, .ref (adr 7)), (1, .long am), (3, .ref (adr ra)), (4, .int cl), (5, .int le), (7, .int ((bst (skD am nd du) (fun i => lkO n f on_ owd (so i)) (fun i => if nI (oc (so i)) = cl then (1 : Int32) else 0) le i).2.1)), (8, .int ((bst (skD am nd du) (fun i => lkO n f on_ owd (so i)) (fun i => if nI (oc (so i)) = cl then (1 : Int32) else 0) le i).2.2)), (9, .int (nI i))]) hx hb dX2_bestAmong_137 hl (by decide) rfl (fun ls hl => ?_)
                      refine lv_iload hx hb dX2_bestAmong_139 (lv_at hl 3 rfl) ?_
                      refine lv_istore (lv' := [(7, .int (lik (max n ((on_ (so i)))) (ed f (fun j => nI (owd (so i) j)) n ((on_ (so i)))))), (6, .int (nI i)), (13, .int (if lik (max n (on_ (so i))) (ed f (fun j => nI (owd (so i) j)) n (on_ (so i))) = (bst (skD am nd du) (fun i => lkO n f on_ owd (so i)) (fun i => if nI (oc (so i)) = cl then (1 : Int32) else 0) le i).2.1 ∧ (¬ (if nI (oc (so i)) = cl then (1 : Int32) else 0) = 0 ∨ (bst (skD am nd du) (fun i => lkO n f on_ owd (so i)) (fun i => if nI (oc (so i)) = cl then (1 : Int32) else 0) le i).2.2 = 0) then 1 else 0)), (12, .int (if nI (oc (so i)) = cl then (1 : Int32) else 0)), (11, .int (lik (max n ((on_ (so i)))) (ed f (fun j => nI (owd (so i) j)) n ((on_ (so i)))))), (10, .ref (adr (23 + 6 * so i))), (0, .ref (adr 7)), (1, .long am), (3, .ref (adr ra)), (4, .int cl), (5, .int le), (8, .int ((bst (skD am nd du) (fun i => lkO n f on_ owd (so i)) (fun i => if nI (oc (so i)) = cl then (1 : Int32) else 0) le i).2.2)), (9, .int (nI i))]) hx hb dX2_bestAmong_141 hl (by decide) rfl (fun ls hl => ?_)
                      refine lv_iload hx hb dX2_bestAmong_143 (lv_at hl 3 rfl) ?_
                      refine lv_istore (lv' := [(8, .int (if nI (oc (so i)) = cl then (1 : Int32) else 0)), (7, .int (lik (max n ((on_ (so i)))) (ed f (fun j => nI (owd (so i) j)) n ((on_ (so i)))))), (6, .int (nI i)), (13, .int (if lik (max n (on_ (so i))) (ed f (fun j => nI (owd (so i) j)) n (on_ (so i))) = (bst (skD am nd du) (fun i => lkO n f on_ owd (so i)) (fun i => if nI (oc (so i)) = cl then (1 : Int32) else 0) le i).2.1 ∧ (¬ (if nI (oc (so i)) = cl then (1 : Int32) else 0) = 0 ∨ (bst (skD am nd du) (fun i => lkO n f on_ owd (so i)) (fun i => if nI (oc (so i)) = cl then (1 : Int32) else 0) le i).2.2 = 0) then 1 else 0)), (12, .int (if nI (oc (so i)) = cl then (1 : Int32) else 0)), (11, .int (lik (max n ((on_ (so i)))) (ed f (fun j => nI (owd (so i) j)) n ((on_ (so i)))))), (10, .ref (adr (23 + 6 * so i))), (0, .ref (adr 7)), (1, .long am), (3, .ref (adr ra)), (4, .int cl), (5, .int le), (9, .int (nI i))]) hx hb dX2_bestAmong_145 hl (by decide) rfl (fun ls hl => ?_)
                      have eb_ : bst (skD am nd du) (fun i => lkO n f on_ owd (so i)) (fun i => if nI (oc (so i)) = cl then (1 : Int32) else 0) le (i + 1) = (nI i, lik (max n ((on_ (so i)))) (ed f (fun j => nI (owd (so i) j)) n ((on_ (so i)))), if nI (oc (so i)) = cl then (1 : Int32) else 0) := by first | exact bst_t (skD_0 c42 hrv_2 c54) c120 (Or.inl c127) | exact bst_t (skD_0 c42 hrv_2 c54) c120 (Or.inr c132)
                      have hl : lv_has ls 14 [(8, .int ((bst (skD am nd du) (fun i => lkO n f on_ owd (so i)) (fun i => if nI (oc (so i)) = cl then (1 : Int32) else 0) le (i + 1)).2.2)), (7, .int ((bst (skD am nd du) (fun i => lkO n f on_ owd (so i)) (fun i => if nI (oc (so i)) = cl then (1 : Int32) else 0) le (i + 1)).2.1)), (6, .int ((bst (skD am nd du) (fun i => lkO n f on_ owd (so i)) (fun i => if nI (oc (so i)) = cl then (1 : Int32) else 0) le (i + 1)).1)), (13, .int (if lik (max n (on_ (so i))) (ed f (fun j => nI (owd (so i) j)) n (on_ (so i))) = (bst (skD am nd du) (fun i => lkO n f on_ owd (so i)) (fun i => if nI (oc (so i)) = cl then (1 : Int32) else 0) le i).2.1 ∧ (¬ (if nI (oc (so i)) = cl then (1 : Int32) else 0) = 0 ∨ (bst (skD am nd du) (fun i => lkO n f on_ owd (so i)) (fun i => if nI (oc (so i)) = cl then (1 : Int32) else 0) le i).2.2 = 0) then 1 else 0)), (12, .int (if nI (oc (so i)) = cl then (1 : Int32) else 0)), (11, .int (lik (max n ((on_ (so i)))) (ed f (fun j => nI (owd (so i) j)) n ((on_ (so i)))))), (10, .ref (adr (23 + 6 * so i))), (0, .ref (adr 7)), (1, .long am), (3, .ref (adr ra)), (4, .int cl), (5, .int le), (9, .int (nI i))] := by rw [eb_]; exact hl
                      refine lv_iinc (v := nI (i + 1)) (lv' := [(9, .int (nI (i + 1))), (8, .int ((bst (skD am nd du) (fun i => lkO n f on_ owd (so i)) (fun i => if nI (oc (so i)) = cl then (1 : Int32) else 0) le (i + 1)).2.2)), (7, .int ((bst (skD am nd du) (fun i => lkO n f on_ owd (so i)) (fun i => if nI (oc (so i)) = cl then (1 : Int32) else 0) le (i + 1)).2.1)), (6, .int ((bst (skD am nd du) (fun i => lkO n f on_ owd (so i)) (fun i => if nI (oc (so i)) = cl then (1 : Int32) else 0) le (i + 1)).1)), (13, .int (if lik (max n (on_ (so i))) (ed f (fun j => nI (owd (so i) j)) n (on_ (so i))) = (bst (skD am nd du) (fun i => lkO n f on_ owd (so i)) (fun i => if nI (oc (so i)) = cl then (1 : Int32) else 0) le i).2.1 ∧ (¬ (if nI (oc (so i)) = cl then (1 : Int32) else 0) = 0 ∨ (bst (skD am nd du) (fun i => lkO n f on_ owd (so i)) (fun i => if nI (oc (so i)) = cl then (1 : Int32) else 0) le i).2.2 = 0) then 1 else 0)), (12, .int (if nI (oc (so i)) = cl then (1 : Int32) else 0)), (11, .int (lik (max n ((on_ (so i)))) (ed f (fun j => nI (owd (so i) j)) n ((on_ (so i)))))), (10, .ref (adr (23 + 6 * so i))), (0, .ref (adr 7)), (1, .long am), (3, .ref (adr ra)), (4, .int cl), (5, .int le)]) hx hb dX2_bestAmong_147 hl (k := 12) rfl (nI_1 _) (by decide) rfl (fun ls hl => ?_)
                      refine lv_goto (tgt := 12) hx hb dX2_bestAmong_150 (by decide) ?_
                      exact ih12 (i + 1) T_5 (by omega) (by omega) w_4 h_6 h_7 h_8 h_9 h_10 h_11 h_12 h_13 h_19 (fun q q1 => by rw [hw_4, va_up_ne _ _ q1]; exact zrwz q q1) _ _ hM hS ls (lv_sub hl [8, 9, 10, 11, 12, 3, 2, 1, 0] rfl)
                    · refine lv_iload hx hb dX2_bestAmong_130 (lv_at hl 0 rfl) ?_
                      refine lv_if_eq (tgt := 147) hx hb dX2_bestAmong_132 (by decide) (fun c132 => ?_) (fun c132 => ?_)
                      · have eb_ : bst (skD am nd du) (fun i => lkO n f on_ owd (so i)) (fun i => if nI (oc (so i)) = cl then (1 : Int32) else 0) le (i + 1) = ((bst (skD am nd du) (fun i => lkO n f on_ owd (so i)) (fun i => if nI (oc (so i)) = cl then (1 : Int32) else 0) le i).1, (bst (skD am nd du) (fun i => lkO n f on_ owd (so i)) (fun i => if nI (oc (so i)) = cl then (1 : Int32) else 0) le i).2.1, (bst (skD am nd du) (fun i => lkO n f on_ owd (so i)) (fun i => if nI (oc (so i)) = cl then (1 : Int32) else 0) le i).2.2) := bst_n (skD_0 c42 hrv_2 c54) (Or.inr ⟨c127, c132⟩)
                        have hl : lv_has ls 14 [(13, .int (if lik (max n (on_ (so i))) (ed f (fun j => nI (owd (so i) j)) n (on_ (so i))) = (bst (skD am nd du) (fun i => lkO n f on_ owd (so i)) (fun i => if nI (oc (so i)) = cl then (1 : Int32) else 0) le i).2.1 ∧ (¬ (if nI (oc (so i)) = cl then (1 : Int32) else 0) = 0 ∨ (bst (skD am nd du) (fun i => lkO n f on_ owd (so i)) (fun i => if nI (oc (so i)) = cl then (1 : Int32) else 0) le i).2.2 = 0) then 1 else 0)), (12, .int (if nI (oc (so i)) = cl then (1 : Int32) else 0)), (11, .int (lik (max n ((on_ (so i)))) (ed f (fun j => nI (owd (so i) j)) n ((on_ (so i)))))), (10, .ref (adr (23 + 6 * so i))), (0, .ref (adr 7)), (1, .long am), (3, .ref (adr ra)), (4, .int cl), (5, .int le), (6, .int ((bst (skD am nd du) (fun i => lkO n f on_ owd (so i)) (fun i => if nI (oc (so i)) = cl then (1 : Int32) else 0) le (i + 1)).1)), (7, .int ((bst (skD am nd du) (fun i => lkO n f on_ owd (so i)) (fun i => if nI (oc (so i)) = cl then (1 : Int32) else 0) le (i + 1)).2.1)), (8, .int ((bst (skD am nd du) (fun i => lkO n f on_ owd (so i)) (fun i => if nI (oc (so i)) = cl then (1 : Int32) else 0) le (i + 1)).2.2)), (9, .int (nI i))] := by rw [eb_]; exact hl
                        refine lv_iinc (v := nI (i + 1)) (lv' := [(9, .int (nI (i + 1))), (13, .int (if lik (max n (on_ (so i))) (ed f (fun j => nI (owd (so i) j)) n (on_ (so i))) = (bst (skD am nd du) (fun i => lkO n f on_ owd (so i)) (fun i => if nI (oc (so i)) = cl then (1 : Int32) else 0) le i).2.1 ∧ (¬ (if nI (oc (so i)) = cl then (1 : Int32) else 0) = 0 ∨ (bst (skD am nd du) (fun i => lkO n f on_ owd (so i)) (fun i => if nI (oc (so i)) = cl then (1 : Int32) else 0) le i).2.2 = 0) then 1 else 0)), (12, .int (if nI (oc (so i)) = cl then (1 : Int32) else 0)), (11, .int (lik (max n ((on_ (so i)))) (ed f (fun j => nI (owd (so i) j)) n ((on_ (so i)))))), (10, .ref (adr (23 + 6 * so i))), (0, .ref (adr 7)), (1, .long am), (3, .ref (adr ra)), (4, .int cl), (5, .int le), (6, .int ((bst (skD am nd du) (fun i => lkO n f on_ owd (so i)) (fun i => if nI (oc (so i)) = cl then (1 : Int32) else 0) le (i + 1)).1)), (7, .int ((bst (skD am nd du) (fun i => lkO n f on_ owd (so i)) (fun i => if nI (oc (so i)) = cl then (1 : Int32) else 0) le (i + 1)).2.1)), (8, .int ((bst (skD am nd du) (fun i => lkO n f on_ owd (so i)) (fun i => if nI (oc (so i)) = cl then (1 : Int32) else 0) le (i + 1)).2.2))]) hx hb dX2_bestAmong_147 hl (k := 12) rfl (nI_1 _) (by decide) rfl (fun ls hl => ?_)
                        refine lv_goto (tgt := 12) hx hb dX2_bestAmong_150 (by decide) ?_
                        exact ih12 (i + 1) T_5 (by omega) (by omega) w_4 h_6 h_7 h_8 h_9 h_10 h_11 h_12 h_13 h_19 (fun q q1 => by rw [hw_4, va_up_ne _ _ q1]; exact zrwz q q1) _ _ hM hS ls (lv_sub hl [5, 6, 7, 8, 9, 10, 11, 12, 0] rfl)
                      · refine lv_iload hx hb dX2_bestAmong_135 (lv_at hl 12 rfl) ?_
                        refine lv_istore (lv' := [(6, .int (nI i)), (13, .int (if lik (max n (on_ (so i))) (ed f (fun j => nI (owd (so i) j)) n (on_ (so i))) = (bst (skD am nd du) (fun i => lkO n f on_ owd (so i)) (fun i => if nI (oc (so i)) = cl then (1 : Int32) else 0) le i).2.1 ∧ (¬ (if nI (oc (so i)) = cl then (1 : Int32) else 0) = 0 ∨ (bst (skD am nd du) (fun i => lkO n f on_ owd (so i)) (fun i => if nI (oc (so i)) = cl then (1 : Int32) else 0) le i).2.2 = 0) then 1 else 0)), (12, .int (if nI (oc (so i)) = cl then (1 : Int32) else 0)), (11, .int (lik (max n ((on_ (so i)))) (ed f (fun j => nI (owd (so i) j)) n ((on_ (so i)))))), (10, .ref (adr (23 + 6 * so i))), (0, .ref (adr 7)), (1, .long am), (3, .ref (adr ra)), (4, .int cl), (5, .int le), (7, .int ((bst (skD am nd du) (fun i => lkO n f on_ owd (so i)) (fun i => if nI (oc (so i)) = cl then (1 : Int32) else 0) le i).2.1)), (8, .int ((bst (skD am nd du) (fun i => lkO n f on_ owd (so i)) (fun i => if nI (oc (so i)) = cl then (1 : Int32) else 0) le i).2.2)), (9, .int (nI i))]) hx hb dX2_bestAmong_137 hl (by decide) rfl (fun ls hl => ?_)
                        refine lv_iload hx hb dX2_bestAmong_139 (lv_at hl 3 rfl) ?_
                        refine lv_istore (lv' := [(7, .int (lik (max n ((on_ (so i)))) (ed f (fun j => nI (owd (so i) j)) n ((on_ (so i)))))), (6, .int (nI i)), (13, .int (if lik (max n (on_ (so i))) (ed f (fun j => nI (owd (so i) j)) n (on_ (so i))) = (bst (skD am nd du) (fun i => lkO n f on_ owd (so i)) (fun i => if nI (oc (so i)) = cl then (1 : Int32) else 0) le i).2.1 ∧ (¬ (if nI (oc (so i)) = cl then (1 : Int32) else 0) = 0 ∨ (bst (skD am nd du) (fun i => lkO n f on_ owd (so i)) (fun i => if nI (oc (so i)) = cl then (1 : Int32) else 0) le i).2.2 = 0) then 1 else 0)), (12, .int (if nI (oc (so i)) = cl then (1 : Int32) else 0)), (11, .int (lik (max n ((on_ (so i)))) (ed f (fun j => nI (owd (so i) j)) n ((on_ (so i)))))), (10, .ref (adr (23 + 6 * so i))), (0, .ref (adr 7)), (1, .long am), (3, .ref (adr ra)), (4, .int cl), (5, .int le), (8, .int ((bst (skD am nd du) (fun i => lkO n f on_ owd (so i)) (fun i => if nI (oc (so i)) = cl then (1 : Int32) else 0) le i).2.2)), (9, .int (nI i))]) hx hb dX2_bestAmong_141 hl (by decide) rfl (fun ls hl => ?_)
                        refine lv_iload hx hb dX2_bestAmong_143 (lv_at hl 3 rfl) ?_
                        refine lv_istore (lv' := [(8, .int (if nI (oc (so i)) = cl then (1 : Int32) else 0)), (7, .int (lik (max n ((on_ (so i)))) (ed f (fun j => nI (owd (so i) j)) n ((on_ (so i)))))), (6, .int (nI i)), (13, .int (if lik (max n (on_ (so i))) (ed f (fun j => nI (owd (so i) j)) n (on_ (so i))) = (bst (skD am nd du) (fun i => lkO n f on_ owd (so i)) (fun i => if nI (oc (so i)) = cl then (1 : Int32) else 0) le i).2.1 ∧ (¬ (if nI (oc (so i)) = cl then (1 : Int32) else 0) = 0 ∨ (bst (skD am nd du) (fun i => lkO n f on_ owd (so i)) (fun i => if nI (oc (so i)) = cl then (1 : Int32) else 0) le i).2.2 = 0) then 1 else 0)), (12, .int (if nI (oc (so i)) = cl then (1 : Int32) else 0)), (11, .int (lik (max n ((on_ (so i)))) (ed f (fun j => nI (owd (so i) j)) n ((on_ (so i)))))), (10, .ref (adr (23 + 6 * so i))), (0, .ref (adr 7)), (1, .long am), (3, .ref (adr ra)), (4, .int cl), (5, .int le), (9, .int (nI i))]) hx hb dX2_bestAmong_145 hl (by decide) rfl (fun ls hl => ?_)
                        have eb_ : bst (skD am nd du) (fun i => lkO n f on_ owd (so i)) (fun i => if nI (oc (so i)) = cl then (1 : Int32) else 0) le (i + 1) = (nI i, lik (max n ((on_ (so i)))) (ed f (fun j => nI (owd (so i) j)) n ((on_ (so i)))), if nI (oc (so i)) = cl then (1 : Int32) else 0) := by first | exact bst_t (skD_0 c42 hrv_2 c54) c120 (Or.inl c127) | exact bst_t (skD_0 c42 hrv_2 c54) c120 (Or.inr c132)
                        have hl : lv_has ls 14 [(8, .int ((bst (skD am nd du) (fun i => lkO n f on_ owd (so i)) (fun i => if nI (oc (so i)) = cl then (1 : Int32) else 0) le (i + 1)).2.2)), (7, .int ((bst (skD am nd du) (fun i => lkO n f on_ owd (so i)) (fun i => if nI (oc (so i)) = cl then (1 : Int32) else 0) le (i + 1)).2.1)), (6, .int ((bst (skD am nd du) (fun i => lkO n f on_ owd (so i)) (fun i => if nI (oc (so i)) = cl then (1 : Int32) else 0) le (i + 1)).1)), (13, .int (if lik (max n (on_ (so i))) (ed f (fun j => nI (owd (so i) j)) n (on_ (so i))) = (bst (skD am nd du) (fun i => lkO n f on_ owd (so i)) (fun i => if nI (oc (so i)) = cl then (1 : Int32) else 0) le i).2.1 ∧ (¬ (if nI (oc (so i)) = cl then (1 : Int32) else 0) = 0 ∨ (bst (skD am nd du) (fun i => lkO n f on_ owd (so i)) (fun i => if nI (oc (so i)) = cl then (1 : Int32) else 0) le i).2.2 = 0) then 1 else 0)), (12, .int (if nI (oc (so i)) = cl then (1 : Int32) else 0)), (11, .int (lik (max n ((on_ (so i)))) (ed f (fun j => nI (owd (so i) j)) n ((on_ (so i)))))), (10, .ref (adr (23 + 6 * so i))), (0, .ref (adr 7)), (1, .long am), (3, .ref (adr ra)), (4, .int cl), (5, .int le), (9, .int (nI i))] := by rw [eb_]; exact hl
                        refine lv_iinc (v := nI (i + 1)) (lv' := [(9, .int (nI (i + 1))), (8, .int ((bst (skD am nd du) (fun i => lkO n f on_ owd (so i)) (fun i => if nI (oc (so i)) = cl then (1 : Int32) else 0) le (i + 1)).2.2)), (7, .int ((bst (skD am nd du) (fun i => lkO n f on_ owd (so i)) (fun i => if nI (oc (so i)) = cl then (1 : Int32) else 0) le (i + 1)).2.1)), (6, .int ((bst (skD am nd du) (fun i => lkO n f on_ owd (so i)) (fun i => if nI (oc (so i)) = cl then (1 : Int32) else 0) le (i + 1)).1)), (13, .int (if lik (max n (on_ (so i))) (ed f (fun j => nI (owd (so i) j)) n (on_ (so i))) = (bst (skD am nd du) (fun i => lkO n f on_ owd (so i)) (fun i => if nI (oc (so i)) = cl then (1 : Int32) else 0) le i).2.1 ∧ (¬ (if nI (oc (so i)) = cl then (1 : Int32) else 0) = 0 ∨ (bst (skD am nd du) (fun i => lkO n f on_ owd (so i)) (fun i => if nI (oc (so i)) = cl then (1 : Int32) else 0) le i).2.2 = 0) then 1 else 0)), (12, .int (if nI (oc (so i)) = cl then (1 : Int32) else 0)), (11, .int (lik (max n ((on_ (so i)))) (ed f (fun j => nI (owd (so i) j)) n ((on_ (so i)))))), (10, .ref (adr (23 + 6 * so i))), (0, .ref (adr 7)), (1, .long am), (3, .ref (adr ra)), (4, .int cl), (5, .int le)]) hx hb dX2_bestAmong_147 hl (k := 12) rfl (nI_1 _) (by decide) rfl (fun ls hl => ?_)
                        refine lv_goto (tgt := 12) hx hb dX2_bestAmong_150 (by decide) ?_
                        exact ih12 (i + 1) T_5 (by omega) (by omega) w_4 h_6 h_7 h_8 h_9 h_10 h_11 h_12 h_13 h_19 (fun q q1 => by rw [hw_4, va_up_ne _ _ q1]; exact zrwz q q1) _ _ hM hS ls (lv_sub hl [8, 9, 10, 11, 12, 3, 2, 1, 0] rfl)
                refine lv_icmp_ne (tgt := 113) hx hb dX2_bestAmong_96 (by decide) (fun c96 => ?_) (fun c96 => ?_)
                · refine lv_iconst (v := 0) hx hb dX2_bestAmong_113 (by decide) ?_
                  refine m_top (show (0 : Int32) = if lik (max n (on_ (so i))) (ed f (fun j => nI (owd (so i) j)) n (on_ (so i))) = (bst (skD am nd du) (fun i => lkO n f on_ owd (so i)) (fun i => if nI (oc (so i)) = cl then (1 : Int32) else 0) le i).2.1 ∧ (¬ (if nI (oc (so i)) = cl then (1 : Int32) else 0) = 0 ∨ (bst (skD am nd du) (fun i => lkO n f on_ owd (so i)) (fun i => if nI (oc (so i)) = cl then (1 : Int32) else 0) le i).2.2 = 0) then 1 else 0 from by first | exact (tie_0 c96).symm | exact (tie_1 c96 c101).symm | exact (tie_2 c101 c106).symm | exact (tie_3 c96 c106).symm) ?_
                  exact J114 ls hl
                · refine lv_iload hx hb dX2_bestAmong_99 (lv_at hl 0 rfl) ?_
                  refine lv_if_ne (tgt := 109) hx hb dX2_bestAmong_101 (by decide) (fun c101 => ?_) (fun c101 => ?_)
                  · refine lv_iconst (v := 1) hx hb dX2_bestAmong_109 (by decide) ?_
                    refine lv_goto (tgt := 114) hx hb dX2_bestAmong_110 (by decide) ?_
                    refine m_top (show (1 : Int32) = if lik (max n (on_ (so i))) (ed f (fun j => nI (owd (so i) j)) n (on_ (so i))) = (bst (skD am nd du) (fun i => lkO n f on_ owd (so i)) (fun i => if nI (oc (so i)) = cl then (1 : Int32) else 0) le i).2.1 ∧ (¬ (if nI (oc (so i)) = cl then (1 : Int32) else 0) = 0 ∨ (bst (skD am nd du) (fun i => lkO n f on_ owd (so i)) (fun i => if nI (oc (so i)) = cl then (1 : Int32) else 0) le i).2.2 = 0) then 1 else 0 from by first | exact (tie_0 c96).symm | exact (tie_1 c96 c101).symm | exact (tie_2 c101 c106).symm | exact (tie_3 c96 c106).symm) ?_
                    exact J114 ls hl
                  · refine lv_iload hx hb dX2_bestAmong_104 (lv_at hl 10 rfl) ?_
                    refine lv_if_ne (tgt := 113) hx hb dX2_bestAmong_106 (by decide) (fun c106 => ?_) (fun c106 => ?_)
                    · refine lv_iconst (v := 0) hx hb dX2_bestAmong_113 (by decide) ?_
                      refine m_top (show (0 : Int32) = if lik (max n (on_ (so i))) (ed f (fun j => nI (owd (so i) j)) n (on_ (so i))) = (bst (skD am nd du) (fun i => lkO n f on_ owd (so i)) (fun i => if nI (oc (so i)) = cl then (1 : Int32) else 0) le i).2.1 ∧ (¬ (if nI (oc (so i)) = cl then (1 : Int32) else 0) = 0 ∨ (bst (skD am nd du) (fun i => lkO n f on_ owd (so i)) (fun i => if nI (oc (so i)) = cl then (1 : Int32) else 0) le i).2.2 = 0) then 1 else 0 from by first | exact (tie_0 c96).symm | exact (tie_1 c96 c101).symm | exact (tie_2 c101 c106).symm | exact (tie_3 c96 c106).symm) ?_
                      exact J114 ls hl
                    · refine lv_iconst (v := 1) hx hb dX2_bestAmong_109 (by decide) ?_
                      refine lv_goto (tgt := 114) hx hb dX2_bestAmong_110 (by decide) ?_
                      refine m_top (show (1 : Int32) = if lik (max n (on_ (so i))) (ed f (fun j => nI (owd (so i) j)) n (on_ (so i))) = (bst (skD am nd du) (fun i => lkO n f on_ owd (so i)) (fun i => if nI (oc (so i)) = cl then (1 : Int32) else 0) le i).2.1 ∧ (¬ (if nI (oc (so i)) = cl then (1 : Int32) else 0) = 0 ∨ (bst (skD am nd du) (fun i => lkO n f on_ owd (so i)) (fun i => if nI (oc (so i)) = cl then (1 : Int32) else 0) le i).2.2 = 0) then 1 else 0 from by first | exact (tie_0 c96).symm | exact (tie_1 c96 c101).symm | exact (tie_2 c101 c106).symm | exact (tie_3 c96 c106).symm) ?_
                      exact J114 ls hl
              refine lv_icmp_ne (tgt := 89) hx hb dX2_bestAmong_82 (by decide) (fun c82 => ?_) (fun c82 => ?_)
              · refine lv_iconst (v := 0) hx hb dX2_bestAmong_89 (by decide) ?_
                refine m_top (show (0 : Int32) = if nI (oc (so i)) = cl then (1 : Int32) else 0 from by first | rw [if_pos c82] | rw [if_neg c82]) ?_
                exact J90 ls hl
              · refine lv_iconst (v := 1) hx hb dX2_bestAmong_85 (by decide) ?_
                refine lv_goto (tgt := 90) hx hb dX2_bestAmong_86 (by decide) ?_
                refine m_top (show (1 : Int32) = if nI (oc (so i)) = cl then (1 : Int32) else 0 from by first | rw [if_pos c82] | rw [if_neg c82]) ?_
                exact J90 ls hl
            · have eb_ : bst (skD am nd du) (fun i => lkO n f on_ owd (so i)) (fun i => if nI (oc (so i)) = cl then (1 : Int32) else 0) le (i + 1) = ((bst (skD am nd du) (fun i => lkO n f on_ owd (so i)) (fun i => if nI (oc (so i)) = cl then (1 : Int32) else 0) le i).1, (bst (skD am nd du) (fun i => lkO n f on_ owd (so i)) (fun i => if nI (oc (so i)) = cl then (1 : Int32) else 0) le i).2.1, (bst (skD am nd du) (fun i => lkO n f on_ owd (so i)) (fun i => if nI (oc (so i)) = cl then (1 : Int32) else 0) le i).2.2) := bst_s (skD_2 hrv_2 c54)
              have hl : lv_has ls 14 [(10, .ref (adr (23 + 6 * so i))), (0, .ref (adr 7)), (1, .long am), (3, .ref (adr ra)), (4, .int cl), (5, .int le), (6, .int ((bst (skD am nd du) (fun i => lkO n f on_ owd (so i)) (fun i => if nI (oc (so i)) = cl then (1 : Int32) else 0) le (i + 1)).1)), (7, .int ((bst (skD am nd du) (fun i => lkO n f on_ owd (so i)) (fun i => if nI (oc (so i)) = cl then (1 : Int32) else 0) le (i + 1)).2.1)), (8, .int ((bst (skD am nd du) (fun i => lkO n f on_ owd (so i)) (fun i => if nI (oc (so i)) = cl then (1 : Int32) else 0) le (i + 1)).2.2)), (9, .int (nI i))] := by rw [eb_]; exact hl
              refine lv_goto (tgt := 147) hx hb dX2_bestAmong_57 (by decide) ?_
              refine lv_iinc (v := nI (i + 1)) (lv' := [(9, .int (nI (i + 1))), (10, .ref (adr (23 + 6 * so i))), (0, .ref (adr 7)), (1, .long am), (3, .ref (adr ra)), (4, .int cl), (5, .int le), (6, .int ((bst (skD am nd du) (fun i => lkO n f on_ owd (so i)) (fun i => if nI (oc (so i)) = cl then (1 : Int32) else 0) le (i + 1)).1)), (7, .int ((bst (skD am nd du) (fun i => lkO n f on_ owd (so i)) (fun i => if nI (oc (so i)) = cl then (1 : Int32) else 0) le (i + 1)).2.1)), (8, .int ((bst (skD am nd du) (fun i => lkO n f on_ owd (so i)) (fun i => if nI (oc (so i)) = cl then (1 : Int32) else 0) le (i + 1)).2.2))]) hx hb dX2_bestAmong_147 hl (k := 9) rfl (nI_1 _) (by decide) rfl (fun ls hl => ?_)
              refine lv_goto (tgt := 12) hx hb dX2_bestAmong_150 (by decide) ?_
              exact ih12 (i + 1) Tz (by omega) (by omega) wz z0wz z1wz z2wz z3wz z4wz z5wz z6wz z7wz zSwz zrwz _ _ hM hS ls (lv_sub hl [2, 3, 4, 5, 6, 7, 8, 9, 0] rfl)
  exact L12 _ 0 T (Nat.lt_succ_self _) (Nat.zero_le _) w hm.1 hm.2.1 hm.2.2.2.1 hm.2.2.2.2.1 hm.2.2.2.2.2.1 hm.2.2.2.2.2.2.1 g1 g2 hS1 (fun q _ => rfl) _ _ hM hS ls (lv_sub hl [4, 5, 6, 7, 8, 3, 2, 1, 0] rfl)
