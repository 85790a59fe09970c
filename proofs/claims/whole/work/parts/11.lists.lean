/-- a list in the machine: its first n numbers -/
def lst (n : Nat) (f : Nat → Nat) : List Nat := (List.range n).map f
theorem lst_len {n : Nat} {f : Nat → Nat} : (lst n f).length = n := by simp [lst]
theorem lst_get {n i : Nat} {f : Nat → Nat} (h : i < n) : (lst n f)[i]? = some (f i) := by simp [lst, h]
theorem lst_push {n x : Nat} {f : Nat → Nat} : lst (n + 1) (va_up f n x) = lst n f ++ [x] := by
  simp only [lst, List.range_succ, List.map_append, List.map_cons, List.map_nil, va_up_self]
  congr 1
  apply List.map_congr_left
  intro a ha
  rw [va_up_ne _ _ (by have := List.mem_range.mp ha; omega)]
theorem upd_nI {f : Nat → Nat} {n x : Nat} : upd (fun j => nI (f j)) n (nI x) = fun j => nI (va_up f n x j) := by
  funext j
  by_cases h : j = n
  · subst h; simp [upd, va_up]
  · simp [upd, va_up, h]
theorem exI (x : Int32) : ∃ n : Nat, x = nI n := ⟨x.toBitVec.toNat, by
  apply Int32.toBitVec_inj.mp
  show x.toBitVec = BitVec.ofNat 32 x.toBitVec.toNat
  simp⟩
theorem cut_nat {n k : Nat} {f1 : Nat → Int32} {d : Nat → Nat} (hk : k < n) (h : ∀ j, j + 1 < n → f1 j = cutF k (fun j => nI (d j)) j) : ∃ d2 : Nat → Nat, f1 = (fun j => nI (d2 j)) ∧ lst (n - 1) d2 = (lst n d).eraseIdx k := by
  refine ⟨fun j => if j + 1 < n then (if j < k then d j else d (j + 1)) else (exI (f1 j)).choose, ?_, ?_⟩
  · funext j
    by_cases q : j + 1 < n
    · simp only [if_pos q]
      rw [h j q]
      unfold cutF
      by_cases q2 : j < k <;> simp [q2]
    · simp only [if_neg q]
      exact (exI (f1 j)).choose_spec
  · apply List.ext_getElem?
    intro j
    rw [List.getElem?_eraseIdx]
    by_cases q : j + 1 < n
    · rw [lst_get (show j < n - 1 by omega), if_pos q]
      by_cases q2 : j < k
      · rw [if_pos q2, if_pos q2, lst_get (by omega)]
      · rw [if_neg q2, if_neg q2, lst_get q]
    · rw [List.getElem?_eq_none (by rw [lst_len]; omega)]
      by_cases q2 : j < k
      · omega
      · rw [if_neg q2, List.getElem?_eq_none (by rw [lst_len]; omega)]
def LD1 (P : Nat → Bool) (D : List Nat) (k : Nat) : List Nat := D.take k ++ (D.drop k).filter P
theorem LD1_top {P : Nat → Bool} {D : List Nat} : LD1 P D D.length = D := by simp [LD1]
theorem LD1_0 {P : Nat → Bool} {D : List Nat} : LD1 P D 0 = D.filter P := by simp [LD1]
theorem LD1_keep {P : Nat → Bool} {D : List Nat} {k x : Nat} (h : D[k]? = some x) (hp : P x = true) : LD1 P D (k + 1) = LD1 P D k := by
  obtain ⟨hk, hx⟩ := List.getElem?_eq_some_iff.mp h
  unfold LD1
  rw [List.drop_eq_getElem_cons hk, hx, List.filter_cons_of_pos hp, List.take_succ, h]
  simp
theorem LD1_cut {P : Nat → Bool} {D : List Nat} {k x : Nat} (h : D[k]? = some x) (hp : P x = false) : (LD1 P D (k + 1)).eraseIdx k = LD1 P D k := by
  obtain ⟨hk, hx⟩ := List.getElem?_eq_some_iff.mp h
  unfold LD1
  rw [List.drop_eq_getElem_cons hk, hx, List.filter_cons_of_neg (by rw [hp]; decide), List.take_succ, h]
  have hl : (D.take k).length = k := by rw [List.length_take]; omega
  show (((D.take k) ++ [x]) ++ _).eraseIdx k = _
  rw [List.append_assoc, List.eraseIdx_append_of_length_le (by omega), hl, Nat.sub_self]
  rfl
theorem LD1_at {P : Nat → Bool} {D : List Nat} {k j : Nat} (h : j < k) : (LD1 P D k)[j]? = D[j]? := by
  unfold LD1
  by_cases q : j < D.length
  · rw [List.getElem?_append_left (by rw [List.length_take]; omega), List.getElem?_take_of_lt h]
  · rw [List.getElem?_eq_none (l := D) (by omega), List.getElem?_eq_none]
    rw [List.length_append, List.length_take, List.drop_eq_nil_of_le (by omega)]
    simp
    omega
def LD2 (P : Nat → Bool) (E : List Nat) (i : Nat) : List Nat := E ++ (List.range i).filter (fun x => P x && !E.contains x)
theorem LD2_0 {P : Nat → Bool} {E : List Nat} : LD2 P E 0 = E := by simp [LD2]
theorem LD2_mem {P : Nat → Bool} {E : List Nat} {i : Nat} : i ∈ LD2 P E i ↔ i ∈ E := by
  unfold LD2
  rw [List.mem_append]
  refine ⟨fun h => h.elim id (fun q => ?_), Or.inl⟩
  exact absurd (List.mem_range.mp (List.mem_filter.mp q).1) (Nat.lt_irrefl _)
theorem LD2_add {P : Nat → Bool} {E : List Nat} {i : Nat} (hp : P i = true) (hn : ¬ i ∈ LD2 P E i) : LD2 P E (i + 1) = LD2 P E i ++ [i] := by
  rw [LD2_mem] at hn
  unfold LD2
  rw [List.range_succ, List.filter_append, List.append_assoc]
  congr 2
  simp [hp, hn]
theorem LD2_skip {P : Nat → Bool} {E : List Nat} {i : Nat} (h : P i = false ∨ i ∈ LD2 P E i) : LD2 P E (i + 1) = LD2 P E i := by
  rw [LD2_mem] at h
  unfold LD2
  rw [List.range_succ, List.filter_append]
  rcases h with h | h
  · simp [h]
  · simp [h]
theorem nodup_len : ∀ (n : Nat) (l : List Nat), l.Nodup → (∀ x ∈ l, x < n) → l.length ≤ n := by
  intro n
  induction n with
  | zero =>
    intro l _ h
    cases l with
    | nil => exact Nat.le_refl _
    | cons a l => exact absurd (h a List.mem_cons_self) (Nat.not_lt_zero _)
  | succ n ih =>
    intro l hl h
    by_cases q : n ∈ l
    · have h1 := ih (l.erase n) (hl.erase n) (fun x hx => by
        have hx2 := (List.Nodup.mem_erase_iff hl).mp hx
        have := h x hx2.2
        have := hx2.1
        omega)
      rw [List.length_erase_of_mem q] at h1
      omega
    · exact Nat.le_succ_of_le (ih l hl (fun x hx => by
        have := h x hx
        have : x ≠ n := fun e => q (e ▸ hx)
        omega))
theorem LD1_sub {P : Nat → Bool} {D : List Nat} {k : Nat} : (LD1 P D k).Sublist D := by
  unfold LD1
  have h : (D.take k ++ (D.drop k).filter P).Sublist (D.take k ++ D.drop k) := List.Sublist.append (List.Sublist.refl _) List.filter_sublist
  rwa [List.take_append_drop] at h
theorem LD2_ok {P : Nat → Bool} {E : List Nat} {n : Nat} (hE : E.Nodup) (hn : ∀ x ∈ E, x < n) : ∀ i, i ≤ n → (LD2 P E i).Nodup ∧ ∀ x ∈ LD2 P E i, x < n := by
  intro i hi
  unfold LD2
  refine ⟨List.nodup_append.mpr ⟨hE, List.nodup_range.filter _, fun a ha b hb e => ?_⟩, fun x hx => ?_⟩
  · have := (List.mem_filter.mp hb).2
    simp at this
    exact this.2 (e ▸ ha)
  · rcases List.mem_append.mp hx with q | q
    · exact hn x q
    · have := List.mem_range.mp (List.mem_filter.mp q).1
      omega
/-- the sentence has a word astray -/
def asB (fr : Nat → Int32) (cl n : Nat) (wd : Nat → Nat) (bf : Nat → Int32) : Bool := (List.range n).any (fun j => decide (ast fr cl wd bf j))
theorem asB_t {fr bf : Nat → Int32} {cl n : Nat} {wd : Nat → Nat} {r : Int32} (h : FaP n fr cl wd bf r) (c : ¬ r = -1) : asB fr cl n wd bf = true := by
  rcases h with ⟨i, h1, _, h3, _⟩ | ⟨h1, _⟩
  · exact List.any_eq_true.mpr ⟨i, List.mem_range.mpr h1, decide_eq_true h3⟩
  · exact absurd h1 c
theorem asB_f {fr bf : Nat → Int32} {cl n : Nat} {wd : Nat → Nat} {r : Int32} (hn : n ≤ 8) (h : FaP n fr cl wd bf r) (c : r = -1) : asB fr cl n wd bf = false := by
  rcases h with ⟨i, h1, h2, _⟩ | ⟨_, h1⟩
  · exact absurd (h2.symm.trans c) (nI_nm1 h1 hn)
  · rw [asB, List.any_eq_false]
    intro j hj
    simpa using h1 j (List.mem_range.mp hj)
def RulW (ac : Nat → ClassId) (adr : Nat → Nat) (w : Nat → va_E) (fs fr : Nat → Int32) (ft : Nat → Nat) : Prop := w 3 = .inr (5, [.ref (adr 4), .ref (adr 5), .ref (adr 6)]) ∧ w 4 = .inl (ac 0, 600, .inl fs) ∧ w 5 = .inl (ac 0, 200, .inl fr) ∧ w 6 = .inl (ac 0, 200, .inl (fun j => nI (ft j)))
theorem RulW.up {ac : Nat → ClassId} {adr : Nat → Nat} {w : Nat → va_E} {fs fr : Nat → Int32} {ft : Nat → Nat} {k : Nat} {e : va_E} (hk : k < 3 ∨ 6 < k) (h : RulW ac adr w fs fr ft) : RulW ac adr (va_up w k e) fs fr ft := by
  obtain ⟨h1, h2, h3, h4⟩ := h
  exact ⟨by rw [va_up_ne _ _ (by omega)]; exact h1, by rw [va_up_ne _ _ (by omega)]; exact h2, by rw [va_up_ne _ _ (by omega)]; exact h3, by rw [va_up_ne _ _ (by omega)]; exact h4⟩
theorem sref_push {adr : Nat → Nat} {ns o : Nat} {so : Nat → Nat} : va_up (sref adr ns so) ns (some (adr (23 + 6 * o))) = sref adr (ns + 1) (va_up so ns o) := by
  funext i
  by_cases h : i = ns
  · subst h
    rw [va_up_self]
    unfold sref
    rw [if_pos (by omega), va_up_self]
  · rw [va_up_ne _ _ h]
    unfold sref
    by_cases h2 : i < ns
    · rw [if_pos h2, if_pos (by omega), va_up_ne _ _ h]
    · rw [if_neg h2, if_neg (by omega)]
/-- the index of words with a sentence more -/
def kpv (hv : Nat → Int64) (b : Nat) (wd : Nat → Nat) : Nat → (Nat → Int64)
  | 0 => hv
  | j + 1 => vp_updL (kpv hv b wd j) (wd j) (kpv hv b wd j (wd j) ||| (1 <<< ((nI b).toInt64 &&& 63)))
theorem kp_end {w w1 : Nat → va_E} {e7 e8 e9 : va_E} (h : ∀ q, q ≠ 8 → q ≠ 9 → w1 q = w q) (h8 : w1 8 = e8) (h9 : w1 9 = e9) : va_up w1 7 e7 = va_up (va_up (va_up w 8 e8) 9 e9) 7 e7 := by
  congr 1
  funext q
  by_cases q1 : q = 9
  · subst q1; rw [va_up_self, h9]
  · rw [va_up_ne _ _ q1]
    by_cases q2 : q = 8
    · subst q2; rw [va_up_self, h8]
    · rw [va_up_ne _ _ q2, h q q2 q1]
set_option maxHeartbeats 4000000 in
set_option maxRecDepth 100000 in
/-- Memory.keep -/
theorem k_X2_keep (l : Launch) (D : va_G) (ac : Nat → ClassId) (H : Heap) (A : Nat → Prop) (N : Nat) (adr : Nat → Nat) (w : Nat → va_E) (hM : MW D A N adr w H) (no : Nat) (oc on_ : Nat → Nat) (owd : Nat → Nat → Nat) (obf : Nat → Nat → Int32) (ns : Nat) (so : Nat → Nat) (hv : Nat → Int64) (nd : Nat) (du : Nat → Nat) (T : Nat → Int32) (hN : 22 + 6 * no ≤ N) (hS1 : SenF ac adr w no oc on_ owd obf) (hm : MemW ac adr w ns so hv nd du T) (hso : ∀ i, i < ns → so i < no) (o : Nat) (ho : o < no) (hns0 : ns < 40) : WRi l yX2_keep wsX2_keep ({ frames := 1, cells := 0, slots := 0, locals := 21 }) [.ref (adr 7), .ref (adr (23 + 6 * o))] D ac H A N adr (fun r w1 => r = nI ns ∧ w1 = va_up (va_up (va_up w 8 (.inl (ac 4, 40, .inr (.inr (.inr (.inr (sref adr (ns + 1) (va_up so ns o)))))))) 9 (.inl (ac 1, 50, .inr (.inl (kpv hv ns (owd o) (on_ o)))))) 7 (.inr (2, [.ref (adr 8), .ref (adr 9), .ref (adr 10), .ref (adr 12), .int (nI (ns + 1))]))) := by
  refine Met.ofW (cc := cX2_keep) (maxL := 5) (ret := (some .int)) (by decide) rfl ?_
  intro p e s m args below meth c s₁ B hml hv
  obtain ⟨hargs, hsz, hK⟩ := hv
  have hx := B.exec
  have hb := B.bytes
  have hr := B.returns
  have hts := atoms_spec (ws := wsX2_keep) B.pre
  have hown : s.vm.findClass RX2 = some m.cls := findClass_of_methodNamed B.named
  have hlocks := B.notSynchronized
  subst hsz
  have inX2_ : ∀ w ∈ wsX20, w ∈ wsX2_keep := by decide +kernel
  have inX4_ : ∀ w ∈ wsX40, w ∈ wsX2_keep := by decide +kernel
  have inX6_ : ∀ w ∈ wsX60, w ∈ wsX2_keep := by decide +kernel
  have hS : va_S A s.heap s.heap [] := va_S.rf
  have hl := lv_entry ([.ref (adr 7), .ref (adr (23 + 6 * o))]) (n := 5) (Nat.le_of_ble_eq_true rfl)
  have hen := lg_entry_eq m [.ref (adr 7), .ref (adr (23 + 6 * o))] 5
  rw [← hargs] at hen
  rw [hen]
  generalize (lg_sl ([.ref (adr 7), .ref (adr (23 + 6 * o))]) ++ List.replicate (5 - (lg_sl ([.ref (adr 7), .ref (adr (23 + 6 * o))])).length) Slot.unset).toArray = ls at hl ⊢
  have hl : lv_has ls 5 [(0, .ref (adr 7)), (1, .ref (adr (23 + 6 * o)))] := hl
  obtain ⟨Q0, hQ0⟩ : ∃ z, z = MQ below (va_Qi (fun r w1 => r = nI ns ∧ w1 = va_up (va_up (va_up w 8 (.inl (ac 4, 40, .inr (.inr (.inr (.inr (sref adr (ns + 1) (va_up so ns o)))))))) 9 (.inl (ac 1, 50, .inr (.inl (kpv hv ns (owd o) (on_ o)))))) 7 (.inr (2, [.ref (adr 8), .ref (adr 9), .ref (adr 10), .ref (adr 12), .int (nI (ns + 1))]))) (fun c t => MW D A N adr c t.heap) A) args s 0 0 A := ⟨_, rfl⟩
  rw [← hQ0]
  obtain ⟨hns, hnd⟩ := hm.2.2.2.2.2.2.2
  have ho_ := ho
  have hsn_ := hS1 o ho
  obtain ⟨hn0_, hn8_, hcl_, hwd_⟩ := hsn_.2.2.2.2.2
  refine lv_aload_n hx hb dX2_keep_0 rfl (lv_at hl 0 rfl) ?_
  refine m_get (ci := 2) (C := RX2) (T := TX2) (n := 5) (v := .int (nI ns)) hx hb hts inX2_ hown hK rfl (hM.cel (by omega) hm.1) 4 (by decide) (hts _ (by decide +kernel)) rfl dX2_keep_1 ?_
  refine lv_istore_n (lv' := [(2, .int (nI ns)), (0, .ref (adr 7)), (1, .ref (adr (23 + 6 * o)))]) hx hb dX2_keep_4 rfl hl (by decide) rfl (fun ls hl => ?_)
  refine lv_iload_n hx hb dX2_keep_5 rfl (lv_at hl 0 rfl) ?_
  refine lv_if_lt (tgt := 18) hx hb dX2_keep_6 (by decide) (fun c6 => ?_) (fun c6 => ?_)
  · exact absurd c6 (nI_pos (by omega))
  · refine lv_iload_n hx hb dX2_keep_9 rfl (lv_at hl 0 rfl) ?_
    refine lv_aload_n hx hb dX2_keep_10 rfl (lv_at hl 1 rfl) ?_
    refine m_get (ci := 2) (C := RX2) (T := TX2) (n := 5) (v := .ref (adr 8)) hx hb hts inX2_ hown hK rfl (hM.cel (by omega) hm.1) 0 (by decide) (hts _ (by decide +kernel)) rfl dX2_keep_11 ?_
    refine m_alen (v := 40) (ty := _) hx hb hK 4 (hM.cel (by omega) hm.2.1) rfl (by first | rfl | decide) dX2_keep_14 ?_
    refine lv_icmp_lt (tgt := 20) hx hb dX2_keep_15 (by decide) (fun c15 => ?_) (fun c15 => ?_)
    · refine lv_aload_n hx hb dX2_keep_20 rfl (lv_at hl 1 rfl) ?_
      refine m_get (ci := 2) (C := RX2) (T := TX2) (n := 5) (v := .ref (adr 8)) hx hb hts inX2_ hown hK rfl (hM.cel (by omega) hm.1) 0 (by decide) (hts _ (by decide +kernel)) rfl dX2_keep_21 ?_
      refine lv_iload_n hx hb dX2_keep_24 rfl (lv_at hl 0 rfl) ?_
      refine lv_aload_n hx hb dX2_keep_25 rfl (lv_at hl 2 rfl) ?_
      refine m_astq hx hb hK hM hS 4 8 (by omega) hm.2.1 (23 + 6 * o) 6 (by have := ho_; omega) hsn_.1 rfl rfl (vp_in_nI (by omega) (by decide)) dX2_keep_26 (fun H locs hM hS => ?_)
      have ef_ : (va_up (sref adr ns so) (nI ns).toNatClampNeg (some (adr (23 + 6 * o)))) = sref adr (ns + 1) (va_up so ns o) := by rw [nI_clamp (by omega)]; exact sref_push
      rw [ef_] at hM
      clear ef_
      obtain ⟨w_1, ew_1⟩ : ∃ z, z = va_up w 8 (.inl (ac 4, 40, .inr (.inr (.inr (.inr (sref adr (ns + 1) (va_up so ns o))))))) := ⟨_, rfl⟩
      rw [← ew_1] at hM
      have h_2 : w_1 7 = .inr (2, [.ref (adr 8), .ref (adr 9), .ref (adr 10), .ref (adr 12), .int (nI ns)]) := by rw [ew_1, va_up_ne _ _ (by omega)]; exact hm.1
      have h_3 : w_1 8 = .inl (ac 4, 40, .inr (.inr (.inr (.inr (sref adr (ns + 1) (va_up so ns o)))))) := by rw [ew_1]; exact va_up_self _ _ _
      have h_4 : w_1 9 = .inl (ac 1, 50, .inr (.inl hv)) := by rw [ew_1, va_up_ne _ _ (by omega)]; exact hm.2.2.1
      have h_5 : w_1 10 = .inr (1, [.ref (adr 11), .int (nI nd)]) := by rw [ew_1, va_up_ne _ _ (by omega)]; exact hm.2.2.2.1
      have h_6 : w_1 11 = .inl (ac 0, 60, .inl (fun j => nI (du j))) := by rw [ew_1, va_up_ne _ _ (by omega)]; exact hm.2.2.2.2.1
      have h_7 : w_1 12 = .inr (0, [.ref (adr 13)]) := by rw [ew_1, va_up_ne _ _ (by omega)]; exact hm.2.2.2.2.2.1
      have h_8 : w_1 13 = .inl (ac 0, 81, .inl T) := by rw [ew_1, va_up_ne _ _ (by omega)]; exact hm.2.2.2.2.2.2.1
      have h_9 : w_1 (23 + 6 * o) = .inr (6, [.int (nI (oc o)), .ref (adr (23 + 6 * o + 1)), .ref (adr (23 + 6 * o + 3))]) := by rw [ew_1, va_up_ne _ _ (by omega)]; exact hsn_.1
      have h_10 : w_1 (23 + 6 * o + 1) = .inr (4, [.ref (adr (23 + 6 * o + 2)), .int (nI (on_ o))]) := by rw [ew_1, va_up_ne _ _ (by omega)]; exact hsn_.2.1
      have h_11 : w_1 (23 + 6 * o + 2) = .inl (ac 0, 8, .inl (fun j => nI (owd o j))) := by rw [ew_1, va_up_ne _ _ (by omega)]; exact hsn_.2.2.1
      have h_12 : w_1 (23 + 6 * o + 3) = .inr (4, [.ref (adr (23 + 6 * o + 4)), .int (nI (on_ o))]) := by rw [ew_1, va_up_ne _ _ (by omega)]; exact hsn_.2.2.2.1
      have h_13 : w_1 (23 + 6 * o + 4) = .inl (ac 0, 8, .inl (obf o)) := by rw [ew_1, va_up_ne _ _ (by omega)]; exact hsn_.2.2.2.2.1
      refine lv_iconst (v := 0) hx hb dX2_keep_27 (by decide) ?_
      refine lv_istore_n (lv' := [(3, .int 0), (2, .int (nI ns)), (0, .ref (adr 7)), (1, .ref (adr (23 + 6 * o)))]) hx hb dX2_keep_28 rfl hl (by decide) rfl (fun ls hl => ?_)
      have L29 : ∀ (k9 : Nat) (i : Nat) (hk : on_ o - i < k9) (hi9 : i ≤ on_ o) (wz : Nat → va_E) (z0wz : wz 7 = .inr (2, [.ref (adr 8), .ref (adr 9), .ref (adr 10), .ref (adr 12), .int (nI ns)])) (z1wz : wz 8 = .inl (ac 4, 40, .inr (.inr (.inr (.inr (sref adr (ns + 1) (va_up so ns o))))))) (z2wz : wz 9 = .inl (ac 1, 50, .inr (.inl (kpv hv ns (owd o) i)))) (z3wz : wz (23 + 6 * o) = .inr (6, [.int (nI (oc o)), .ref (adr (23 + 6 * o + 1)), .ref (adr (23 + 6 * o + 3))])) (z4wz : wz (23 + 6 * o + 1) = .inr (4, [.ref (adr (23 + 6 * o + 2)), .int (nI (on_ o))])) (z5wz : wz (23 + 6 * o + 2) = .inl (ac 0, 8, .inl (fun j => nI (owd o j)))) (zrwz : ∀ q, q ≠ 8 → q ≠ 9 → wz q = w q) (H : Heap) (locs : List Loc) (hM : MW D A N adr wz H) (hS : va_S A s.heap H locs) (ls : Array Slot) (hl : lv_has ls 5 [(0, .ref (adr 7)), (1, .ref (adr (23 + 6 * o))), (2, .int (nI ns)), (3, .int (nI i))]), W p l e (headSpec wsX2_keep ({ frames := 1, cells := 0, slots := 0, locals := 21 })).room s m args below meth c H locs 0 0 Q0 (F0 m 29 ls []) := by
        intro k9
        induction k9 with
        | zero => intro i hk hi9 wz z0wz z1wz z2wz z3wz z4wz z5wz zrwz H locs hM hS ls hl; exact absurd hk (Nat.not_lt_zero _)
        | succ k9 ih29 =>
          intro i hk hi9 wz z0wz z1wz z2wz z3wz z4wz z5wz zrwz H locs hM hS ls hl
          refine lv_iload_n hx hb dX2_keep_29 rfl (lv_at hl 3 rfl) ?_
          refine lv_aload_n hx hb dX2_keep_30 rfl (lv_at hl 1 rfl) ?_
          refine m_getN (host := RX7) (ci := 6) (C := RX6) (T := TX6) (n := 3) (v := .ref (adr (23 + 6 * o + 1))) hx hb hts inX6_ hown hK rfl (hM.cel (by have := ho_; omega) z3wz) 1 (by decide) 17 rfl rfl dX2_keep_31 ?_
          refine m_getN (host := RX7) (ci := 4) (C := RX4) (T := TX4) (n := 2) (v := .int (nI (on_ o))) hx hb hts inX4_ hown hK rfl (hM.cel (by have := ho_; omega) z4wz) 1 (by decide) 4 rfl rfl dX2_keep_34 ?_
          refine lv_icmp_ge (tgt := 84) hx hb dX2_keep_37 (by decide) (fun c37 => ?_) (fun c37 => ?_)
          · have hin : i = on_ o := by have := le_le (b := i) c37 (by omega) (by omega); omega
            refine lv_aload_n hx hb dX2_keep_84 rfl (lv_at hl 0 rfl) ?_
            refine lv_iload_n hx hb dX2_keep_85 rfl (lv_at hl 2 rfl) ?_
            refine lv_iconst (v := 1) hx hb dX2_keep_86 (by decide) ?_
            refine lv_iadd hx hb dX2_keep_87 ?_
            refine m_top (show ((nI ns) + 1) = nI (ns + 1) from nI_1 _) ?_
            refine m_put (ci := 2) (C := RX2) (T := TX2) (n := 5) (v := .int (nI (ns + 1))) (ty := tyX2 4) hx hb hts inX2_ tyX2 tyX2_ok nmX2 hown hK hM hS rfl 7 (by omega) z0wz 4 (by decide) (hts _ (by decide +kernel)) rfl (by decide +kernel) rfl rfl (Nat.le_of_ble_eq_true rfl) dX2_keep_88 (fun H locs hM hS => ?_)
            have hM : MW D A N adr (va_up wz 7 (.inr (2, [.ref (adr 8), .ref (adr 9), .ref (adr 10), .ref (adr 12), .int (nI (ns + 1))]))) H := hM
            obtain ⟨w_14, ew_14⟩ : ∃ z, z = va_up wz 7 (.inr (2, [.ref (adr 8), .ref (adr 9), .ref (adr 10), .ref (adr 12), .int (nI (ns + 1))])) := ⟨_, rfl⟩
            rw [← ew_14] at hM
            have h_15 : w_14 7 = .inr (2, [.ref (adr 8), .ref (adr 9), .ref (adr 10), .ref (adr 12), .int (nI (ns + 1))]) := by rw [ew_14]; exact va_up_self _ _ _
            have h_16 : w_14 8 = .inl (ac 4, 40, .inr (.inr (.inr (.inr (sref adr (ns + 1) (va_up so ns o)))))) := by rw [ew_14, va_up_ne _ _ (by omega)]; exact z1wz
            have h_17 : w_14 9 = .inl (ac 1, 50, .inr (.inl (kpv hv ns (owd o) i))) := by rw [ew_14, va_up_ne _ _ (by omega)]; exact z2wz
            have h_18 : w_14 (23 + 6 * o) = .inr (6, [.int (nI (oc o)), .ref (adr (23 + 6 * o + 1)), .ref (adr (23 + 6 * o + 3))]) := by rw [ew_14, va_up_ne _ _ (by omega)]; exact z3wz
            have h_19 : w_14 (23 + 6 * o + 1) = .inr (4, [.ref (adr (23 + 6 * o + 2)), .int (nI (on_ o))]) := by rw [ew_14, va_up_ne _ _ (by omega)]; exact z4wz
            have h_20 : w_14 (23 + 6 * o + 2) = .inl (ac 0, 8, .inl (fun j => nI (owd o j))) := by rw [ew_14, va_up_ne _ _ (by omega)]; exact z5wz
            refine lv_iload_n hx hb dX2_keep_91 rfl (lv_at hl 2 rfl) ?_
            rw [hQ0]
            exact e_wi hx hb hlocks hr dX2_keep_92 hM hS (⟨rfl, by rw [ew_14]; exact kp_end zrwz z1wz (by rw [← hin]; exact z2wz)⟩)
          · have hin : i < on_ o := nle_lt c37 (by omega) (by omega)
            have hwi := hwd_ i hin
            refine lv_aload_n hx hb dX2_keep_40 rfl (lv_at hl 1 rfl) ?_
            refine m_getN (host := RX7) (ci := 6) (C := RX6) (T := TX6) (n := 3) (v := .ref (adr (23 + 6 * o + 1))) hx hb hts inX6_ hown hK rfl (hM.cel (by have := ho_; omega) z3wz) 1 (by decide) 17 rfl rfl dX2_keep_41 ?_
            refine lv_iload_n hx hb dX2_keep_44 rfl (lv_at hl 3 rfl) ?_
            refine r_calli (va_runV (As := [.int (nI i)]) (rest := []) ⟨hx, hb, hml, hown, hts⟩ (k_X4_at l D ac _ (adr (23 + 6 * o + 1)) (adr (23 + 6 * o + 2)) (on_ o) (fun j => nI (owd o j)) (hM.cel (by have := ho_; omega) z4wz) (hM.cel (by have := ho_; omega) z5wz) (by omega) (nI i)) (cwV 1 hts gX2_keep_X4_at rfl rfl rfl (by decide +kernel) ⟨Nat.le_of_ble_eq_true rfl, Nat.le_of_ble_eq_true rfl⟩) (pV hK (ci := 4) rfl (hM.cel (by have := ho_; omega) z4wz)) rfl rfl hl.1 rfl (lv_room (Nat.le_of_ble_eq_true rfl)) dX2_keep_45 ⟨Nat.le_of_ble_eq_true rfl, Nat.le_of_ble_eq_true rfl⟩) hS (fun rv_21 locs hrv_21 hS => ?_)
            subst hrv_21
            refine m_top (show ((ix (nI i) (on_ o)).elim (-1) (fun j => nI (owd o j))) = nI (owd o i) from by rw [ix_nI hin (by omega)]; rfl) ?_
            refine lv_istore (lv' := [(4, .int (nI (owd o i))), (0, .ref (adr 7)), (1, .ref (adr (23 + 6 * o))), (2, .int (nI ns)), (3, .int (nI i))]) hx hb dX2_keep_48 hl (by decide) rfl (fun ls hl => ?_)
            refine lv_iload hx hb dX2_keep_50 (lv_at hl 0 rfl) ?_
            refine lv_if_lt (tgt := 78) hx hb dX2_keep_52 (by decide) (fun c52 => ?_) (fun c52 => ?_)
            · exact absurd c52 (nI_pos (by omega))
            · refine lv_iload hx hb dX2_keep_55 (lv_at hl 0 rfl) ?_
              refine lv_aload_n hx hb dX2_keep_57 rfl (lv_at hl 1 rfl) ?_
              refine m_get (ci := 2) (C := RX2) (T := TX2) (n := 5) (v := .ref (adr 9)) hx hb hts inX2_ hown hK rfl (hM.cel (by omega) z0wz) 1 (by decide) (hts _ (by decide +kernel)) rfl dX2_keep_58 ?_
              refine m_alen (v := 50) (ty := _) hx hb hK 1 (hM.cel (by omega) z2wz) rfl (by first | rfl | decide) dX2_keep_61 ?_
              refine lv_icmp_ge (tgt := 78) hx hb dX2_keep_62 (by decide) (fun c62 => ?_) (fun c62 => ?_)
              · exact absurd (le_le (a := 50) c62 (by omega) (by omega)) (by omega)
              · refine lv_aload_n hx hb dX2_keep_65 rfl (lv_at hl 1 rfl) ?_
                refine m_get (ci := 2) (C := RX2) (T := TX2) (n := 5) (v := .ref (adr 9)) hx hb hts inX2_ hown hK rfl (hM.cel (by omega) z0wz) 1 (by decide) (hts _ (by decide +kernel)) rfl dX2_keep_66 ?_
                refine lv_iload hx hb dX2_keep_69 (lv_at hl 0 rfl) ?_
                refine lv_dup2_11 hx hb dX2_keep_71 rfl rfl ?_
                refine m_lald hx hb hK (hM.cel (by omega) z2wz) (vp_in_nI (by omega) (by decide)) dX2_keep_72 ?_
                refine m_topl (show (kpv hv ns (owd o) i) (nI (owd o i)).toNatClampNeg = (kpv hv ns (owd o) i) (owd o i) from by rw [nI_clamp (by omega)]) ?_
                refine lv_lconst (v := 1) hx hb dX2_keep_73 (by decide) ?_
                refine lv_iload_n hx hb dX2_keep_74 rfl (lv_at hl 3 rfl) ?_
                refine lv_lshl (v := 1 <<< ((nI ns).toInt64 &&& 63)) hx hb dX2_keep_75 rfl ?_
                refine lv_lor hx hb dX2_keep_76 ?_
                refine m_last hx hb hK hM hS 9 (by omega) z2wz (vp_in_nI (by omega) (by decide)) dX2_keep_77 (fun H locs hM hS => ?_)
                have ef_ : (vp_updL (kpv hv ns (owd o) i) (nI (owd o i)).toNatClampNeg (((kpv hv ns (owd o) i) (owd o i)) ||| (1 <<< ((nI ns).toInt64 &&& 63)))) = kpv hv ns (owd o) (i + 1) := by rw [nI_clamp (by omega)]; rfl
                rw [ef_] at hM
                clear ef_
                obtain ⟨w_23, ew_23⟩ : ∃ z, z = va_up wz 9 (.inl (ac 1, 50, .inr (.inl (kpv hv ns (owd o) (i + 1))))) := ⟨_, rfl⟩
                rw [← ew_23] at hM
                have h_24 : w_23 7 = .inr (2, [.ref (adr 8), .ref (adr 9), .ref (adr 10), .ref (adr 12), .int (nI ns)]) := by rw [ew_23, va_up_ne _ _ (by omega)]; exact z0wz
                have h_25 : w_23 8 = .inl (ac 4, 40, .inr (.inr (.inr (.inr (sref adr (ns + 1) (va_up so ns o)))))) := by rw [ew_23, va_up_ne _ _ (by omega)]; exact z1wz
                have h_26 : w_23 9 = .inl (ac 1, 50, .inr (.inl (kpv hv ns (owd o) (i + 1)))) := by rw [ew_23]; exact va_up_self _ _ _
                have h_27 : w_23 (23 + 6 * o) = .inr (6, [.int (nI (oc o)), .ref (adr (23 + 6 * o + 1)), .ref (adr (23 + 6 * o + 3))]) := by rw [ew_23, va_up_ne _ _ (by omega)]; exact z3wz
                have h_28 : w_23 (23 + 6 * o + 1) = .inr (4, [.ref (adr (23 + 6 * o + 2)), .int (nI (on_ o))]) := by rw [ew_23, va_up_ne _ _ (by omega)]; exact z4wz
                have h_29 : w_23 (23 + 6 * o + 2) = .inl (ac 0, 8, .inl (fun j => nI (owd o j))) := by rw [ew_23, va_up_ne _ _ (by omega)]; exact z5wz
                refine lv_iinc (v := nI (i + 1)) (lv' := [(3, .int (nI (i + 1))), (4, .int (nI (owd o i))), (0, .ref (adr 7)), (1, .ref (adr (23 + 6 * o))), (2, .int (nI ns))]) hx hb dX2_keep_78 hl (k := 4) rfl (nI_1 _) (by decide) rfl (fun ls hl => ?_)
                refine lv_goto (tgt := 29) hx hb dX2_keep_81 (by decide) ?_
                exact ih29 (i + 1) (by omega) (by omega) w_23 h_24 h_25 h_26 h_27 h_28 h_29 (fun q q1 q2 => by rw [ew_23, va_up_ne _ _ q2]; exact zrwz q q1 q2) _ _ hM hS ls (lv_sub hl [2, 3, 4, 0] rfl)
      exact L29 _ 0 (Nat.lt_succ_self _) (Nat.zero_le _) w_1 h_2 h_3 h_4 h_9 h_10 h_11 (fun q q1 q2 => by rw [ew_1, va_up_ne _ _ q1]) _ _ hM hS ls (lv_sub hl [2, 3, 1, 0] rfl)
    · exact absurd (nlt_le (b := 40) c15 (by omega) (by omega)) (by omega)
