-- the house in the machine
def TGW (adr : Nat → Nat) (w : Nat → va_E) (no : Nat) (le pr ra : Int32) : Prop := w 0 = .inr (7, [.ref (adr 1), .ref (adr 3), .ref (adr 7), .ref (adr 14), .ref (adr 15), .ref (adr 16), .ref (adr 18), .ref (adr 20), .ref (adr 21), .int (nI no), .int le, .int pr, .int ra])
def DraW (ac : Nat → ClassId) (adr : Nat → Nat) (w : Nat → va_E) (dl : Nat) (dw : Nat → Nat) : Prop := w 1 = .inr (4, [.ref (adr 2), .int (nI dl)]) ∧ w 2 = .inl (ac 0, 8, .inl (fun j => nI (dw j))) ∧ dl ≤ 8 ∧ ∀ j, j < dl → dw j < 50
def OrdF (adr : Nat → Nat) (w : Nat → va_E) (no : Nat) (rb st mt co py : Nat → Int32) : Prop := ∀ o, o < no → w (22 + 6 * o) = .inr (3, [.int (nI o), .int (rb o), .ref (adr (23 + 6 * o)), .int (st o), .int (mt o), .int (co o), .int (py o)])
def DesW (ac : Nat → ClassId) (adr : Nat → Nat) (w : Nat → va_E) (nr : Nat) (rq : Nat → Nat) (nq : Nat) (oq : Nat → Nat) : Prop := w 16 = .inr (1, [.ref (adr 17), .int (nI nr)]) ∧ w 17 = .inl (ac 0, 60, .inl (fun j => nI (rq j))) ∧ w 18 = .inr (1, [.ref (adr 19), .int (nI nq)]) ∧ w 19 = .inl (ac 0, 60, .inl (fun j => nI (oq j))) ∧ nr ≤ 60 ∧ nq ≤ 60
def oref (adr : Nat → Nat) (no : Nat) : Nat → Option Nat := fun i => if i < no then some (adr (22 + 6 * i)) else none
def href (adr : Nat → Nat) (hd : Nat → Option Nat) : Nat → Option Nat := fun t => (hd t).map (fun o => adr (22 + 6 * o))
def HanW (ac : Nat → ClassId) (adr : Nat → Nat) (w : Nat → va_E) (no : Nat) (hd : Nat → Option Nat) : Prop := w 14 = .inl (ac 3, 60, .inr (.inr (.inr (.inr (oref adr no))))) ∧ w 15 = .inl (ac 3, 4, .inr (.inr (.inr (.inr (href adr hd))))) ∧ no ≤ 60
def MonW (ac : Nat → ClassId) (w : Nat → va_E) (pd er : Nat → Int32) : Prop := w 20 = .inl (ac 0, 4, .inl pd) ∧ w 21 = .inl (ac 0, 4, .inl er)
theorem TGW.up {adr : Nat → Nat} {w : Nat → va_E} {no : Nat} {le pr ra : Int32} {k : Nat} {e : va_E} (hk : 0 < k) (h : TGW adr w no le pr ra) : TGW adr (va_up w k e) no le pr ra := by
  unfold TGW at h ⊢
  rw [va_up_ne _ _ (by omega)]
  exact h
theorem DraW.up {ac : Nat → ClassId} {adr : Nat → Nat} {w : Nat → va_E} {dl : Nat} {dw : Nat → Nat} {k : Nat} {e : va_E} (hk : k < 1 ∨ 2 < k) (h : DraW ac adr w dl dw) : DraW ac adr (va_up w k e) dl dw := by
  obtain ⟨h1, h2, h3⟩ := h
  exact ⟨by rw [va_up_ne _ _ (by omega)]; exact h1, by rw [va_up_ne _ _ (by omega)]; exact h2, h3⟩
theorem OrdF.up {adr : Nat → Nat} {w : Nat → va_E} {no : Nat} {rb st mt co py : Nat → Int32} {k : Nat} {e : va_E} (hk : k < 22 ∨ k % 6 ≠ 4) (h : OrdF adr w no rb st mt co py) : OrdF adr (va_up w k e) no rb st mt co py := fun o ho => by
  rw [va_up_ne _ _ (by omega)]
  exact h o ho
theorem DesW.up {ac : Nat → ClassId} {adr : Nat → Nat} {w : Nat → va_E} {nr : Nat} {rq : Nat → Nat} {nq : Nat} {oq : Nat → Nat} {k : Nat} {e : va_E} (hk : k < 16 ∨ 19 < k) (h : DesW ac adr w nr rq nq oq) : DesW ac adr (va_up w k e) nr rq nq oq := by
  obtain ⟨h1, h2, h3, h4, h5⟩ := h
  exact ⟨by rw [va_up_ne _ _ (by omega)]; exact h1, by rw [va_up_ne _ _ (by omega)]; exact h2, by rw [va_up_ne _ _ (by omega)]; exact h3, by rw [va_up_ne _ _ (by omega)]; exact h4, h5⟩
theorem HanW.up {ac : Nat → ClassId} {adr : Nat → Nat} {w : Nat → va_E} {no : Nat} {hd : Nat → Option Nat} {k : Nat} {e : va_E} (hk : k < 14 ∨ 15 < k) (h : HanW ac adr w no hd) : HanW ac adr (va_up w k e) no hd := by
  obtain ⟨h1, h2, h3⟩ := h
  exact ⟨by rw [va_up_ne _ _ (by omega)]; exact h1, by rw [va_up_ne _ _ (by omega)]; exact h2, h3⟩
theorem MonW.up {ac : Nat → ClassId} {w : Nat → va_E} {pd er : Nat → Int32} {k : Nat} {e : va_E} (hk : k < 20 ∨ 21 < k) (h : MonW ac w pd er) : MonW ac (va_up w k e) pd er := by
  obtain ⟨h1, h2⟩ := h
  exact ⟨by rw [va_up_ne _ _ (by omega)]; exact h1, by rw [va_up_ne _ _ (by omega)]; exact h2⟩
/-- an order's own cell anew -/
theorem OrdF.set {adr : Nat → Nat} {w : Nat → va_E} {no : Nat} {rb st mt co py st1 mt1 co1 py1 : Nat → Int32} {o : Nat} {s9 m9 c9 p9 : Int32} (h : OrdF adr w no rb st mt co py) (h1 : st1 = va_up st o s9) (h2 : mt1 = va_up mt o m9) (h3 : co1 = va_up co o c9) (h4 : py1 = va_up py o p9) : OrdF adr (va_up w (22 + 6 * o) (.inr (3, [.int (nI o), .int (rb o), .ref (adr (23 + 6 * o)), .int s9, .int m9, .int c9, .int p9]))) no rb st1 mt1 co1 py1 := fun x hx => by
  subst h1 h2 h3 h4
  by_cases e : x = o
  · subst e
    rw [va_up_self, va_up_self, va_up_self, va_up_self, va_up_self]
  · rw [va_up_ne _ _ (by omega), va_up_ne _ _ e, va_up_ne _ _ e, va_up_ne _ _ e, va_up_ne _ _ e]
    exact h x hx
/-- how the numbers of the house hang together -/
def HIn (ns : Nat) (so : Nat → Nat) (nd : Nat) (du : Nat → Nat) (nr : Nat) (rq : Nat → Nat) (nq : Nat) (oq : Nat → Nat) (no : Nat) (rb st : Nat → Int32) (hd : Nat → Option Nat) : Prop := (∀ i, i < ns → so i < no ∧ st (so i) = -2) ∧ ((lst nd du).Nodup ∧ ∀ x ∈ lst nd du, x < ns) ∧ ((lst nr rq).Nodup ∧ ∀ x ∈ lst nr rq, x < no ∧ st x = -1 ∧ ¬ rb x = 0) ∧ ((lst nq oq).Nodup ∧ ∀ x ∈ lst nq oq, x < no ∧ st x = -1 ∧ rb x = 0) ∧ (∀ t o, t < 4 → hd t = some o → o < no ∧ st o = nI t)
def HR (ac : Nat → ClassId) (adr : Nat → Nat) (w : Nat → va_E) (dl : Nat) (dw : Nat → Nat) (fs fr : Nat → Int32) (ft : Nat → Nat) (ns : Nat) (so : Nat → Nat) (hv : Nat → Int64) (nd : Nat) (du : Nat → Nat) (T : Nat → Int32) (nr : Nat) (rq : Nat → Nat) (nq : Nat) (oq : Nat → Nat) (pd er : Nat → Int32) (no : Nat) (oc on_ : Nat → Nat) (owd : Nat → Nat → Nat) (obf : Nat → Nat → Int32) (rb st mt co py : Nat → Int32) (hd : Nat → Option Nat) (le pr ra : Int32) : Prop :=
  TGW adr w no le pr ra ∧ DraW ac adr w dl dw ∧ RulW ac adr w fs fr ft ∧ MemW ac adr w ns so hv nd du T ∧ SenF ac adr w no oc on_ owd obf ∧ OrdF adr w no rb st mt co py ∧ DesW ac adr w nr rq nq oq ∧ HanW ac adr w no hd ∧ MonW ac w pd er ∧ HIn ns so nd du nr rq nq oq no rb st hd
-- which exception a call throws, by its place among those of its method
def cd1 (a : Bool) : Nat := bif a then 1 else 0
def cd2 (a b : Bool) : Nat := bif a then 1 else bif b then 2 else 0
def cd3 (a b c : Bool) : Nat := bif a then 1 else bif b then 2 else bif c then 3 else 0
def XC1 (e1 : String) (c : Nat) (E : String) : Prop := E = e1 ∧ c = 1
def XC2 (e1 e2 : String) (c : Nat) (E : String) : Prop := (E = e1 ∧ c = 1) ∨ (E = e2 ∧ c = 2)
def XC3 (e1 e2 e3 : String) (c : Nat) (E : String) : Prop := (E = e1 ∧ c = 1) ∨ (E = e2 ∧ c = 2) ∨ (E = e3 ∧ c = 3)
theorem ixs {x : Int32} {n : Nat} {k : Nat} (h : k < n) (hn : n < 2 ^ 31) (hx : x = nI k) : (ix x n).isNone = false := by
  rw [hx, ix_nI h hn]
  rfl
theorem ixn {x : Int32} {n : Nat} (h : x < 0 ∨ nI n ≤ x) : (ix x n).isNone = true := by
  rcases h with h | h
  · rw [ix_neg h]; rfl
  · rw [ix_big h]; rfl
theorem ixk {x : Int32} {n : Nat} (h0 : ¬ x < 0) (h1 : ¬ nI n ≤ x) (hn : n < 2 ^ 31) : ∃ k, k < n ∧ x = nI k := by
  rcases pk_ix x hn with q | q | ⟨k, q⟩
  · exact absurd q h0
  · exact absurd q h1
  · exact ⟨k, q⟩
theorem nIt_n2 {t : Nat} (h : t < 4) : ¬ nI t = -2 := by
  intro q
  have h1 : (nI t).toInt = (-2 : Int32).toInt := by rw [q]
  rw [nI_toInt (by omega), show (-2 : Int32).toInt = -2 from by decide] at h1
  omega
theorem HIn.hlo {ns : Nat} {so : Nat → Nat} {nd : Nat} {du : Nat → Nat} {nr : Nat} {rq : Nat → Nat} {nq : Nat} {oq : Nat → Nat} {no : Nat} {rb st : Nat → Int32} {hd : Nat → Option Nat} (h : HIn ns so nd du nr rq nq oq no rb st hd) {t o : Nat} (ht : t < 4) (hh : hd t = some o) : o < no ∧ ∀ i, i < ns → so i ≠ o := by
  obtain ⟨q1, q2⟩ := h.2.2.2.2 t o ht hh
  refine ⟨q1, fun i hi e => ?_⟩
  have := (h.1 i hi).2
  rw [e, q2] at this
  exact nIt_n2 ht this
theorem lst_mem {n i : Nat} {f : Nat → Nat} (h : i < n) : f i ∈ lst n f := List.mem_map.mpr ⟨i, List.mem_range.mpr h, rfl⟩
