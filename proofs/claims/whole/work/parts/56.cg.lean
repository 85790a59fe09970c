theorem MSen.cg {sf : Nat → Int32} {af : Nat → Nat → Int32} {ns : Nat} {sc sn sc2 sn2 : Nat → Nat} {sw sw2 : Nat → Nat → Nat} {sb sb2 : Nat → Nat → Int32} (h : MSen sf af ns sc sn sw sb) (hc : ∀ i, i < ns → sc2 i = sc i ∧ sn2 i = sn i ∧ sw2 i = sw i ∧ sb2 i = sb i) : MSen sf af ns sc2 sn2 sw2 sb2 :=
  ⟨h.1, h.2.1, fun i hi => by
    obtain ⟨e1, e2, e3, e4⟩ := hc i hi
    rw [e1, e2, e3, e4]
    exact h.2.2 i hi⟩
theorem JIdx.cg {hv : Nat → Int64} {ns : Nat} {sn sn2 : Nat → Nat} {sw sw2 : Nat → Nat → Nat} (h : JIdx hv ns sn sw) (hc : ∀ i, i < ns → sn2 i = sn i ∧ sw2 i = sw i) : JIdx hv ns sn2 sw2 := fun v hv9 i hi => by
  rw [h v hv9 i hi]
  constructor
  · rintro ⟨q, j, q1, q2⟩
    obtain ⟨e1, e2⟩ := hc i q
    exact ⟨q, j, by rw [e1]; exact q1, by rw [e2]; exact q2⟩
  · rintro ⟨q, j, q1, q2⟩
    obtain ⟨e1, e2⟩ := hc i q
    exact ⟨q, j, by rw [← e1]; exact q1, by rw [← e2]; exact q2⟩
theorem MTak.cg {af : Nat → Nat → Int32} {hd : Nat → Option Nat} {on_ on2 : Nat → Nat} {obf obf2 : Nat → Nat → Int32} {mt co py mt2 co2 py2 : Nat → Int32} (h : MTak af hd on_ obf mt co py) (hc : ∀ t o, t < 4 → hd t = some o → on2 o = on_ o ∧ obf2 o = obf o ∧ mt2 o = mt o ∧ co2 o = co o ∧ py2 o = py o) : MTak af hd on2 obf2 mt2 co2 py2 := fun t o ht hh => by
  obtain ⟨e1, e2, e3, e4, e5⟩ := hc t o ht hh
  rw [e1, e2, e3, e4, e5]
  exact h t o ht hh
theorem MDra.push {sf s1 : Nat → Int32} {af a1 : Nat → Nat → Int32} {dl k : Nat} {dw : Nat → Nat} (h : MDra sf af dl dw) (hl : dl < 8) (hk : k < 50) (h1 : s1 1 = nI (dl + 1)) (h2 : a1 1 = upd (af 1) dl (nI k)) : MDra s1 a1 (dl + 1) (va_up dw dl k) := by
  refine ⟨h1, by omega, fun j hj => ?_⟩
  rw [h2]
  by_cases e : j = dl
  · subst e
    rw [pk_us, va_up_self]
    exact ⟨rfl, hk⟩
  · rw [pk_un e, va_up_ne _ _ e]
    exact h.2.2 j (by omega)
theorem MOrd.push {sf s1 : Nat → Int32} {af a1 : Nat → Nat → Int32} {no : Nat} {oc on_ : Nat → Nat} {owd : Nat → Nat → Nat} {rb st : Nat → Int32} {k dl : Nat} {dw : Nat → Nat} {z : Int32} {g : Nat → Int32} (h : MOrd sf af no oc on_ owd rb st) (hd : MDra sf af dl dw) (hn : no < 60) (hl : 0 < dl) (hk : k < 4) (h6 : s1 6 = nI (no + 1)) (h7 : a1 7 = upd (af 7) no (nI k)) (h8 : a1 8 = upd (af 8) no (nI dl)) (h9 : a1 9 = blk no (mixF dl (af 1) g) (af 9)) (ha : a1 10 = upd (af 10) no z) (hb : a1 11 = upd (af 11) no (-1)) : MOrd s1 a1 (no + 1) (va_up oc no k) (va_up on_ no dl) (va_up owd no (mixN dl dw)) (va_up rb no z) (va_up st no (-1)) := by
  refine ⟨h6, by omega, fun o ho => ?_⟩
  rw [h7, h8, h9, ha, hb]
  by_cases e : o = no
  · subst e
    rw [pk_us, pk_us, pk_us, pk_us, va_up_self, va_up_self, va_up_self, va_up_self, va_up_self]
    refine ⟨rfl, rfl, ⟨hl, hd.2.1, hk⟩, ⟨rfl, rfl⟩, fun j hj => ?_⟩
    have h8 := hd.2.1
    rw [blk_at (by omega), mixN_lt hj]
    unfold mixF
    rw [if_pos hj]
    exact hd.2.2 j hj
  · rw [pk_un e, pk_un e, pk_un e, pk_un e, va_up_ne _ _ e, va_up_ne _ _ e, va_up_ne _ _ e, va_up_ne _ _ e, va_up_ne _ _ e]
    obtain ⟨q1, q2, q3, q4, q5⟩ := h.2.2 o (by omega)
    refine ⟨q1, q2, q3, q4, fun j hj => ?_⟩
    rw [blk_ne e (by omega)]
    exact q5 j hj
theorem MOrd.st {sf s1 : Nat → Int32} {af a1 : Nat → Nat → Int32} {no : Nat} {oc on_ : Nat → Nat} {owd : Nat → Nat → Nat} {rb st : Nat → Int32} {o : Nat} {v : Int32} (h : MOrd sf af no oc on_ owd rb st) (h6 : s1 6 = sf 6) (h7 : a1 7 = af 7) (h8 : a1 8 = af 8) (h9 : a1 9 = af 9) (ha : a1 10 = af 10) (hb : a1 11 = upd (af 11) o v) : MOrd s1 a1 no oc on_ owd rb (va_up st o v) := by
  unfold MOrd at h ⊢
  rw [h6, h7, h8, h9, ha, hb]
  refine ⟨h.1, h.2.1, fun o2 ho => ?_⟩
  obtain ⟨q1, q2, q3, ⟨q4, q5⟩, q6⟩ := h.2.2 o2 ho
  refine ⟨q1, q2, q3, ⟨q4, ?_⟩, q6⟩
  by_cases e : o2 = o
  · subst e; rw [pk_us, va_up_self]
  · rw [pk_un e, va_up_ne _ _ e]; exact q5
theorem nxF_cg {st st2 rb rb2 tu : Nat → Int32} : ∀ m, (∀ o, o < m → st o = st2 o ∧ rb o = rb2 o) → nxF st rb tu m = nxF st2 rb2 tu m := by
  intro m
  induction m with
  | zero => intro _; rfl
  | succ m ih =>
    intro h
    have h1 := ih (fun o ho => h o (by omega))
    have h2 : (nxF st2 rb2 tu m).elim true (nxB rb tu m) = (nxF st2 rb2 tu m).elim true (nxB rb2 tu m) := by
      rcases e : nxF st2 rb2 tu m with _ | f
      · rfl
      · have := nxF_lt e
        show nxB rb tu m f = nxB rb2 tu m f
        unfold nxB
        rw [(h m (by omega)).2, (h f (by omega)).2]
    simp only [nxF]
    rw [h1, h2, (h m (by omega)).1]
theorem wtF_cg {st st2 rb rb2 : Nat → Int32} {b : Int32} : ∀ m, (∀ o, o < m → st o = st2 o ∧ rb o = rb2 o) → wtF st rb b m = wtF st2 rb2 b m := by
  intro m
  induction m with
  | zero => intro _; rfl
  | succ m ih =>
    intro h
    simp only [wtF]
    rw [ih (fun o ho => h o (by omega)), (h m (by omega)).1, (h m (by omega)).2]
theorem st_w {ns : Nat} {so : Nat → Nat} {nd : Nat} {du : Nat → Nat} {nr : Nat} {rq : Nat → Nat} {nq : Nat} {oq : Nat → Nat} {no : Nat} {rb st : Nat → Int32} {hd : Nat → Option Nat} (h : HIn ns so nd du nr rq nq oq no rb st hd) {o : Nat} (hs : st o = -1) : (∀ i, i < ns → ¬ so i = o) ∧ (∀ t, t < 4 → ¬ hd t = some o) :=
  ⟨fun i hi e => by have := (h.1 i hi).2; rw [e, hs] at this; exact absurd this (by decide), fun t ht e => by have := (h.2.2.2.2 t o ht e).2; rw [hs] at this; exact neg1_nI ht this⟩
theorem st_h {ns : Nat} {so : Nat → Nat} {nd : Nat} {du : Nat → Nat} {nr : Nat} {rq : Nat → Nat} {nq : Nat} {oq : Nat → Nat} {no : Nat} {rb st : Nat → Int32} {hd : Nat → Option Nat} (h : HIn ns so nd du nr rq nq oq no rb st hd) {t o : Nat} (ht : t < 4) (hh : hd t = some o) : (∀ i, i < ns → ¬ so i = o) ∧ (∀ t2, t2 < 4 → hd t2 = some o → t2 = t) ∧ ¬ st o = -1 ∧ o < no := by
  obtain ⟨h1, h2⟩ := h.2.2.2.2 t o ht hh
  refine ⟨fun i hi e => ?_, fun t2 ht2 e => ?_, fun e => neg1_nI ht (e.symm.trans h2), h1⟩
  · have := (h.1 i hi).2
    rw [e, h2] at this
    exact nIt_n2 ht this
  · have := (h.2.2.2.2 t2 o ht2 e).2
    rw [h2] at this
    exact ((nI_eq (by omega) (by omega)).mp this).symm
theorem JTu.put {tu : Nat → Int32} {fr9 bk9 : Int32} {no : Nat} {rb st : Nat → Int32} {nr : Nat} {rq : Nat → Nat} {nq : Nat} {oq : Nat → Nat} {cn ns nd : Nat} {so du : Nat → Nat} {hd : Nat → Option Nat} {z : Int32} {n2 : Nat} {d2 : Nat → Nat} {n3 : Nat} {d3 : Nat → Nat} (h : JTu tu fr9 bk9 no rb st nr rq nq oq cn) (hI : HIn ns so nd du nr rq nq oq no rb st hd) (hc : cn < 1000) (hz : (z = 0 ∧ lst n2 d2 = lst nr rq ∧ lst n3 d3 = lst nq oq ++ [no]) ∨ (¬ z = 0 ∧ lst n2 d2 = lst nr rq ++ [no] ∧ lst n3 d3 = lst nq oq)) : JTu (upd tu no (bk9 + 1)) fr9 (bk9 + 1) (no + 1) (va_up rb no z) (va_up st no (-1)) n2 d2 n3 d3 (cn + 1) := by
  obtain ⟨h1, h2, h3, h4, h5, h6⟩ := h
  have e1 := i32_add1 (x := bk9) (by omega)
  have old : ∀ a, a < no → upd tu no (bk9 + 1) a = tu a := fun a ha => pk_un (by omega)
  have pw : ∀ l : List Nat, (∀ a ∈ l, a < no) → l.Pairwise (fun a b => tu a < tu b) → l.Pairwise (fun a b => upd tu no (bk9 + 1) a < upd tu no (bk9 + 1) b) := fun l hl hp => List.Pairwise.imp_of_mem (fun ha hb q => by rw [old _ (hl _ ha), old _ (hl _ hb)]; exact q) hp
  have pw2 : ∀ l : List Nat, (∀ a ∈ l, a < no ∧ st a = -1) → l.Pairwise (fun a b => tu a < tu b) → (l ++ [no]).Pairwise (fun a b => upd tu no (bk9 + 1) a < upd tu no (bk9 + 1) b) := fun l hl hp => by
    refine List.pairwise_append.mpr ⟨pw l (fun a ha => (hl a ha).1) hp, List.pairwise_singleton _ _, fun a ha b hb => ?_⟩
    have hb : b = no := by simpa using hb
    subst hb
    rw [old a (hl a ha).1, pk_us]
    exact lt_of_le1 (h4 a (hl a ha).1 (hl a ha).2).2 (by omega)
  have hr : ∀ a ∈ lst nr rq, a < no ∧ st a = -1 := fun a ha => ⟨(hI.2.2.1.2 a ha).1, (hI.2.2.1.2 a ha).2.1⟩
  have ho : ∀ a ∈ lst nq oq, a < no ∧ st a = -1 := fun a ha => ⟨(hI.2.2.2.1.2 a ha).1, (hI.2.2.2.1.2 a ha).2.1⟩
  refine ⟨?_, ?_, fun o ho9 hs => ?_, fun o ho9 hs => ?_, ⟨by omega, h5.2⟩, ⟨by omega, by omega⟩⟩
  · rcases hz with ⟨_, q1, _⟩ | ⟨_, q1, _⟩
    · rw [q1]; exact pw _ (fun a ha => (hr a ha).1) h1
    · rw [q1]; exact pw2 _ hr h1
  · rcases hz with ⟨_, _, q1⟩ | ⟨_, _, q1⟩
    · rw [q1]; exact pw2 _ ho h2
    · rw [q1]; exact pw _ (fun a ha => (ho a ha).1) h2
  · by_cases e : o = no
    · subst e
      rw [va_up_self]
      rcases hz with ⟨q0, q1, q2⟩ | ⟨q0, q1, q2⟩
      · exact ⟨fun z9 => absurd q0 z9, fun _ => by rw [q2]; simp⟩
      · exact ⟨fun _ => by rw [q1]; simp, fun z9 => absurd z9 q0⟩
    · rw [va_up_ne _ _ e] at hs ⊢
      obtain ⟨p1, p2⟩ := h3 o (by omega) hs
      rcases hz with ⟨_, q1, q2⟩ | ⟨_, q1, q2⟩
      · rw [q1, q2]; exact ⟨p1, fun z9 => List.mem_append_left _ (p2 z9)⟩
      · rw [q1, q2]; exact ⟨fun z9 => List.mem_append_left _ (p1 z9), p2⟩
  · by_cases e : o = no
    · subst e
      rw [pk_us]
      refine ⟨?_, by rw [i32_le]; omega⟩
      rw [i32_le]
      omega
    · rw [va_up_ne _ _ e] at hs
      rw [pk_un e]
      obtain ⟨p1, p2⟩ := h4 o (by omega) hs
      exact ⟨p1, le_tr p2 (le_add1 (by omega))⟩
theorem mem_tail {x : Nat} {l : List Nat} {a : Nat} (h : x ∈ l) (ha : l[0]? = some a) (hne : ¬ x = a) : x ∈ l.eraseIdx 0 := by
  cases l with
  | nil => cases h
  | cons b t =>
    simp only [List.getElem?_cons_zero, Option.some.injEq] at ha
    subst ha
    rcases List.mem_cons.mp h with q | q
    · exact absurd q hne
    · exact q
theorem JTu.take {tu : Nat → Int32} {fr9 bk9 : Int32} {no : Nat} {rb st : Nat → Int32} {nr : Nat} {rq : Nat → Nat} {nq : Nat} {oq : Nat → Nat} {cn o : Nat} {v : Int32} {n2 : Nat} {d2 : Nat → Nat} {n3 : Nat} {d3 : Nat → Nat} (h : JTu tu fr9 bk9 no rb st nr rq nq oq cn) (hv : ¬ v = -1) (hz : (0 < nr ∧ rq 0 = o ∧ lst n2 d2 = (lst nr rq).eraseIdx 0 ∧ lst n3 d3 = lst nq oq) ∨ (0 < nq ∧ oq 0 = o ∧ lst n2 d2 = lst nr rq ∧ lst n3 d3 = (lst nq oq).eraseIdx 0)) : JTu tu fr9 bk9 no rb (va_up st o v) n2 d2 n3 d3 (cn + 1) := by
  obtain ⟨h1, h2, h3, h4, h5, h6⟩ := h
  refine ⟨?_, ?_, fun o2 ho hs => ?_, fun o2 ho hs => ?_, ⟨by omega, h5.2⟩, ⟨h6.1, by omega⟩⟩
  · rcases hz with ⟨_, _, q1, _⟩ | ⟨_, _, q1, _⟩
    · rw [q1]; exact h1.sublist (List.eraseIdx_sublist _ _)
    · rw [q1]; exact h1
  · rcases hz with ⟨_, _, _, q1⟩ | ⟨_, _, _, q1⟩
    · rw [q1]; exact h2
    · rw [q1]; exact h2.sublist (List.eraseIdx_sublist _ _)
  · by_cases e : o2 = o
    · subst e; rw [va_up_self] at hs; exact absurd hs hv
    · rw [va_up_ne _ _ e] at hs
      obtain ⟨p1, p2⟩ := h3 o2 ho hs
      rcases hz with ⟨q0, q1, q2, q3⟩ | ⟨q0, q1, q2, q3⟩
      · rw [q2, q3]
        exact ⟨fun z9 => mem_tail (p1 z9) (lst_get q0) (by rw [q1]; exact e), p2⟩
      · rw [q2, q3]
        exact ⟨p1, fun z9 => mem_tail (p2 z9) (lst_get q0) (by rw [q1]; exact e)⟩
  · by_cases e : o2 = o
    · subst e; rw [va_up_self] at hs; exact absurd hs hv
    · rw [va_up_ne _ _ e] at hs
      exact h4 o2 ho hs
theorem i32_subm {x : Int32} (h : -2147483648 < x.toInt) : x - 1 < x := by
  rw [i32_lt, i32_sub1 h]
  omega
theorem JTu.back {tu : Nat → Int32} {fr9 bk9 : Int32} {no : Nat} {rb st : Nat → Int32} {nr : Nat} {rq : Nat → Nat} {nq : Nat} {oq : Nat → Nat} {cn ns nd : Nat} {so du : Nat → Nat} {hd : Nat → Option Nat} {o : Nat} {n2 : Nat} {d2 : Nat → Nat} {n3 : Nat} {d3 : Nat → Nat} (h : JTu tu fr9 bk9 no rb st nr rq nq oq cn) (hI : HIn ns so nd du nr rq nq oq no rb st hd) (hc : cn < 1000) (ho : ¬ st o = -1) (hz : (rb o = 0 ∧ lst n2 d2 = lst nr rq ∧ lst n3 d3 = o :: lst nq oq) ∨ (¬ rb o = 0 ∧ lst n2 d2 = o :: lst nr rq ∧ lst n3 d3 = lst nq oq)) : JTu (upd tu o (fr9 - 1)) (fr9 - 1) bk9 no rb (va_up st o (-1)) n2 d2 n3 d3 (cn + 1) := by
  obtain ⟨h1, h2, h3, h4, h5, h6⟩ := h
  have e1 := i32_sub1 (x := fr9) (by omega)
  have e2 := i32_subm (x := fr9) (by omega)
  have hr : ∀ a ∈ lst nr rq, a < no ∧ st a = -1 := fun a ha => ⟨(hI.2.2.1.2 a ha).1, (hI.2.2.1.2 a ha).2.1⟩
  have hq : ∀ a ∈ lst nq oq, a < no ∧ st a = -1 := fun a ha => ⟨(hI.2.2.2.1.2 a ha).1, (hI.2.2.2.1.2 a ha).2.1⟩
  have ne : ∀ a, st a = -1 → ¬ a = o := fun a ha e => ho (e ▸ ha)
  have pw : ∀ l : List Nat, (∀ a ∈ l, a < no ∧ st a = -1) → l.Pairwise (fun a b => tu a < tu b) → l.Pairwise (fun a b => upd tu o (fr9 - 1) a < upd tu o (fr9 - 1) b) := fun l hl hp => List.Pairwise.imp_of_mem (fun ha hb q => by rw [pk_un (ne _ (hl _ ha).2), pk_un (ne _ (hl _ hb).2)]; exact q) hp
  have pw2 : ∀ l : List Nat, (∀ a ∈ l, a < no ∧ st a = -1) → l.Pairwise (fun a b => tu a < tu b) → (o :: l).Pairwise (fun a b => upd tu o (fr9 - 1) a < upd tu o (fr9 - 1) b) := fun l hl hp => List.pairwise_cons.mpr ⟨fun a ha => by
    rw [pk_us, pk_un (ne _ (hl _ ha).2)]
    have := (h4 a (hl a ha).1 (hl a ha).2).1
    rw [i32_le] at this
    rw [i32_lt]
    omega, pw l hl hp⟩
  refine ⟨?_, ?_, fun o2 ho2 hs => ?_, fun o2 ho2 hs => ?_, ⟨by omega, by omega⟩, ⟨h6.1, by omega⟩⟩
  · rcases hz with ⟨_, q1, _⟩ | ⟨_, q1, _⟩
    · rw [q1]; exact pw _ hr h1
    · rw [q1]; exact pw2 _ hr h1
  · rcases hz with ⟨_, _, q1⟩ | ⟨_, _, q1⟩
    · rw [q1]; exact pw2 _ hq h2
    · rw [q1]; exact pw _ hq h2
  · by_cases e : o2 = o
    · subst e
      rcases hz with ⟨q0, q1, q2⟩ | ⟨q0, q1, q2⟩
      · exact ⟨fun z9 => absurd q0 z9, fun _ => by rw [q2]; exact List.mem_cons_self⟩
      · exact ⟨fun _ => by rw [q1]; exact List.mem_cons_self, fun z9 => absurd z9 q0⟩
    · rw [va_up_ne _ _ e] at hs
      obtain ⟨p1, p2⟩ := h3 o2 ho2 hs
      rcases hz with ⟨_, q1, q2⟩ | ⟨_, q1, q2⟩
      · rw [q1, q2]; exact ⟨p1, fun z9 => List.mem_cons_of_mem _ (p2 z9)⟩
      · rw [q1, q2]; exact ⟨fun z9 => List.mem_cons_of_mem _ (p1 z9), p2⟩
  · by_cases e : o2 = o
    · subst e
      rw [pk_us]
      refine ⟨by rw [i32_le]; omega, ?_⟩
      rw [i32_le]
      omega
    · rw [va_up_ne _ _ e] at hs
      rw [pk_un e]
      obtain ⟨p1, p2⟩ := h4 o2 ho2 hs
      refine ⟨?_, p2⟩
      rw [i32_le] at p1
      rw [i32_le]
      omega
