-- the desks: the turns and the lines
def ahd (rb tu : Nat → Int32) (a b : Nat) : Prop := (¬ rb a = rb b ∧ ¬ rb a = 0) ∨ (rb a = rb b ∧ tu a < tu b)
theorem nxB_iff {rb tu : Nat → Int32} {a b : Nat} : nxB rb tu a b = true ↔ ahd rb tu a b := by
  unfold nxB ahd
  by_cases h : rb a = rb b
  · rw [if_pos h, decide_eq_true_eq]
    exact ⟨fun q => Or.inr ⟨h, q⟩, fun q => q.elim (fun z => absurd h z.1) (fun z => z.2)⟩
  · rw [if_neg h, decide_eq_true_eq]
    exact ⟨fun q => Or.inl ⟨h, q⟩, fun q => q.elim (fun z => z.2) (fun z => absurd z.1 h)⟩
theorem nxF_st {st rb tu : Nat → Int32} : ∀ {i f : Nat}, nxF st rb tu i = some f → st f = -1 := by
  intro i
  induction i with
  | zero => intro f h; cases h
  | succ i ih =>
    intro f h
    by_cases e : st i = -1 ∧ (nxF st rb tu i).elim true (nxB rb tu i) = true
    · rw [nxF_y e.1 e.2] at h
      cases h
      exact e.1
    · rw [nxF_n (by by_cases q : st i = -1; exact Or.inr (fun z => e ⟨q, z⟩); exact Or.inl q)] at h
      exact ih h
theorem nxF_none {st rb tu : Nat → Int32} : ∀ m, (∀ o, o < m → ¬ st o = -1) → nxF st rb tu m = none := by
  intro m
  induction m with
  | zero => intro _; rfl
  | succ m ih =>
    intro h
    rw [nxF_n (Or.inl (h m (by omega)))]
    exact ih (fun o ho => h o (by omega))
theorem nxF_one {st rb tu : Nat → Int32} {t : Nat} (h0 : st t = -1) (hr : ∀ o, rb o = 0 ∨ rb o = 1) : ∀ m, t < m → (∀ i, i < m → st i = -1 → ¬ i = t → ahd rb tu t i) → nxF st rb tu m = some t := by
  intro m
  induction m with
  | zero => intro h; omega
  | succ m ih =>
    intro h ha
    by_cases e : t = m
    · subst e
      refine nxF_y h0 ?_
      rcases ef : nxF st rb tu t with _ | f
      · rfl
      · have h1 := nxF_lt ef
        exact nxB_iff.mpr (ha f (by omega) (nxF_st ef) (by omega))
    · have h1 := ih (by omega) (fun i hi => ha i (by omega))
      rw [nxF_n, h1]
      by_cases e2 : st m = -1
      · refine Or.inr (fun q => ?_)
        rw [h1] at q
        have h2 := nxB_iff.mp (show nxB rb tu m t = true from q)
        have h3 := ha m (by omega) e2 (fun z => e z.symm)
        rcases h2 with ⟨q1, q2⟩ | ⟨q1, q2⟩
        · rcases h3 with ⟨q3, q4⟩ | ⟨q3, q4⟩
          · rcases hr t with z | z
            · exact q4 z
            · rcases hr m with z2 | z2
              · exact q2 z2
              · exact q3 (z.trans z2.symm)
          · exact q1 q3.symm
        · rcases h3 with ⟨q3, q4⟩ | ⟨q3, q4⟩
          · exact q3 q1.symm
          · exact lt_asy q4 q2
      · exact Or.inl e2
/-- the desks by turns -/
def JTu (tu : Nat → Int32) (fr9 bk9 : Int32) (no : Nat) (rb st : Nat → Int32) (nr : Nat) (rq : Nat → Nat) (nq : Nat) (oq : Nat → Nat) (cn : Nat) : Prop :=
  (lst nr rq).Pairwise (fun a b => tu a < tu b) ∧ (lst nq oq).Pairwise (fun a b => tu a < tu b) ∧ (∀ o, o < no → st o = -1 → (¬ rb o = 0 → o ∈ lst nr rq) ∧ (rb o = 0 → o ∈ lst nq oq)) ∧ (∀ o, o < no → st o = -1 → fr9 ≤ tu o ∧ tu o ≤ bk9) ∧ (-(cn : Int) ≤ fr9.toInt ∧ fr9.toInt ≤ 0) ∧ (0 ≤ bk9.toInt ∧ bk9.toInt ≤ (cn : Int))
theorem JTu.mono {tu : Nat → Int32} {fr9 bk9 : Int32} {no : Nat} {rb st : Nat → Int32} {nr : Nat} {rq : Nat → Nat} {nq : Nat} {oq : Nat → Nat} {cn : Nat} (h : JTu tu fr9 bk9 no rb st nr rq nq oq cn) : JTu tu fr9 bk9 no rb st nr rq nq oq (cn + 1) := by
  obtain ⟨h1, h2, h3, h4, h5, h6⟩ := h
  exact ⟨h1, h2, h3, h4, ⟨by omega, h5.2⟩, ⟨h6.1, by omega⟩⟩
theorem nx_eq {tu : Nat → Int32} {fr9 bk9 : Int32} {no : Nat} {rb st : Nat → Int32} {nr : Nat} {rq : Nat → Nat} {nq : Nat} {oq : Nat → Nat} {cn ns nd : Nat} {so du : Nat → Nat} {hd : Nat → Option Nat} (h : JTu tu fr9 bk9 no rb st nr rq nq oq cn) (hI : HIn ns so nd du nr rq nq oq no rb st hd) (hr : ∀ o, rb o = 0 ∨ rb o = 1) : nxF st rb tu no = if 0 < nr then some (rq 0) else if 0 < nq then some (oq 0) else none := by
  obtain ⟨j1, j2, j3, j4, j5, j6⟩ := h
  by_cases e : 0 < nr
  · rw [if_pos e]
    obtain ⟨l, hl⟩ := lst_cons (f := rq) e
    have h1 := hI.2.2.1.2 (rq 0) (lst_mem e)
    refine nxF_one h1.2.1 hr no h1.1 (fun i hi hs hne => ?_)
    by_cases e2 : rb i = 0
    · exact Or.inl ⟨fun q => h1.2.2 (q.trans e2), h1.2.2⟩
    · have h2 := (j3 i hi hs).1 e2
      rw [hl] at h2 j1
      rcases List.mem_cons.mp h2 with q | q
      · exact absurd q hne
      · refine Or.inr ⟨?_, (List.pairwise_cons.mp j1).1 i q⟩
        rcases hr (rq 0) with z | z
        · exact absurd z h1.2.2
        · rcases hr i with z2 | z2
          · exact absurd z2 e2
          · exact z.trans z2.symm
  · rw [if_neg e]
    have hnr : ∀ o, o < no → st o = -1 → rb o = 0 := fun o ho hs => Classical.byContradiction (fun q => by
      have h2 := (j3 o ho hs).1 q
      rw [show nr = 0 by omega] at h2
      simp [lst] at h2)
    by_cases e3 : 0 < nq
    · rw [if_pos e3]
      obtain ⟨l, hl⟩ := lst_cons (f := oq) e3
      have h1 := hI.2.2.2.1.2 (oq 0) (lst_mem e3)
      refine nxF_one h1.2.1 hr no h1.1 (fun i hi hs hne => ?_)
      have h3 := hnr i hi hs
      have h2 := (j3 i hi hs).2 h3
      rw [hl] at h2 j2
      rcases List.mem_cons.mp h2 with q | q
      · exact absurd q hne
      · exact Or.inr ⟨h1.2.2.trans h3.symm, (List.pairwise_cons.mp j2).1 i q⟩
    · rw [if_neg e3]
      refine nxF_none no (fun o ho hs => ?_)
      have h2 := (j3 o ho hs).2 (hnr o ho hs)
      rw [show nq = 0 by omega] at h2
      simp [lst] at h2
theorem wtF_len {st rb : Nat → Int32} {b : Int32} : ∀ n, wtF st rb b n = ((List.range n).filter (fun i => decide (st i = -1 ∧ rb i = b))).length := by
  intro n
  induction n with
  | zero => rfl
  | succ n ih =>
    rw [List.range_succ, List.filter_append, List.length_append, ← ih]
    simp only [wtF]
    by_cases h : st n = -1 ∧ rb n = b
    · rw [if_pos h]; simp [h]
    · rw [if_neg h]; simp [h]
theorem wt_eq {tu : Nat → Int32} {fr9 bk9 : Int32} {no : Nat} {rb st : Nat → Int32} {nr : Nat} {rq : Nat → Nat} {nq : Nat} {oq : Nat → Nat} {cn ns nd : Nat} {so du : Nat → Nat} {hd : Nat → Option Nat} {b : Int32} (h : JTu tu fr9 bk9 no rb st nr rq nq oq cn) (hI : HIn ns so nd du nr rq nq oq no rb st hd) (hr : ∀ o, rb o = 0 ∨ rb o = 1) (hb : b = 0 ∨ b = 1) : wtF st rb b no = if b = 0 then nq else nr := by
  obtain ⟨j1, j2, j3, j4, j5, j6⟩ := h
  rw [wtF_len]
  have hN : ((List.range no).filter (fun i => decide (st i = -1 ∧ rb i = b))).Nodup := List.Nodup.sublist List.filter_sublist List.nodup_range
  by_cases e : b = 0
  · rw [if_pos e]
    subst e
    refine Eq.trans ((List.perm_ext_iff_of_nodup hN hI.2.2.2.1.1).mpr (fun a => ?_)).length_eq lst_len
    rw [List.mem_filter, List.mem_range, decide_eq_true_eq]
    exact ⟨fun q => (j3 a q.1 q.2.1).2 q.2.2, fun q => by have := hI.2.2.2.1.2 a q; exact ⟨this.1, this.2.1, this.2.2⟩⟩
  · rw [if_neg e]
    have e1 : b = 1 := hb.elim (fun z => absurd z e) id
    subst e1
    refine Eq.trans ((List.perm_ext_iff_of_nodup hN hI.2.2.1.1).mpr (fun a => ?_)).length_eq lst_len
    rw [List.mem_filter, List.mem_range, decide_eq_true_eq]
    refine ⟨fun q => (j3 a q.1 q.2.1).1 (fun z => by rw [q.2.2] at z; exact absurd z (by decide)), fun q => ?_⟩
    have := hI.2.2.1.2 a q
    exact ⟨this.1, this.2.1, (hr a).elim (fun z => absurd z this.2.2) id⟩
-- hands
theorem loF_none {s : Nat → Int32} {x : Int32} : ∀ m, (∀ o, o < m → ¬ s o = x) → loF s x m = -1 := by
  intro m
  induction m with
  | zero => intro _; rfl
  | succ m ih =>
    intro h
    rw [loF_n (h m (by omega))]
    exact ih (fun o ho => h o (by omega))
theorem loF_one {s : Nat → Int32} {x : Int32} {o : Nat} (h0 : s o = x) : ∀ m, o < m → (∀ i, i < m → s i = x → i = o) → loF s x m = nI o := by
  intro m
  induction m with
  | zero => intro h; omega
  | succ m ih =>
    intro h hu
    by_cases e : s m = x
    · have e2 := hu m (by omega) e
      subst e2
      exact loF_y e
    · rw [loF_n e]
      refine ih (Nat.lt_of_le_of_ne (by omega) (fun q => ?_)) (fun i hi => hu i (by omega))
      subst q
      exact e h0
/-- what else holds of orders, hands and sales -/
def JOr (ns : Nat) (so : Nat → Nat) (no : Nat) (on_ : Nat → Nat) (obf : Nat → Nat → Int32) (rb st : Nat → Int32) (hd : Nat → Option Nat) : Prop :=
  (∀ t, 4 ≤ t → hd t = none) ∧ (∀ t, t < 4 → ∀ o, o < no → st o = nI t → hd t = some o) ∧ (∀ o, o < no → st o = -1 → ∀ j, j < on_ o → obf o j = -1) ∧ (∀ o, rb o = 0 ∨ rb o = 1) ∧ (∀ i j, i < ns → j < ns → so i = so j → i = j)
theorem han_eq {sf : Nat → Int32} {af : Nat → Nat → Int32} {ns : Nat} {so : Nat → Nat} {nd : Nat} {du : Nat → Nat} {nr : Nat} {rq : Nat → Nat} {nq : Nat} {oq : Nat → Nat} {no : Nat} {oc on_ : Nat → Nat} {owd : Nat → Nat → Nat} {obf : Nat → Nat → Int32} {rb st : Nat → Int32} {hd : Nat → Option Nat} (hO : MOrd sf af no oc on_ owd rb st) (hI : HIn ns so nd du nr rq nq oq no rb st hd) (hJ : JOr ns so no on_ obf rb st hd) : MHan af no hd := fun t ht => by
  have hst : ∀ o, o < no → af 11 o = st o := fun o ho => (hO.2.2 o ho).2.2.2.1.2
  rcases e : hd t with _ | o
  · refine ⟨loF_none no (fun o ho q => ?_), fun o h => by cases h⟩
    rw [hst o ho] at q
    rw [hJ.2.1 t ht o ho q] at e
    cases e
  · obtain ⟨h1, h2⟩ := hI.2.2.2.2 t o ht e
    refine ⟨loF_one (by rw [hst o h1, h2]) no h1 (fun i hi q => ?_), fun o2 h => by cases h; exact h1⟩
    rw [hst i hi] at q
    have h3 := hJ.2.1 t ht i hi q
    rw [e] at h3
    exact (Option.some.inj h3).symm
/-- moments of sales and of rulings -/
def JMo (ru sa : Nat → Int32) (mo : Int32) (ns : Nat) (ft : Nat → Nat) (cn : Nat) : Prop :=
  (∀ i, i < ns → ∀ q, q < 200 → (ru q < sa i ↔ ¬ nI i < nI (ft q))) ∧ (∀ q, q < 200 → ft q ≤ ns) ∧ (∀ q, ru q ≤ mo) ∧ (∀ i, i < ns → sa i ≤ mo) ∧ (0 ≤ mo.toInt ∧ mo.toInt ≤ (cn : Int))
theorem JMo.mono {ru sa : Nat → Int32} {mo : Int32} {ns : Nat} {ft : Nat → Nat} {cn : Nat} (h : JMo ru sa mo ns ft cn) : JMo ru sa mo ns ft (cn + 1) := ⟨h.1, h.2.1, h.2.2.1, h.2.2.2.1, h.2.2.2.2.1, by have := h.2.2.2.2.2; omega⟩
theorem lt_add1 {x : Int32} (h : x.toInt < 2147483647) : x < x + 1 := by
  rw [i32_lt, i32_add1 h]
  omega
theorem le_add1 {x : Int32} (h : x.toInt < 2147483647) : x ≤ x + 1 := by
  rw [i32_le, i32_add1 h]
  omega
theorem lt_of_le1 {x y : Int32} (h : y ≤ x) (hx : x.toInt < 2147483647) : y < x + 1 := by
  rw [i32_le] at h
  rw [i32_lt, i32_add1 hx]
  omega
/-- a sale -/
theorem JMo.sell {ru sa : Nat → Int32} {mo : Int32} {ns : Nat} {ft : Nat → Nat} {cn : Nat} (h : JMo ru sa mo ns ft cn) (hns : ns < 40) (hc : cn < 1000000) : JMo ru (upd sa ns (mo + 1)) (mo + 1) (ns + 1) ft (cn + 1) := by
  obtain ⟨h1, h2, h3, h4, h5⟩ := h
  have hm : mo.toInt < 2147483647 := by omega
  have e1 := i32_add1 hm
  refine ⟨fun i hi q hq => ?_, fun q hq => by have := h2 q hq; omega, fun q => le_tr (h3 q) (le_add1 hm), fun i hi => ?_, by rw [e1]; omega⟩
  · by_cases e : i = ns
    · subst e
      rw [pk_us]
      have := h2 q hq
      exact ⟨fun _ => nI_nlt this (by omega), fun _ => lt_of_le1 (h3 q) hm⟩
    · rw [pk_un e]
      exact h1 i (by omega) q hq
  · by_cases e : i = ns
    · subst e
      rw [pk_us, i32_le]
      omega
    · rw [pk_un e]
      exact le_tr (h4 i (by omega)) (le_add1 hm)
/-- a ruling that changes -/
theorem JMo.rule {ru sa : Nat → Int32} {mo : Int32} {ns : Nat} {ft : Nat → Nat} {cn q0 : Nat} (h : JMo ru sa mo ns ft cn) (hns : ns ≤ 40) (hc : cn < 1000000) : JMo (upd ru q0 (mo + 1)) sa (mo + 1) ns (va_up ft q0 ns) (cn + 1) := by
  obtain ⟨h1, h2, h3, h4, h5⟩ := h
  have hm : mo.toInt < 2147483647 := by omega
  have e1 := i32_add1 hm
  refine ⟨fun i hi q hq => ?_, fun q hq => ?_, fun q => ?_, fun i hi => le_tr (h4 i hi) (le_add1 hm), by rw [e1]; omega⟩
  · by_cases e : q = q0
    · subst e
      rw [pk_us, va_up_self]
      exact ⟨fun z => absurd (lt_of_le1 (h4 i hi) hm) (lt_asy z), fun z => absurd (nI_lt hi (by omega)) z⟩
    · rw [pk_un e, va_up_ne _ _ e]
      exact h1 i hi q hq
  · by_cases e : q = q0
    · subst e; rw [va_up_self]; exact Nat.le_refl _
    · rw [va_up_ne _ _ e]; exact h2 q hq
  · by_cases e : q = q0
    · subst e
      rw [pk_us, i32_le]
      omega
    · rw [pk_un e]
      exact le_tr (h3 q) (le_add1 hm)
