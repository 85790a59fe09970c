def JR (sf : Nat → Int32) (af : Nat → Nat → Int32) (cn : Nat) (dl : Nat) (dw : Nat → Nat) (fs : Nat → Int32) (fr : Nat → Int32) (ft : Nat → Nat) (ns : Nat) (so : Nat → Nat) (hv : Nat → Int64) (nd : Nat) (du : Nat → Nat) (nr : Nat) (rq : Nat → Nat) (nq : Nat) (oq : Nat → Nat) (pd : Nat → Int32) (er : Nat → Int32) (no : Nat) (oc : Nat → Nat) (on_ : Nat → Nat) (owd : Nat → Nat → Nat) (obf : Nat → Nat → Int32) (rb : Nat → Int32) (st : Nat → Int32) (mt : Nat → Int32) (co : Nat → Int32) (py : Nat → Int32) (hd : Nat → Option Nat) (le : Int32) (pr : Int32) (ra : Int32) : Prop :=
  MDra sf af dl dw ∧ SayR af fs fr ∧ MSen sf af ns (fun i => oc (so i)) (fun i => on_ (so i)) (fun i => owd (so i)) (fun i => obf (so i)) ∧ MOrd sf af no oc on_ owd rb st ∧ MTak af hd on_ obf mt co py ∧ (MPri sf le pr ra ∧ 0 < le) ∧ JMo (af 18) (af 6) (sf 9) ns ft cn ∧ (∃ cc, cc ≤ 40 * cn ∧ JLs (af 19) (sf 10) ns nd du cc) ∧ JTu (af 12) (sf 7) (sf 8) no rb st nr rq nq oq cn ∧ (∀ k, k < 4 → af 20 k = pd k ∧ af 21 k = er k) ∧ JIdx hv ns (fun i => on_ (so i)) (fun i => owd (so i)) ∧ JOr ns so no on_ obf rb st hd ∧ cn < 1000
/-- class and reference, hanging together -/
def JJ (ac : Nat → ClassId) (N : Nat) (adr : Nat → Nat) (w : Nat → va_E) (sf : Nat → Int32) (af : Nat → Nat → Int32) (cn : Nat) : Prop := ∃ (dl : Nat) (dw : Nat → Nat) (fs : Nat → Int32) (fr : Nat → Int32) (ft : Nat → Nat) (ns : Nat) (so : Nat → Nat) (hv : Nat → Int64) (nd : Nat) (du : Nat → Nat) (T : Nat → Int32) (nr : Nat) (rq : Nat → Nat) (nq : Nat) (oq : Nat → Nat) (pd : Nat → Int32) (er : Nat → Int32) (no : Nat) (oc : Nat → Nat) (on_ : Nat → Nat) (owd : Nat → Nat → Nat) (obf : Nat → Nat → Int32) (rb : Nat → Int32) (st : Nat → Int32) (mt : Nat → Int32) (co : Nat → Int32) (py : Nat → Int32) (hd : Nat → Option Nat) (le : Int32) (pr : Int32) (ra : Int32), HR ac adr w dl dw fs fr ft ns so hv nd du T nr rq nq oq pd er no oc on_ owd obf rb st mt co py hd le pr ra ∧ JR sf af cn dl dw fs fr ft ns so hv nd du nr rq nq oq pd er no oc on_ owd obf rb st mt co py hd le pr ra ∧ N = 22 + 6 * no
theorem JR.scr {sf s1 : Nat → Int32} {af a1 : Nat → Nat → Int32} {cn : Nat} {dl : Nat} {dw : Nat → Nat} {fs : Nat → Int32} {fr : Nat → Int32} {ft : Nat → Nat} {ns : Nat} {so : Nat → Nat} {hv : Nat → Int64} {nd : Nat} {du : Nat → Nat} {nr : Nat} {rq : Nat → Nat} {nq : Nat} {oq : Nat → Nat} {pd : Nat → Int32} {er : Nat → Int32} {no : Nat} {oc : Nat → Nat} {on_ : Nat → Nat} {owd : Nat → Nat → Nat} {obf : Nat → Nat → Int32} {rb : Nat → Int32} {st : Nat → Int32} {mt : Nat → Int32} {co : Nat → Int32} {py : Nat → Int32} {hd : Nat → Option Nat} {le : Int32} {pr : Int32} {ra : Int32} (h : JR sf af cn dl dw fs fr ft ns so hv nd du nr rq nq oq pd er no oc on_ owd obf rb st mt co py hd le pr ra) (hS : Scr sf af s1 a1) (hc : cn + 1 < 1000) : JR s1 a1 (cn + 1) dl dw fs fr ft ns so hv nd du nr rq nq oq pd er no oc on_ owd obf rb st mt co py hd le pr ra := by
  obtain ⟨h1, h2, h3, h4, h5, ⟨h6, h7⟩, h8, ⟨cc, h9, h10⟩, h11, h12, h13, h14, h15⟩ := h
  have s := fun k (q1 : ¬ k = 0) (q2 : ¬ k = 11) => hS.1 k q1 q2
  have a := fun k (q1 : ¬ k = 22) (q2 : ¬ k = 23) => hS.2 k q1 q2
  refine ⟨h1.t (s 1 (by decide) (by decide)) (a 1 (by decide) (by decide)), h2.t (a 17 (by decide) (by decide)), h3.t (s 5 (by decide) (by decide)) (a 2 (by decide) (by decide)) (a 3 (by decide) (by decide)) (a 4 (by decide) (by decide)) (a 5 (by decide) (by decide)), h4.t (s 6 (by decide) (by decide)) (a 7 (by decide) (by decide)) (a 8 (by decide) (by decide)) (a 9 (by decide) (by decide)) (a 10 (by decide) (by decide)) (a 11 (by decide) (by decide)), h5.t (a 13 (by decide) (by decide)) (a 14 (by decide) (by decide)) (a 15 (by decide) (by decide)) (a 16 (by decide) (by decide)), ⟨h6.t (s 2 (by decide) (by decide)) (s 3 (by decide) (by decide)) (s 4 (by decide) (by decide)), h7⟩, ?_, ⟨cc, by omega, ?_⟩, ?_, ?_, h13, h14, hc⟩
  · rw [a 18 (by decide) (by decide), a 6 (by decide) (by decide), s 9 (by decide) (by decide)]
    exact h8.mono
  · rw [a 19 (by decide) (by decide), s 10 (by decide) (by decide)]
    exact h10
  · rw [a 12 (by decide) (by decide), s 7 (by decide) (by decide), s 8 (by decide) (by decide)]
    exact h11.mono
  · rw [a 20 (by decide) (by decide), a 21 (by decide) (by decide)]
    exact h12
theorem HR.hin {ac : Nat → ClassId} {adr : Nat → Nat} {w : Nat → va_E} {dl : Nat} {dw : Nat → Nat} {fs : Nat → Int32} {fr : Nat → Int32} {ft : Nat → Nat} {ns : Nat} {so : Nat → Nat} {hv : Nat → Int64} {nd : Nat} {du : Nat → Nat} {T : Nat → Int32} {nr : Nat} {rq : Nat → Nat} {nq : Nat} {oq : Nat → Nat} {pd : Nat → Int32} {er : Nat → Int32} {no : Nat} {oc : Nat → Nat} {on_ : Nat → Nat} {owd : Nat → Nat → Nat} {obf : Nat → Nat → Int32} {rb : Nat → Int32} {st : Nat → Int32} {mt : Nat → Int32} {co : Nat → Int32} {py : Nat → Int32} {hd : Nat → Option Nat} {le : Int32} {pr : Int32} {ra : Int32} (h : HR ac adr w dl dw fs fr ft ns so hv nd du T nr rq nq oq pd er no oc on_ owd obf rb st mt co py hd le pr ra) : HIn ns so nd du nr rq nq oq no rb st hd := h.2.2.2.2.2.2.2.2.2
theorem HR.n60 {ac : Nat → ClassId} {adr : Nat → Nat} {w : Nat → va_E} {dl : Nat} {dw : Nat → Nat} {fs : Nat → Int32} {fr : Nat → Int32} {ft : Nat → Nat} {ns : Nat} {so : Nat → Nat} {hv : Nat → Int64} {nd : Nat} {du : Nat → Nat} {T : Nat → Int32} {nr : Nat} {rq : Nat → Nat} {nq : Nat} {oq : Nat → Nat} {pd : Nat → Int32} {er : Nat → Int32} {no : Nat} {oc : Nat → Nat} {on_ : Nat → Nat} {owd : Nat → Nat → Nat} {obf : Nat → Nat → Int32} {rb : Nat → Int32} {st : Nat → Int32} {mt : Nat → Int32} {co : Nat → Int32} {py : Nat → Int32} {hd : Nat → Option Nat} {le : Int32} {pr : Int32} {ra : Int32} (h : HR ac adr w dl dw fs fr ft ns so hv nd du T nr rq nq oq pd er no oc on_ owd obf rb st mt co py hd le pr ra) : no ≤ 60 := h.2.2.2.2.2.2.2.1.2.2
theorem HR.n40 {ac : Nat → ClassId} {adr : Nat → Nat} {w : Nat → va_E} {dl : Nat} {dw : Nat → Nat} {fs : Nat → Int32} {fr : Nat → Int32} {ft : Nat → Nat} {ns : Nat} {so : Nat → Nat} {hv : Nat → Int64} {nd : Nat} {du : Nat → Nat} {T : Nat → Int32} {nr : Nat} {rq : Nat → Nat} {nq : Nat} {oq : Nat → Nat} {pd : Nat → Int32} {er : Nat → Int32} {no : Nat} {oc : Nat → Nat} {on_ : Nat → Nat} {owd : Nat → Nat → Nat} {obf : Nat → Nat → Int32} {rb : Nat → Int32} {st : Nat → Int32} {mt : Nat → Int32} {co : Nat → Int32} {py : Nat → Int32} {hd : Nat → Option Nat} {le : Int32} {pr : Int32} {ra : Int32} (h : HR ac adr w dl dw fs fr ft ns so hv nd du T nr rq nq oq pd er no oc on_ owd obf rb st mt co py hd le pr ra) : ns ≤ 40 := h.2.2.2.1.2.2.2.2.2.2.2.1
theorem HR.d40 {ac : Nat → ClassId} {adr : Nat → Nat} {w : Nat → va_E} {dl : Nat} {dw : Nat → Nat} {fs : Nat → Int32} {fr : Nat → Int32} {ft : Nat → Nat} {ns : Nat} {so : Nat → Nat} {hv : Nat → Int64} {nd : Nat} {du : Nat → Nat} {T : Nat → Int32} {nr : Nat} {rq : Nat → Nat} {nq : Nat} {oq : Nat → Nat} {pd : Nat → Int32} {er : Nat → Int32} {no : Nat} {oc : Nat → Nat} {on_ : Nat → Nat} {owd : Nat → Nat → Nat} {obf : Nat → Nat → Int32} {rb : Nat → Int32} {st : Nat → Int32} {mt : Nat → Int32} {co : Nat → Int32} {py : Nat → Int32} {hd : Nat → Option Nat} {le : Int32} {pr : Int32} {ra : Int32} (h : HR ac adr w dl dw fs fr ft ns so hv nd du T nr rq nq oq pd er no oc on_ owd obf rb st mt co py hd le pr ra) : nd ≤ 40 := h.2.2.2.1.2.2.2.2.2.2.2.2
theorem HR.dl8 {ac : Nat → ClassId} {adr : Nat → Nat} {w : Nat → va_E} {dl : Nat} {dw : Nat → Nat} {fs : Nat → Int32} {fr : Nat → Int32} {ft : Nat → Nat} {ns : Nat} {so : Nat → Nat} {hv : Nat → Int64} {nd : Nat} {du : Nat → Nat} {T : Nat → Int32} {nr : Nat} {rq : Nat → Nat} {nq : Nat} {oq : Nat → Nat} {pd : Nat → Int32} {er : Nat → Int32} {no : Nat} {oc : Nat → Nat} {on_ : Nat → Nat} {owd : Nat → Nat → Nat} {obf : Nat → Nat → Int32} {rb : Nat → Int32} {st : Nat → Int32} {mt : Nat → Int32} {co : Nat → Int32} {py : Nat → Int32} {hd : Nat → Option Nat} {le : Int32} {pr : Int32} {ra : Int32} (h : HR ac adr w dl dw fs fr ft ns so hv nd du T nr rq nq oq pd er no oc on_ owd obf rb st mt co py hd le pr ra) : dl ≤ 8 := h.2.1.2.2.1
theorem HR.dw {ac : Nat → ClassId} {adr : Nat → Nat} {w : Nat → va_E} {dl : Nat} {dw : Nat → Nat} {fs : Nat → Int32} {fr : Nat → Int32} {ft : Nat → Nat} {ns : Nat} {so : Nat → Nat} {hv : Nat → Int64} {nd : Nat} {du : Nat → Nat} {T : Nat → Int32} {nr : Nat} {rq : Nat → Nat} {nq : Nat} {oq : Nat → Nat} {pd : Nat → Int32} {er : Nat → Int32} {no : Nat} {oc : Nat → Nat} {on_ : Nat → Nat} {owd : Nat → Nat → Nat} {obf : Nat → Nat → Int32} {rb : Nat → Int32} {st : Nat → Int32} {mt : Nat → Int32} {co : Nat → Int32} {py : Nat → Int32} {hd : Nat → Option Nat} {le : Int32} {pr : Int32} {ra : Int32} (h : HR ac adr w dl dw fs fr ft ns so hv nd du T nr rq nq oq pd er no oc on_ owd obf rb st mt co py hd le pr ra) : ∀ j, j < dl → dw j < 50 := h.2.1.2.2.2
theorem HR.sen {ac : Nat → ClassId} {adr : Nat → Nat} {w : Nat → va_E} {dl : Nat} {dw : Nat → Nat} {fs : Nat → Int32} {fr : Nat → Int32} {ft : Nat → Nat} {ns : Nat} {so : Nat → Nat} {hv : Nat → Int64} {nd : Nat} {du : Nat → Nat} {T : Nat → Int32} {nr : Nat} {rq : Nat → Nat} {nq : Nat} {oq : Nat → Nat} {pd : Nat → Int32} {er : Nat → Int32} {no : Nat} {oc : Nat → Nat} {on_ : Nat → Nat} {owd : Nat → Nat → Nat} {obf : Nat → Nat → Int32} {rb : Nat → Int32} {st : Nat → Int32} {mt : Nat → Int32} {co : Nat → Int32} {py : Nat → Int32} {hd : Nat → Option Nat} {le : Int32} {pr : Int32} {ra : Int32} (h : HR ac adr w dl dw fs fr ft ns so hv nd du T nr rq nq oq pd er no oc on_ owd obf rb st mt co py hd le pr ra) {o : Nat} (ho : o < no) : 0 < on_ o ∧ on_ o ≤ 8 ∧ oc o < 4 ∧ ∀ j, j < on_ o → owd o j < 50 := (h.2.2.2.2.1 o ho).2.2.2.2.2
theorem HR.soo {ac : Nat → ClassId} {adr : Nat → Nat} {w : Nat → va_E} {dl : Nat} {dw : Nat → Nat} {fs : Nat → Int32} {fr : Nat → Int32} {ft : Nat → Nat} {ns : Nat} {so : Nat → Nat} {hv : Nat → Int64} {nd : Nat} {du : Nat → Nat} {T : Nat → Int32} {nr : Nat} {rq : Nat → Nat} {nq : Nat} {oq : Nat → Nat} {pd : Nat → Int32} {er : Nat → Int32} {no : Nat} {oc : Nat → Nat} {on_ : Nat → Nat} {owd : Nat → Nat → Nat} {obf : Nat → Nat → Int32} {rb : Nat → Int32} {st : Nat → Int32} {mt : Nat → Int32} {co : Nat → Int32} {py : Nat → Int32} {hd : Nat → Option Nat} {le : Int32} {pr : Int32} {ra : Int32} (h : HR ac adr w dl dw fs fr ft ns so hv nd du T nr rq nq oq pd er no oc on_ owd obf rb st mt co py hd le pr ra) {i : Nat} (hi : i < ns) : so i < no := (h.hin.1 i hi).1
theorem HR.bnd {ac : Nat → ClassId} {adr : Nat → Nat} {w : Nat → va_E} {dl : Nat} {dw : Nat → Nat} {fs : Nat → Int32} {fr : Nat → Int32} {ft : Nat → Nat} {ns : Nat} {so : Nat → Nat} {hv : Nat → Int64} {nd : Nat} {du : Nat → Nat} {T : Nat → Int32} {nr : Nat} {rq : Nat → Nat} {nq : Nat} {oq : Nat → Nat} {pd : Nat → Int32} {er : Nat → Int32} {no : Nat} {oc : Nat → Nat} {on_ : Nat → Nat} {owd : Nat → Nat → Nat} {obf : Nat → Nat → Int32} {rb : Nat → Int32} {st : Nat → Int32} {mt : Nat → Int32} {co : Nat → Int32} {py : Nat → Int32} {hd : Nat → Option Nat} {le : Int32} {pr : Int32} {ra : Int32} (h : HR ac adr w dl dw fs fr ft ns so hv nd du T nr rq nq oq pd er no oc on_ owd obf rb st mt co py hd le pr ra) {x : Int32} {o : Nat} (hb : (ix x 4).bind hd = some o) : o < no := by
  rcases e : ix x 4 with _ | t
  · rw [e] at hb; cases hb
  · rw [e] at hb
    obtain ⟨q1, q2⟩ := ix_of e (by omega)
    exact (h.hin.2.2.2.2 t o q1 hb).1
theorem cd2_z {a b : Bool} (h : a = false) (h2 : b = false) : cd2 a b = 0 := by rw [h, h2]; rfl
theorem cd1_z {a : Bool} (h : a = false) : cd1 a = 0 := by rw [h]; rfl
theorem cd3_z {a b c : Bool} (h : a = false) (h2 : b = false) (h3 : c = false) : cd3 a b c = 0 := by rw [h, h2, h3]; rfl
theorem bnd_f {x : Int32} {hd : Nat → Option Nat} {o : Nat} (h : (ix x 4).bind hd = some o) : (ix x 4).isNone = false ∧ ((ix x 4).bind hd).isNone = false ∧ ∃ t, t < 4 ∧ x = nI t ∧ hd t = some o := by
  rcases e : ix x 4 with _ | t
  · rw [e] at h; cases h
  · rw [e] at h
    obtain ⟨q1, q2⟩ := ix_of e (by omega)
    have h : hd t = some o := h
    refine ⟨rfl, by show (hd t).isNone = false; rw [h]; rfl, t, q1, q2, h⟩
theorem bnd_o {x : Int32} {hd : Nat → Option Nat} {t o : Nat} (ht : t < 4) (hx : x = nI t) (hh : hd t = some o) : (ix x 4).bind hd = some o := by
  rw [hx, ix_nI ht (by omega)]
  exact hh
theorem why_one {b : Int32} {n : Nat} {fr : Nat → Int32} {cl : Nat} {wd : Nat → Nat} {bf : Nat → Int32} {r r2 : Int32} (h : WhyP b n fr cl wd bf r) (h2 : WhyP b n fr cl wd bf r2) : r = r2 := by
  rcases h with ⟨e1, j, a1, a2⟩ | ⟨e1, a1, a2, j, a3, a4⟩ | ⟨e1, a1, a2⟩ <;> rcases h2 with ⟨e2, j2, b1, b2⟩ | ⟨e2, b1, b2, j2, b3, b4⟩ | ⟨e2, b1, b2⟩
  · exact e1.trans e2.symm
  · exact absurd a2 (b1 j a1)
  · exact absurd a2 (b1 j a1)
  · exact absurd b2 (a1 j2 b1)
  · exact e1.trans e2.symm
  · exact b2.elim (fun z => absurd a2 z) (fun z => absurd a4 (z j a3))
  · exact absurd b2 (a1 j2 b1)
  · exact a2.elim (fun z => absurd b2 z) (fun z => absurd b4 (z j2 b3))
  · exact e1.trans e2.symm
theorem first_one {Q : Nat → Prop} {i k : Nat} (h1 : Q i) (h2 : ∀ j, j < i → ¬ Q j) (h3 : Q k) (h4 : ∀ j, j < k → ¬ Q j) : i = k := by
  rcases Nat.lt_trichotomy i k with q | q | q
  · exact absurd h1 (h4 i q)
  · exact q
  · exact absurd h3 (h2 k q)
theorem whe_one {b : Int32} {n : Nat} {fr : Nat → Int32} {cl : Nat} {wd : Nat → Nat} {bf : Nat → Int32} {r r2 : Int32} (h : WheP b n fr cl wd bf r) (h2 : WheP b n fr cl wd bf r2) : r = r2 := by
  rcases h with ⟨i, a1, a2, a3, a4⟩ | ⟨a0, ⟨a1, i, a2, a3, a4, a5⟩ | ⟨a1, a2⟩⟩ <;> rcases h2 with ⟨k, b1, b2, b3, b4⟩ | ⟨b0, ⟨b1, k, b2, b3, b4, b5⟩ | ⟨b1, b2⟩⟩
  · rw [a2, b2, first_one (Q := fun j => bf j = -1) a3 a4 b3 b4]
  · exact absurd a3 (b0 i a1)
  · exact absurd a3 (b0 i a1)
  · exact absurd b3 (a0 k b1)
  · rw [a3, b3, first_one (Q := fun j => ast fr cl wd bf j) a4 a5 b4 b5]
  · exact b2.elim (fun z => absurd a1 z) (fun z => absurd a4 (z i a2))
  · exact absurd b3 (a0 k b1)
  · exact a2.elim (fun z => absurd b1 z) (fun z => absurd b4 (z k b2))
  · exact a1.trans b1.symm
theorem z_match {ac : Nat → ClassId} {adr : Nat → Nat} {w w1 : Nat → va_E} {sf s1 : Nat → Int32} {af a1 : Nat → Nat → Int32} {cn : Nat} {dl : Nat} {dw : Nat → Nat} {fs : Nat → Int32} {fr : Nat → Int32} {ft : Nat → Nat} {ns : Nat} {so : Nat → Nat} {hv : Nat → Int64} {nd : Nat} {du : Nat → Nat} {T : Nat → Int32} {nr : Nat} {rq : Nat → Nat} {nq : Nat} {oq : Nat → Nat} {pd : Nat → Int32} {er : Nat → Int32} {no : Nat} {oc : Nat → Nat} {on_ : Nat → Nat} {owd : Nat → Nat → Nat} {obf : Nat → Nat → Int32} {rb : Nat → Int32} {st : Nat → Int32} {mt : Nat → Int32} {co : Nat → Int32} {py : Nat → Int32} {hd : Nat → Option Nat} {le : Int32} {pr : Int32} {ra : Int32} {x : Int32} {r b : Int32} (hR : HR ac adr w dl dw fs fr ft ns so hv nd du T nr rq nq oq pd er no oc on_ owd obf rb st mt co py hd le pr ra) (hP : ∃ o, (ix x 4).bind hd = some o ∧ r = mt o ∧ w1 = w) : cd2 (ix x 4).isNone ((ix x 4).bind hd).isNone = 0 := by
  obtain ⟨o, ho, -⟩ := hP
  obtain ⟨q1, q2, -⟩ := bnd_f ho
  exact cd2_z q1 q2
theorem t_match {ac : Nat → ClassId} {adr : Nat → Nat} {w w1 : Nat → va_E} {sf s1 : Nat → Int32} {af a1 : Nat → Nat → Int32} {cn : Nat} {dl : Nat} {dw : Nat → Nat} {fs : Nat → Int32} {fr : Nat → Int32} {ft : Nat → Nat} {ns : Nat} {so : Nat → Nat} {hv : Nat → Int64} {nd : Nat} {du : Nat → Nat} {T : Nat → Int32} {nr : Nat} {rq : Nat → Nat} {nq : Nat} {oq : Nat → Nat} {pd : Nat → Int32} {er : Nat → Int32} {no : Nat} {oc : Nat → Nat} {on_ : Nat → Nat} {owd : Nat → Nat → Nat} {obf : Nat → Nat → Int32} {rb : Nat → Int32} {st : Nat → Int32} {mt : Nat → Int32} {co : Nat → Int32} {py : Nat → Int32} {hd : Nat → Option Nat} {le : Int32} {pr : Int32} {ra : Int32} {x : Int32} {r b : Int32} (hR : HR ac adr w dl dw fs fr ft ns so hv nd du T nr rq nq oq pd er no oc on_ owd obf rb st mt co py hd le pr ra) (hJ : JR sf af cn dl dw fs fr ft ns so hv nd du nr rq nq oq pd er no oc on_ owd obf rb st mt co py hd le pr ra) (hc : cn + 1 < 1000) (hP : ∃ o, (ix x 4).bind hd = some o ∧ r = mt o ∧ w1 = w) (hN : ∃ o, (ix x 4).bind hd = some o ∧ b = mt o ∧ Scr sf af s1 a1) : r = b ∧ JJ ac (22 + 6 * no) adr w1 s1 a1 (cn + 1) := by
  obtain ⟨o, ho, hp, hw⟩ := hP
  obtain ⟨o2, ho2, hq, hS⟩ := hN
  rw [ho] at ho2
  cases ho2
  subst hw
  exact ⟨hp.trans hq.symm, ⟨_, _, _, _, _, _, _, _, _, _, _, _, _, _, _, _, _, _, _, _, _, _, _, _, _, _, _, _, _, _, _, hR, hJ.scr hS hc, rfl⟩⟩
theorem z_why {ac : Nat → ClassId} {adr : Nat → Nat} {w w1 : Nat → va_E} {sf s1 : Nat → Int32} {af a1 : Nat → Nat → Int32} {cn : Nat} {dl : Nat} {dw : Nat → Nat} {fs : Nat → Int32} {fr : Nat → Int32} {ft : Nat → Nat} {ns : Nat} {so : Nat → Nat} {hv : Nat → Int64} {nd : Nat} {du : Nat → Nat} {T : Nat → Int32} {nr : Nat} {rq : Nat → Nat} {nq : Nat} {oq : Nat → Nat} {pd : Nat → Int32} {er : Nat → Int32} {no : Nat} {oc : Nat → Nat} {on_ : Nat → Nat} {owd : Nat → Nat → Nat} {obf : Nat → Nat → Int32} {rb : Nat → Int32} {st : Nat → Int32} {mt : Nat → Int32} {co : Nat → Int32} {py : Nat → Int32} {hd : Nat → Option Nat} {le : Int32} {pr : Int32} {ra : Int32} {x : Int32} {r b : Int32} (hR : HR ac adr w dl dw fs fr ft ns so hv nd du T nr rq nq oq pd er no oc on_ owd obf rb st mt co py hd le pr ra) (hP : ∃ o, (ix x 4).bind hd = some o ∧ WhyP (rb o) (on_ o) fr (oc o) (owd o) (obf o) r ∧ w1 = w) : cd2 (ix x 4).isNone ((ix x 4).bind hd).isNone = 0 := by
  obtain ⟨o, ho, -⟩ := hP
  obtain ⟨q1, q2, -⟩ := bnd_f ho
  exact cd2_z q1 q2
theorem t_why {ac : Nat → ClassId} {adr : Nat → Nat} {w w1 : Nat → va_E} {sf s1 : Nat → Int32} {af a1 : Nat → Nat → Int32} {cn : Nat} {dl : Nat} {dw : Nat → Nat} {fs : Nat → Int32} {fr : Nat → Int32} {ft : Nat → Nat} {ns : Nat} {so : Nat → Nat} {hv : Nat → Int64} {nd : Nat} {du : Nat → Nat} {T : Nat → Int32} {nr : Nat} {rq : Nat → Nat} {nq : Nat} {oq : Nat → Nat} {pd : Nat → Int32} {er : Nat → Int32} {no : Nat} {oc : Nat → Nat} {on_ : Nat → Nat} {owd : Nat → Nat → Nat} {obf : Nat → Nat → Int32} {rb : Nat → Int32} {st : Nat → Int32} {mt : Nat → Int32} {co : Nat → Int32} {py : Nat → Int32} {hd : Nat → Option Nat} {le : Int32} {pr : Int32} {ra : Int32} {x : Int32} {r b : Int32} (hR : HR ac adr w dl dw fs fr ft ns so hv nd du T nr rq nq oq pd er no oc on_ owd obf rb st mt co py hd le pr ra) (hJ : JR sf af cn dl dw fs fr ft ns so hv nd du nr rq nq oq pd er no oc on_ owd obf rb st mt co py hd le pr ra) (hc : cn + 1 < 1000) (hP : ∃ o, (ix x 4).bind hd = some o ∧ WhyP (rb o) (on_ o) fr (oc o) (owd o) (obf o) r ∧ w1 = w) (hN : ∃ o, (ix x 4).bind hd = some o ∧ WhyP (rb o) (on_ o) fr (oc o) (owd o) (obf o) b ∧ Scr sf af s1 a1) : r = b ∧ JJ ac (22 + 6 * no) adr w1 s1 a1 (cn + 1) := by
  obtain ⟨o, ho, hp, hw⟩ := hP
  obtain ⟨o2, ho2, hq, hS⟩ := hN
  rw [ho] at ho2
  cases ho2
  subst hw
  exact ⟨why_one hp hq, ⟨_, _, _, _, _, _, _, _, _, _, _, _, _, _, _, _, _, _, _, _, _, _, _, _, _, _, _, _, _, _, _, hR, hJ.scr hS hc, rfl⟩⟩
theorem z_wherefore {ac : Nat → ClassId} {adr : Nat → Nat} {w w1 : Nat → va_E} {sf s1 : Nat → Int32} {af a1 : Nat → Nat → Int32} {cn : Nat} {dl : Nat} {dw : Nat → Nat} {fs : Nat → Int32} {fr : Nat → Int32} {ft : Nat → Nat} {ns : Nat} {so : Nat → Nat} {hv : Nat → Int64} {nd : Nat} {du : Nat → Nat} {T : Nat → Int32} {nr : Nat} {rq : Nat → Nat} {nq : Nat} {oq : Nat → Nat} {pd : Nat → Int32} {er : Nat → Int32} {no : Nat} {oc : Nat → Nat} {on_ : Nat → Nat} {owd : Nat → Nat → Nat} {obf : Nat → Nat → Int32} {rb : Nat → Int32} {st : Nat → Int32} {mt : Nat → Int32} {co : Nat → Int32} {py : Nat → Int32} {hd : Nat → Option Nat} {le : Int32} {pr : Int32} {ra : Int32} {x : Int32} {r b : Int32} (hR : HR ac adr w dl dw fs fr ft ns so hv nd du T nr rq nq oq pd er no oc on_ owd obf rb st mt co py hd le pr ra) (hP : ∃ o, (ix x 4).bind hd = some o ∧ WheP (rb o) (on_ o) fr (oc o) (owd o) (obf o) r ∧ w1 = w) : cd2 (ix x 4).isNone ((ix x 4).bind hd).isNone = 0 := by
  obtain ⟨o, ho, -⟩ := hP
  obtain ⟨q1, q2, -⟩ := bnd_f ho
  exact cd2_z q1 q2
theorem t_wherefore {ac : Nat → ClassId} {adr : Nat → Nat} {w w1 : Nat → va_E} {sf s1 : Nat → Int32} {af a1 : Nat → Nat → Int32} {cn : Nat} {dl : Nat} {dw : Nat → Nat} {fs : Nat → Int32} {fr : Nat → Int32} {ft : Nat → Nat} {ns : Nat} {so : Nat → Nat} {hv : Nat → Int64} {nd : Nat} {du : Nat → Nat} {T : Nat → Int32} {nr : Nat} {rq : Nat → Nat} {nq : Nat} {oq : Nat → Nat} {pd : Nat → Int32} {er : Nat → Int32} {no : Nat} {oc : Nat → Nat} {on_ : Nat → Nat} {owd : Nat → Nat → Nat} {obf : Nat → Nat → Int32} {rb : Nat → Int32} {st : Nat → Int32} {mt : Nat → Int32} {co : Nat → Int32} {py : Nat → Int32} {hd : Nat → Option Nat} {le : Int32} {pr : Int32} {ra : Int32} {x : Int32} {r b : Int32} (hR : HR ac adr w dl dw fs fr ft ns so hv nd du T nr rq nq oq pd er no oc on_ owd obf rb st mt co py hd le pr ra) (hJ : JR sf af cn dl dw fs fr ft ns so hv nd du nr rq nq oq pd er no oc on_ owd obf rb st mt co py hd le pr ra) (hc : cn + 1 < 1000) (hP : ∃ o, (ix x 4).bind hd = some o ∧ WheP (rb o) (on_ o) fr (oc o) (owd o) (obf o) r ∧ w1 = w) (hN : ∃ o, (ix x 4).bind hd = some o ∧ WheP (rb o) (on_ o) fr (oc o) (owd o) (obf o) b ∧ Scr sf af s1 a1) : r = b ∧ JJ ac (22 + 6 * no) adr w1 s1 a1 (cn + 1) := by
  obtain ⟨o, ho, hp, hw⟩ := hP
  obtain ⟨o2, ho2, hq, hS⟩ := hN
  rw [ho] at ho2
  cases ho2
  subst hw
  exact ⟨whe_one hp hq, ⟨_, _, _, _, _, _, _, _, _, _, _, _, _, _, _, _, _, _, _, _, _, _, _, _, _, _, _, _, _, _, _, hR, hJ.scr hS hc, rfl⟩⟩
theorem z_became {ac : Nat → ClassId} {adr : Nat → Nat} {w w1 : Nat → va_E} {sf s1 : Nat → Int32} {af a1 : Nat → Nat → Int32} {cn : Nat} {dl : Nat} {dw : Nat → Nat} {fs : Nat → Int32} {fr : Nat → Int32} {ft : Nat → Nat} {ns : Nat} {so : Nat → Nat} {hv : Nat → Int64} {nd : Nat} {du : Nat → Nat} {T : Nat → Int32} {nr : Nat} {rq : Nat → Nat} {nq : Nat} {oq : Nat → Nat} {pd : Nat → Int32} {er : Nat → Int32} {no : Nat} {oc : Nat → Nat} {on_ : Nat → Nat} {owd : Nat → Nat → Nat} {obf : Nat → Nat → Int32} {rb : Nat → Int32} {st : Nat → Int32} {mt : Nat → Int32} {co : Nat → Int32} {py : Nat → Int32} {hd : Nat → Option Nat} {le : Int32} {pr : Int32} {ra : Int32} {x y : Int32} {r b : Int32} (hR : HR ac adr w dl dw fs fr ft ns so hv nd du T nr rq nq oq pd er no oc on_ owd obf rb st mt co py hd le pr ra) (hP : ∃ o k, (ix x 4).bind hd = some o ∧ k < on_ o ∧ y = nI k ∧ r = obf o k ∧ w1 = w) : cd3 (ix x 4).isNone ((ix x 4).bind hd).isNone (((ix x 4).bind hd).elim true (fun o => (ix y (on_ o)).isNone)) = 0 := by
  obtain ⟨o, k, ho, hk, hy, -⟩ := hP
  obtain ⟨q1, q2, -⟩ := bnd_f ho
  refine cd3_z q1 q2 ?_
  rw [ho]
  show (ix y (on_ o)).isNone = false
  have h8 := (hR.sen (hR.bnd ho)).2.1
  exact ixs hk (by omega) hy
theorem t_became {ac : Nat → ClassId} {adr : Nat → Nat} {w w1 : Nat → va_E} {sf s1 : Nat → Int32} {af a1 : Nat → Nat → Int32} {cn : Nat} {dl : Nat} {dw : Nat → Nat} {fs : Nat → Int32} {fr : Nat → Int32} {ft : Nat → Nat} {ns : Nat} {so : Nat → Nat} {hv : Nat → Int64} {nd : Nat} {du : Nat → Nat} {T : Nat → Int32} {nr : Nat} {rq : Nat → Nat} {nq : Nat} {oq : Nat → Nat} {pd : Nat → Int32} {er : Nat → Int32} {no : Nat} {oc : Nat → Nat} {on_ : Nat → Nat} {owd : Nat → Nat → Nat} {obf : Nat → Nat → Int32} {rb : Nat → Int32} {st : Nat → Int32} {mt : Nat → Int32} {co : Nat → Int32} {py : Nat → Int32} {hd : Nat → Option Nat} {le : Int32} {pr : Int32} {ra : Int32} {x y : Int32} {r b : Int32} (hR : HR ac adr w dl dw fs fr ft ns so hv nd du T nr rq nq oq pd er no oc on_ owd obf rb st mt co py hd le pr ra) (hJ : JR sf af cn dl dw fs fr ft ns so hv nd du nr rq nq oq pd er no oc on_ owd obf rb st mt co py hd le pr ra) (hc : cn + 1 < 1000) (hP : ∃ o k, (ix x 4).bind hd = some o ∧ k < on_ o ∧ y = nI k ∧ r = obf o k ∧ w1 = w) (hN : ∃ o k, (ix x 4).bind hd = some o ∧ k < on_ o ∧ y = nI k ∧ b = obf o k ∧ Scr sf af s1 a1) : r = b ∧ JJ ac (22 + 6 * no) adr w1 s1 a1 (cn + 1) := by
  obtain ⟨o, k, ho, hk, hy, hp, hw⟩ := hP
  obtain ⟨o2, k2, ho2, hk2, hy2, hq, hS⟩ := hN
  rw [ho] at ho2
  cases ho2
  have h8 := (hR.sen (hR.bnd ho)).2.1
  have e : k = k2 := (nI_eq (by omega) (by omega)).mp (hy.symm.trans hy2)
  subst e
  subst hw
  exact ⟨hp.trans hq.symm, ⟨_, _, _, _, _, _, _, _, _, _, _, _, _, _, _, _, _, _, _, _, _, _, _, _, _, _, _, _, _, _, _, hR, hJ.scr hS hc, rfl⟩⟩
theorem z_orderAt {ac : Nat → ClassId} {adr : Nat → Nat} {w w1 : Nat → va_E} {sf s1 : Nat → Int32} {af a1 : Nat → Nat → Int32} {cn : Nat} {dl : Nat} {dw : Nat → Nat} {fs : Nat → Int32} {fr : Nat → Int32} {ft : Nat → Nat} {ns : Nat} {so : Nat → Nat} {hv : Nat → Int64} {nd : Nat} {du : Nat → Nat} {T : Nat → Int32} {nr : Nat} {rq : Nat → Nat} {nq : Nat} {oq : Nat → Nat} {pd : Nat → Int32} {er : Nat → Int32} {no : Nat} {oc : Nat → Nat} {on_ : Nat → Nat} {owd : Nat → Nat → Nat} {obf : Nat → Nat → Int32} {rb : Nat → Int32} {st : Nat → Int32} {mt : Nat → Int32} {co : Nat → Int32} {py : Nat → Int32} {hd : Nat → Option Nat} {le : Int32} {pr : Int32} {ra : Int32} {x : Int32} {r b : Int32} (hR : HR ac adr w dl dw fs fr ft ns so hv nd du T nr rq nq oq pd er no oc on_ owd obf rb st mt co py hd le pr ra) (hP : ∃ i, i < no ∧ x = nI i ∧ r = st i ∧ w1 = w) : cd1 (ix x no).isNone = 0 := by
  obtain ⟨i, hi, hx, -⟩ := hP
  have h60 := hR.n60
  exact cd1_z (ixs hi (by omega) hx)
theorem t_orderAt {ac : Nat → ClassId} {adr : Nat → Nat} {w w1 : Nat → va_E} {sf s1 : Nat → Int32} {af a1 : Nat → Nat → Int32} {cn : Nat} {dl : Nat} {dw : Nat → Nat} {fs : Nat → Int32} {fr : Nat → Int32} {ft : Nat → Nat} {ns : Nat} {so : Nat → Nat} {hv : Nat → Int64} {nd : Nat} {du : Nat → Nat} {T : Nat → Int32} {nr : Nat} {rq : Nat → Nat} {nq : Nat} {oq : Nat → Nat} {pd : Nat → Int32} {er : Nat → Int32} {no : Nat} {oc : Nat → Nat} {on_ : Nat → Nat} {owd : Nat → Nat → Nat} {obf : Nat → Nat → Int32} {rb : Nat → Int32} {st : Nat → Int32} {mt : Nat → Int32} {co : Nat → Int32} {py : Nat → Int32} {hd : Nat → Option Nat} {le : Int32} {pr : Int32} {ra : Int32} {x : Int32} {r b : Int32} (hR : HR ac adr w dl dw fs fr ft ns so hv nd du T nr rq nq oq pd er no oc on_ owd obf rb st mt co py hd le pr ra) (hJ : JR sf af cn dl dw fs fr ft ns so hv nd du nr rq nq oq pd er no oc on_ owd obf rb st mt co py hd le pr ra) (hc : cn + 1 < 1000) (hP : ∃ i, i < no ∧ x = nI i ∧ r = st i ∧ w1 = w) (hN : ∃ i, i < no ∧ x = nI i ∧ b = st i ∧ Scr sf af s1 a1) : r = b ∧ JJ ac (22 + 6 * no) adr w1 s1 a1 (cn + 1) := by
  obtain ⟨i, hi, hx, hp, hw⟩ := hP
  obtain ⟨k, hk, hx2, hq, hS⟩ := hN
  have h60 := hR.n60
  have e : i = k := (nI_eq (by omega) (by omega)).mp (hx.symm.trans hx2)
  subst e
  subst hw
  exact ⟨hp.trans hq.symm, ⟨_, _, _, _, _, _, _, _, _, _, _, _, _, _, _, _, _, _, _, _, _, _, _, _, _, _, _, _, _, _, _, hR, hJ.scr hS hc, rfl⟩⟩
theorem z_ruling {ac : Nat → ClassId} {adr : Nat → Nat} {w w1 : Nat → va_E} {sf s1 : Nat → Int32} {af a1 : Nat → Nat → Int32} {cn : Nat} {dl : Nat} {dw : Nat → Nat} {fs : Nat → Int32} {fr : Nat → Int32} {ft : Nat → Nat} {ns : Nat} {so : Nat → Nat} {hv : Nat → Int64} {nd : Nat} {du : Nat → Nat} {T : Nat → Int32} {nr : Nat} {rq : Nat → Nat} {nq : Nat} {oq : Nat → Nat} {pd : Nat → Int32} {er : Nat → Int32} {no : Nat} {oc : Nat → Nat} {on_ : Nat → Nat} {owd : Nat → Nat → Nat} {obf : Nat → Nat → Int32} {rb : Nat → Int32} {st : Nat → Int32} {mt : Nat → Int32} {co : Nat → Int32} {py : Nat → Int32} {hd : Nat → Option Nat} {le : Int32} {pr : Int32} {ra : Int32} {x y : Int32} {r b : Int32} (hR : HR ac adr w dl dw fs fr ft ns so hv nd du T nr rq nq oq pd er no oc on_ owd obf rb st mt co py hd le pr ra) (hP : ∃ k j, k < 4 ∧ j < 50 ∧ x = nI k ∧ y = nI j ∧ r = fr (k * 50 + j) ∧ w1 = w) : cd1 ((ix x 4).isNone || (ix y 50).isNone) = 0 := by
  obtain ⟨k, j, hk, hj, hx, hy, -⟩ := hP
  rw [ixs hk (by omega) hx, ixs hj (by omega) hy]
  rfl
theorem t_ruling {ac : Nat → ClassId} {adr : Nat → Nat} {w w1 : Nat → va_E} {sf s1 : Nat → Int32} {af a1 : Nat → Nat → Int32} {cn : Nat} {dl : Nat} {dw : Nat → Nat} {fs : Nat → Int32} {fr : Nat → Int32} {ft : Nat → Nat} {ns : Nat} {so : Nat → Nat} {hv : Nat → Int64} {nd : Nat} {du : Nat → Nat} {T : Nat → Int32} {nr : Nat} {rq : Nat → Nat} {nq : Nat} {oq : Nat → Nat} {pd : Nat → Int32} {er : Nat → Int32} {no : Nat} {oc : Nat → Nat} {on_ : Nat → Nat} {owd : Nat → Nat → Nat} {obf : Nat → Nat → Int32} {rb : Nat → Int32} {st : Nat → Int32} {mt : Nat → Int32} {co : Nat → Int32} {py : Nat → Int32} {hd : Nat → Option Nat} {le : Int32} {pr : Int32} {ra : Int32} {x y : Int32} {r b : Int32} (hR : HR ac adr w dl dw fs fr ft ns so hv nd du T nr rq nq oq pd er no oc on_ owd obf rb st mt co py hd le pr ra) (hJ : JR sf af cn dl dw fs fr ft ns so hv nd du nr rq nq oq pd er no oc on_ owd obf rb st mt co py hd le pr ra) (hc : cn + 1 < 1000) (hP : ∃ k j, k < 4 ∧ j < 50 ∧ x = nI k ∧ y = nI j ∧ r = fr (k * 50 + j) ∧ w1 = w) (hN : ∃ k j, k < 4 ∧ j < 50 ∧ x = nI k ∧ y = nI j ∧ b = fr (k * 50 + j) ∧ Scr sf af s1 a1) : r = b ∧ JJ ac (22 + 6 * no) adr w1 s1 a1 (cn + 1) := by
  obtain ⟨k, j, hk, hj, hx, hy, hp, hw⟩ := hP
  obtain ⟨k2, j2, hk2, hj2, hx2, hy2, hq, hS⟩ := hN
  have e : k = k2 := (nI_eq (by omega) (by omega)).mp (hx.symm.trans hx2)
  have e2 : j = j2 := (nI_eq (by omega) (by omega)).mp (hy.symm.trans hy2)
  subst e
  subst e2
  subst hw
  exact ⟨hp.trans hq.symm, ⟨_, _, _, _, _, _, _, _, _, _, _, _, _, _, _, _, _, _, _, _, _, _, _, _, _, _, _, _, _, _, _, hR, hJ.scr hS hc, rfl⟩⟩
theorem z_clientOf {ac : Nat → ClassId} {adr : Nat → Nat} {w w1 : Nat → va_E} {sf s1 : Nat → Int32} {af a1 : Nat → Nat → Int32} {cn : Nat} {dl : Nat} {dw : Nat → Nat} {fs : Nat → Int32} {fr : Nat → Int32} {ft : Nat → Nat} {ns : Nat} {so : Nat → Nat} {hv : Nat → Int64} {nd : Nat} {du : Nat → Nat} {T : Nat → Int32} {nr : Nat} {rq : Nat → Nat} {nq : Nat} {oq : Nat → Nat} {pd : Nat → Int32} {er : Nat → Int32} {no : Nat} {oc : Nat → Nat} {on_ : Nat → Nat} {owd : Nat → Nat → Nat} {obf : Nat → Nat → Int32} {rb : Nat → Int32} {st : Nat → Int32} {mt : Nat → Int32} {co : Nat → Int32} {py : Nat → Int32} {hd : Nat → Option Nat} {le : Int32} {pr : Int32} {ra : Int32} {x : Int32} {r b : Int32} (hR : HR ac adr w dl dw fs fr ft ns so hv nd du T nr rq nq oq pd er no oc on_ owd obf rb st mt co py hd le pr ra) (hP : ∃ i, i < ns ∧ x = nI i ∧ r = nI (oc (so i)) ∧ w1 = w) : cd1 (ix x ns).isNone = 0 := by
  obtain ⟨i, hi, hx, -⟩ := hP
  have h40 := hR.n40
  exact cd1_z (ixs hi (by omega) hx)
theorem t_clientOf {ac : Nat → ClassId} {adr : Nat → Nat} {w w1 : Nat → va_E} {sf s1 : Nat → Int32} {af a1 : Nat → Nat → Int32} {cn : Nat} {dl : Nat} {dw : Nat → Nat} {fs : Nat → Int32} {fr : Nat → Int32} {ft : Nat → Nat} {ns : Nat} {so : Nat → Nat} {hv : Nat → Int64} {nd : Nat} {du : Nat → Nat} {T : Nat → Int32} {nr : Nat} {rq : Nat → Nat} {nq : Nat} {oq : Nat → Nat} {pd : Nat → Int32} {er : Nat → Int32} {no : Nat} {oc : Nat → Nat} {on_ : Nat → Nat} {owd : Nat → Nat → Nat} {obf : Nat → Nat → Int32} {rb : Nat → Int32} {st : Nat → Int32} {mt : Nat → Int32} {co : Nat → Int32} {py : Nat → Int32} {hd : Nat → Option Nat} {le : Int32} {pr : Int32} {ra : Int32} {x : Int32} {r b : Int32} (hR : HR ac adr w dl dw fs fr ft ns so hv nd du T nr rq nq oq pd er no oc on_ owd obf rb st mt co py hd le pr ra) (hJ : JR sf af cn dl dw fs fr ft ns so hv nd du nr rq nq oq pd er no oc on_ owd obf rb st mt co py hd le pr ra) (hc : cn + 1 < 1000) (hP : ∃ i, i < ns ∧ x = nI i ∧ r = nI (oc (so i)) ∧ w1 = w) (hN : ∃ i, i < ns ∧ x = nI i ∧ b = nI (oc (so i)) ∧ Scr sf af s1 a1) : r = b ∧ JJ ac (22 + 6 * no) adr w1 s1 a1 (cn + 1) := by
  obtain ⟨i, hi, hx, hp, hw⟩ := hP
  obtain ⟨k, hk, hx2, hq, hS⟩ := hN
  have h40 := hR.n40
  have e : i = k := (nI_eq (by omega) (by omega)).mp (hx.symm.trans hx2)
  subst e
  subst hw
  exact ⟨hp.trans hq.symm, ⟨_, _, _, _, _, _, _, _, _, _, _, _, _, _, _, _, _, _, _, _, _, _, _, _, _, _, _, _, _, _, _, hR, hJ.scr hS hc, rfl⟩⟩
theorem z_isDue {ac : Nat → ClassId} {adr : Nat → Nat} {w w1 : Nat → va_E} {sf s1 : Nat → Int32} {af a1 : Nat → Nat → Int32} {cn : Nat} {dl : Nat} {dw : Nat → Nat} {fs : Nat → Int32} {fr : Nat → Int32} {ft : Nat → Nat} {ns : Nat} {so : Nat → Nat} {hv : Nat → Int64} {nd : Nat} {du : Nat → Nat} {T : Nat → Int32} {nr : Nat} {rq : Nat → Nat} {nq : Nat} {oq : Nat → Nat} {pd : Nat → Int32} {er : Nat → Int32} {no : Nat} {oc : Nat → Nat} {on_ : Nat → Nat} {owd : Nat → Nat → Nat} {obf : Nat → Nat → Int32} {rb : Nat → Int32} {st : Nat → Int32} {mt : Nat → Int32} {co : Nat → Int32} {py : Nat → Int32} {hd : Nat → Option Nat} {le : Int32} {pr : Int32} {ra : Int32} {x : Int32} {r b : Int32} (hR : HR ac adr w dl dw fs fr ft ns so hv nd du T nr rq nq oq pd er no oc on_ owd obf rb st mt co py hd le pr ra) (hP : ∃ i, i < ns ∧ x = nI i ∧ r = (if asB fr (oc (so i)) (on_ (so i)) (owd (so i)) (obf (so i)) = true then 1 else 0) ∧ w1 = w) : cd1 (ix x ns).isNone = 0 := by
  obtain ⟨i, hi, hx, -⟩ := hP
  have h40 := hR.n40
  exact cd1_z (ixs hi (by omega) hx)
theorem t_isDue {ac : Nat → ClassId} {adr : Nat → Nat} {w w1 : Nat → va_E} {sf s1 : Nat → Int32} {af a1 : Nat → Nat → Int32} {cn : Nat} {dl : Nat} {dw : Nat → Nat} {fs : Nat → Int32} {fr : Nat → Int32} {ft : Nat → Nat} {ns : Nat} {so : Nat → Nat} {hv : Nat → Int64} {nd : Nat} {du : Nat → Nat} {T : Nat → Int32} {nr : Nat} {rq : Nat → Nat} {nq : Nat} {oq : Nat → Nat} {pd : Nat → Int32} {er : Nat → Int32} {no : Nat} {oc : Nat → Nat} {on_ : Nat → Nat} {owd : Nat → Nat → Nat} {obf : Nat → Nat → Int32} {rb : Nat → Int32} {st : Nat → Int32} {mt : Nat → Int32} {co : Nat → Int32} {py : Nat → Int32} {hd : Nat → Option Nat} {le : Int32} {pr : Int32} {ra : Int32} {x : Int32} {r b : Int32} (hR : HR ac adr w dl dw fs fr ft ns so hv nd du T nr rq nq oq pd er no oc on_ owd obf rb st mt co py hd le pr ra) (hJ : JR sf af cn dl dw fs fr ft ns so hv nd du nr rq nq oq pd er no oc on_ owd obf rb st mt co py hd le pr ra) (hc : cn + 1 < 1000) (hP : ∃ i, i < ns ∧ x = nI i ∧ r = (if asB fr (oc (so i)) (on_ (so i)) (owd (so i)) (obf (so i)) = true then 1 else 0) ∧ w1 = w) (hN : ∃ i, i < ns ∧ x = nI i ∧ b = (if asB fr (oc (so i)) (on_ (so i)) (owd (so i)) (obf (so i)) = true then 1 else 0) ∧ Scr sf af s1 a1) : r = b ∧ JJ ac (22 + 6 * no) adr w1 s1 a1 (cn + 1) := by
  obtain ⟨i, hi, hx, hp, hw⟩ := hP
  obtain ⟨k, hk, hx2, hq, hS⟩ := hN
  have h40 := hR.n40
  have e : i = k := (nI_eq (by omega) (by omega)).mp (hx.symm.trans hx2)
  subst e
  subst hw
  exact ⟨hp.trans hq.symm, ⟨_, _, _, _, _, _, _, _, _, _, _, _, _, _, _, _, _, _, _, _, _, _, _, _, _, _, _, _, _, _, _, hR, hJ.scr hS hc, rfl⟩⟩
theorem z_wordOf {ac : Nat → ClassId} {adr : Nat → Nat} {w w1 : Nat → va_E} {sf s1 : Nat → Int32} {af a1 : Nat → Nat → Int32} {cn : Nat} {dl : Nat} {dw : Nat → Nat} {fs : Nat → Int32} {fr : Nat → Int32} {ft : Nat → Nat} {ns : Nat} {so : Nat → Nat} {hv : Nat → Int64} {nd : Nat} {du : Nat → Nat} {T : Nat → Int32} {nr : Nat} {rq : Nat → Nat} {nq : Nat} {oq : Nat → Nat} {pd : Nat → Int32} {er : Nat → Int32} {no : Nat} {oc : Nat → Nat} {on_ : Nat → Nat} {owd : Nat → Nat → Nat} {obf : Nat → Nat → Int32} {rb : Nat → Int32} {st : Nat → Int32} {mt : Nat → Int32} {co : Nat → Int32} {py : Nat → Int32} {hd : Nat → Option Nat} {le : Int32} {pr : Int32} {ra : Int32} {x y : Int32} {r b : Int32} (hR : HR ac adr w dl dw fs fr ft ns so hv nd du T nr rq nq oq pd er no oc on_ owd obf rb st mt co py hd le pr ra) (hP : ∃ i k, i < ns ∧ x = nI i ∧ k < on_ (so i) ∧ y = nI k ∧ r = nI (owd (so i) k) ∧ w1 = w) : cd1 ((ix x ns).elim true (fun i => (ix y (on_ (so i))).isNone)) = 0 := by
  obtain ⟨i, k, hi, hx, hk, hy, -⟩ := hP
  have h40 := hR.n40
  have h8 := (hR.sen (hR.soo hi)).2.1
  refine cd1_z ?_
  rw [hx, ix_nI hi (by omega)]
  show (ix y (on_ (so i))).isNone = false
  exact ixs hk (by omega) hy
theorem t_wordOf {ac : Nat → ClassId} {adr : Nat → Nat} {w w1 : Nat → va_E} {sf s1 : Nat → Int32} {af a1 : Nat → Nat → Int32} {cn : Nat} {dl : Nat} {dw : Nat → Nat} {fs : Nat → Int32} {fr : Nat → Int32} {ft : Nat → Nat} {ns : Nat} {so : Nat → Nat} {hv : Nat → Int64} {nd : Nat} {du : Nat → Nat} {T : Nat → Int32} {nr : Nat} {rq : Nat → Nat} {nq : Nat} {oq : Nat → Nat} {pd : Nat → Int32} {er : Nat → Int32} {no : Nat} {oc : Nat → Nat} {on_ : Nat → Nat} {owd : Nat → Nat → Nat} {obf : Nat → Nat → Int32} {rb : Nat → Int32} {st : Nat → Int32} {mt : Nat → Int32} {co : Nat → Int32} {py : Nat → Int32} {hd : Nat → Option Nat} {le : Int32} {pr : Int32} {ra : Int32} {x y : Int32} {r b : Int32} (hR : HR ac adr w dl dw fs fr ft ns so hv nd du T nr rq nq oq pd er no oc on_ owd obf rb st mt co py hd le pr ra) (hJ : JR sf af cn dl dw fs fr ft ns so hv nd du nr rq nq oq pd er no oc on_ owd obf rb st mt co py hd le pr ra) (hc : cn + 1 < 1000) (hP : ∃ i k, i < ns ∧ x = nI i ∧ k < on_ (so i) ∧ y = nI k ∧ r = nI (owd (so i) k) ∧ w1 = w) (hN : ∃ i k, i < ns ∧ x = nI i ∧ k < on_ (so i) ∧ y = nI k ∧ b = nI (owd (so i) k) ∧ Scr sf af s1 a1) : r = b ∧ JJ ac (22 + 6 * no) adr w1 s1 a1 (cn + 1) := by
  obtain ⟨i, k, hi, hx, hk, hy, hp, hw⟩ := hP
  obtain ⟨i2, k2, hi2, hx2, hk2, hy2, hq, hS⟩ := hN
  have h40 := hR.n40
  have e : i = i2 := (nI_eq (by omega) (by omega)).mp (hx.symm.trans hx2)
  subst e
  have h8 := (hR.sen (hR.soo hi)).2.1
  have e : k = k2 := (nI_eq (by omega) (by omega)).mp (hy.symm.trans hy2)
  subst e
  subst hw
  exact ⟨hp.trans hq.symm, ⟨_, _, _, _, _, _, _, _, _, _, _, _, _, _, _, _, _, _, _, _, _, _, _, _, _, _, _, _, _, _, _, hR, hJ.scr hS hc, rfl⟩⟩
theorem z_becameOf {ac : Nat → ClassId} {adr : Nat → Nat} {w w1 : Nat → va_E} {sf s1 : Nat → Int32} {af a1 : Nat → Nat → Int32} {cn : Nat} {dl : Nat} {dw : Nat → Nat} {fs : Nat → Int32} {fr : Nat → Int32} {ft : Nat → Nat} {ns : Nat} {so : Nat → Nat} {hv : Nat → Int64} {nd : Nat} {du : Nat → Nat} {T : Nat → Int32} {nr : Nat} {rq : Nat → Nat} {nq : Nat} {oq : Nat → Nat} {pd : Nat → Int32} {er : Nat → Int32} {no : Nat} {oc : Nat → Nat} {on_ : Nat → Nat} {owd : Nat → Nat → Nat} {obf : Nat → Nat → Int32} {rb : Nat → Int32} {st : Nat → Int32} {mt : Nat → Int32} {co : Nat → Int32} {py : Nat → Int32} {hd : Nat → Option Nat} {le : Int32} {pr : Int32} {ra : Int32} {x y : Int32} {r b : Int32} (hR : HR ac adr w dl dw fs fr ft ns so hv nd du T nr rq nq oq pd er no oc on_ owd obf rb st mt co py hd le pr ra) (hP : ∃ i k, i < ns ∧ x = nI i ∧ k < on_ (so i) ∧ y = nI k ∧ r = obf (so i) k ∧ w1 = w) : cd1 ((ix x ns).elim true (fun i => (ix y (on_ (so i))).isNone)) = 0 := by
  obtain ⟨i, k, hi, hx, hk, hy, -⟩ := hP
  have h40 := hR.n40
  have h8 := (hR.sen (hR.soo hi)).2.1
  refine cd1_z ?_
  rw [hx, ix_nI hi (by omega)]
  show (ix y (on_ (so i))).isNone = false
  exact ixs hk (by omega) hy
theorem t_becameOf {ac : Nat → ClassId} {adr : Nat → Nat} {w w1 : Nat → va_E} {sf s1 : Nat → Int32} {af a1 : Nat → Nat → Int32} {cn : Nat} {dl : Nat} {dw : Nat → Nat} {fs : Nat → Int32} {fr : Nat → Int32} {ft : Nat → Nat} {ns : Nat} {so : Nat → Nat} {hv : Nat → Int64} {nd : Nat} {du : Nat → Nat} {T : Nat → Int32} {nr : Nat} {rq : Nat → Nat} {nq : Nat} {oq : Nat → Nat} {pd : Nat → Int32} {er : Nat → Int32} {no : Nat} {oc : Nat → Nat} {on_ : Nat → Nat} {owd : Nat → Nat → Nat} {obf : Nat → Nat → Int32} {rb : Nat → Int32} {st : Nat → Int32} {mt : Nat → Int32} {co : Nat → Int32} {py : Nat → Int32} {hd : Nat → Option Nat} {le : Int32} {pr : Int32} {ra : Int32} {x y : Int32} {r b : Int32} (hR : HR ac adr w dl dw fs fr ft ns so hv nd du T nr rq nq oq pd er no oc on_ owd obf rb st mt co py hd le pr ra) (hJ : JR sf af cn dl dw fs fr ft ns so hv nd du nr rq nq oq pd er no oc on_ owd obf rb st mt co py hd le pr ra) (hc : cn + 1 < 1000) (hP : ∃ i k, i < ns ∧ x = nI i ∧ k < on_ (so i) ∧ y = nI k ∧ r = obf (so i) k ∧ w1 = w) (hN : ∃ i k, i < ns ∧ x = nI i ∧ k < on_ (so i) ∧ y = nI k ∧ b = obf (so i) k ∧ Scr sf af s1 a1) : r = b ∧ JJ ac (22 + 6 * no) adr w1 s1 a1 (cn + 1) := by
  obtain ⟨i, k, hi, hx, hk, hy, hp, hw⟩ := hP
  obtain ⟨i2, k2, hi2, hx2, hk2, hy2, hq, hS⟩ := hN
  have h40 := hR.n40
  have e : i = i2 := (nI_eq (by omega) (by omega)).mp (hx.symm.trans hx2)
  subst e
  have h8 := (hR.sen (hR.soo hi)).2.1
  have e : k = k2 := (nI_eq (by omega) (by omega)).mp (hy.symm.trans hy2)
  subst e
  subst hw
  exact ⟨hp.trans hq.symm, ⟨_, _, _, _, _, _, _, _, _, _, _, _, _, _, _, _, _, _, _, _, _, _, _, _, _, _, _, _, _, _, _, hR, hJ.scr hS hc, rfl⟩⟩
theorem z_dueAt {ac : Nat → ClassId} {adr : Nat → Nat} {w w1 : Nat → va_E} {sf s1 : Nat → Int32} {af a1 : Nat → Nat → Int32} {cn : Nat} {dl : Nat} {dw : Nat → Nat} {fs : Nat → Int32} {fr : Nat → Int32} {ft : Nat → Nat} {ns : Nat} {so : Nat → Nat} {hv : Nat → Int64} {nd : Nat} {du : Nat → Nat} {T : Nat → Int32} {nr : Nat} {rq : Nat → Nat} {nq : Nat} {oq : Nat → Nat} {pd : Nat → Int32} {er : Nat → Int32} {no : Nat} {oc : Nat → Nat} {on_ : Nat → Nat} {owd : Nat → Nat → Nat} {obf : Nat → Nat → Int32} {rb : Nat → Int32} {st : Nat → Int32} {mt : Nat → Int32} {co : Nat → Int32} {py : Nat → Int32} {hd : Nat → Option Nat} {le : Int32} {pr : Int32} {ra : Int32} {x : Int32} {r b : Int32} (hR : HR ac adr w dl dw fs fr ft ns so hv nd du T nr rq nq oq pd er no oc on_ owd obf rb st mt co py hd le pr ra) (hP : ∃ i, i < nd ∧ x = nI i ∧ r = nI (du i) ∧ w1 = w) : cd1 (ix x nd).isNone = 0 := by
  obtain ⟨i, hi, hx, -⟩ := hP
  have h41 := hR.d40
  exact cd1_z (ixs hi (by omega) hx)
theorem t_dueAt {ac : Nat → ClassId} {adr : Nat → Nat} {w w1 : Nat → va_E} {sf s1 : Nat → Int32} {af a1 : Nat → Nat → Int32} {cn : Nat} {dl : Nat} {dw : Nat → Nat} {fs : Nat → Int32} {fr : Nat → Int32} {ft : Nat → Nat} {ns : Nat} {so : Nat → Nat} {hv : Nat → Int64} {nd : Nat} {du : Nat → Nat} {T : Nat → Int32} {nr : Nat} {rq : Nat → Nat} {nq : Nat} {oq : Nat → Nat} {pd : Nat → Int32} {er : Nat → Int32} {no : Nat} {oc : Nat → Nat} {on_ : Nat → Nat} {owd : Nat → Nat → Nat} {obf : Nat → Nat → Int32} {rb : Nat → Int32} {st : Nat → Int32} {mt : Nat → Int32} {co : Nat → Int32} {py : Nat → Int32} {hd : Nat → Option Nat} {le : Int32} {pr : Int32} {ra : Int32} {x : Int32} {r b : Int32} (hR : HR ac adr w dl dw fs fr ft ns so hv nd du T nr rq nq oq pd er no oc on_ owd obf rb st mt co py hd le pr ra) (hJ : JR sf af cn dl dw fs fr ft ns so hv nd du nr rq nq oq pd er no oc on_ owd obf rb st mt co py hd le pr ra) (hc : cn + 1 < 1000) (hP : ∃ i, i < nd ∧ x = nI i ∧ r = nI (du i) ∧ w1 = w) (hN : ∃ k, k < nd ∧ x = nI k ∧ b = daF (af 19) ns x ns ∧ Scr sf af s1 a1) : r = b ∧ JJ ac (22 + 6 * no) adr w1 s1 a1 (cn + 1) := by
  obtain ⟨i, hi, hx, hp, hw⟩ := hP
  obtain ⟨k, hk, hx2, hq, hS⟩ := hN
  have h40 := hR.n40
  have hI := hR.hin
  obtain ⟨cc, -, hL⟩ := hJ.2.2.2.2.2.2.2.1
  have h41 := hR.d40
  have e := da_eq hL hI.2.1.1 hI.2.1.2 h40 hi h41
  rw [hx, e] at hq
  subst hw
  exact ⟨hp.trans hq.symm, ⟨_, _, _, _, _, _, _, _, _, _, _, _, _, _, _, _, _, _, _, _, _, _, _, _, _, _, _, _, _, _, _, hR, hJ.scr hS hc, rfl⟩⟩
theorem z_paid {ac : Nat → ClassId} {adr : Nat → Nat} {w w1 : Nat → va_E} {sf s1 : Nat → Int32} {af a1 : Nat → Nat → Int32} {cn : Nat} {dl : Nat} {dw : Nat → Nat} {fs : Nat → Int32} {fr : Nat → Int32} {ft : Nat → Nat} {ns : Nat} {so : Nat → Nat} {hv : Nat → Int64} {nd : Nat} {du : Nat → Nat} {T : Nat → Int32} {nr : Nat} {rq : Nat → Nat} {nq : Nat} {oq : Nat → Nat} {pd : Nat → Int32} {er : Nat → Int32} {no : Nat} {oc : Nat → Nat} {on_ : Nat → Nat} {owd : Nat → Nat → Nat} {obf : Nat → Nat → Int32} {rb : Nat → Int32} {st : Nat → Int32} {mt : Nat → Int32} {co : Nat → Int32} {py : Nat → Int32} {hd : Nat → Option Nat} {le : Int32} {pr : Int32} {ra : Int32} {x : Int32} {r b : Int32} (hR : HR ac adr w dl dw fs fr ft ns so hv nd du T nr rq nq oq pd er no oc on_ owd obf rb st mt co py hd le pr ra) (hP : ∃ k, k < 4 ∧ x = nI k ∧ r = pd k ∧ w1 = w) : cd1 (ix x 4).isNone = 0 := by
  obtain ⟨k, hk, hx, -⟩ := hP
  exact cd1_z (ixs hk (by omega) hx)
theorem t_paid {ac : Nat → ClassId} {adr : Nat → Nat} {w w1 : Nat → va_E} {sf s1 : Nat → Int32} {af a1 : Nat → Nat → Int32} {cn : Nat} {dl : Nat} {dw : Nat → Nat} {fs : Nat → Int32} {fr : Nat → Int32} {ft : Nat → Nat} {ns : Nat} {so : Nat → Nat} {hv : Nat → Int64} {nd : Nat} {du : Nat → Nat} {T : Nat → Int32} {nr : Nat} {rq : Nat → Nat} {nq : Nat} {oq : Nat → Nat} {pd : Nat → Int32} {er : Nat → Int32} {no : Nat} {oc : Nat → Nat} {on_ : Nat → Nat} {owd : Nat → Nat → Nat} {obf : Nat → Nat → Int32} {rb : Nat → Int32} {st : Nat → Int32} {mt : Nat → Int32} {co : Nat → Int32} {py : Nat → Int32} {hd : Nat → Option Nat} {le : Int32} {pr : Int32} {ra : Int32} {x : Int32} {r b : Int32} (hR : HR ac adr w dl dw fs fr ft ns so hv nd du T nr rq nq oq pd er no oc on_ owd obf rb st mt co py hd le pr ra) (hJ : JR sf af cn dl dw fs fr ft ns so hv nd du nr rq nq oq pd er no oc on_ owd obf rb st mt co py hd le pr ra) (hc : cn + 1 < 1000) (hP : ∃ k, k < 4 ∧ x = nI k ∧ r = pd k ∧ w1 = w) (hN : ∃ k, k < 4 ∧ x = nI k ∧ b = af 20 k ∧ Scr sf af s1 a1) : r = b ∧ JJ ac (22 + 6 * no) adr w1 s1 a1 (cn + 1) := by
  obtain ⟨k, hk, hx, hp, hw⟩ := hP
  obtain ⟨k2, hk2, hx2, hq, hS⟩ := hN
  have e : k = k2 := (nI_eq (by omega) (by omega)).mp (hx.symm.trans hx2)
  subst e
  have e2 := (hJ.2.2.2.2.2.2.2.2.2.1 k hk).1
  subst hw
  exact ⟨hp.trans (e2.symm.trans hq.symm), ⟨_, _, _, _, _, _, _, _, _, _, _, _, _, _, _, _, _, _, _, _, _, _, _, _, _, _, _, _, _, _, _, hR, hJ.scr hS hc, rfl⟩⟩
theorem z_earned {ac : Nat → ClassId} {adr : Nat → Nat} {w w1 : Nat → va_E} {sf s1 : Nat → Int32} {af a1 : Nat → Nat → Int32} {cn : Nat} {dl : Nat} {dw : Nat → Nat} {fs : Nat → Int32} {fr : Nat → Int32} {ft : Nat → Nat} {ns : Nat} {so : Nat → Nat} {hv : Nat → Int64} {nd : Nat} {du : Nat → Nat} {T : Nat → Int32} {nr : Nat} {rq : Nat → Nat} {nq : Nat} {oq : Nat → Nat} {pd : Nat → Int32} {er : Nat → Int32} {no : Nat} {oc : Nat → Nat} {on_ : Nat → Nat} {owd : Nat → Nat → Nat} {obf : Nat → Nat → Int32} {rb : Nat → Int32} {st : Nat → Int32} {mt : Nat → Int32} {co : Nat → Int32} {py : Nat → Int32} {hd : Nat → Option Nat} {le : Int32} {pr : Int32} {ra : Int32} {x : Int32} {r b : Int32} (hR : HR ac adr w dl dw fs fr ft ns so hv nd du T nr rq nq oq pd er no oc on_ owd obf rb st mt co py hd le pr ra) (hP : ∃ k, k < 4 ∧ x = nI k ∧ r = er k ∧ w1 = w) : cd1 (ix x 4).isNone = 0 := by
  obtain ⟨k, hk, hx, -⟩ := hP
  exact cd1_z (ixs hk (by omega) hx)
theorem t_earned {ac : Nat → ClassId} {adr : Nat → Nat} {w w1 : Nat → va_E} {sf s1 : Nat → Int32} {af a1 : Nat → Nat → Int32} {cn : Nat} {dl : Nat} {dw : Nat → Nat} {fs : Nat → Int32} {fr : Nat → Int32} {ft : Nat → Nat} {ns : Nat} {so : Nat → Nat} {hv : Nat → Int64} {nd : Nat} {du : Nat → Nat} {T : Nat → Int32} {nr : Nat} {rq : Nat → Nat} {nq : Nat} {oq : Nat → Nat} {pd : Nat → Int32} {er : Nat → Int32} {no : Nat} {oc : Nat → Nat} {on_ : Nat → Nat} {owd : Nat → Nat → Nat} {obf : Nat → Nat → Int32} {rb : Nat → Int32} {st : Nat → Int32} {mt : Nat → Int32} {co : Nat → Int32} {py : Nat → Int32} {hd : Nat → Option Nat} {le : Int32} {pr : Int32} {ra : Int32} {x : Int32} {r b : Int32} (hR : HR ac adr w dl dw fs fr ft ns so hv nd du T nr rq nq oq pd er no oc on_ owd obf rb st mt co py hd le pr ra) (hJ : JR sf af cn dl dw fs fr ft ns so hv nd du nr rq nq oq pd er no oc on_ owd obf rb st mt co py hd le pr ra) (hc : cn + 1 < 1000) (hP : ∃ k, k < 4 ∧ x = nI k ∧ r = er k ∧ w1 = w) (hN : ∃ k, k < 4 ∧ x = nI k ∧ b = af 21 k ∧ Scr sf af s1 a1) : r = b ∧ JJ ac (22 + 6 * no) adr w1 s1 a1 (cn + 1) := by
  obtain ⟨k, hk, hx, hp, hw⟩ := hP
  obtain ⟨k2, hk2, hx2, hq, hS⟩ := hN
  have e : k = k2 := (nI_eq (by omega) (by omega)).mp (hx.symm.trans hx2)
  subst e
  have e2 := (hJ.2.2.2.2.2.2.2.2.2.1 k hk).2
  subst hw
  exact ⟨hp.trans (e2.symm.trans hq.symm), ⟨_, _, _, _, _, _, _, _, _, _, _, _, _, _, _, _, _, _, _, _, _, _, _, _, _, _, _, _, _, _, _, hR, hJ.scr hS hc, rfl⟩⟩
theorem z_likeness {ac : Nat → ClassId} {adr : Nat → Nat} {w w1 : Nat → va_E} {sf s1 : Nat → Int32} {af a1 : Nat → Nat → Int32} {cn : Nat} {dl : Nat} {dw : Nat → Nat} {fs : Nat → Int32} {fr : Nat → Int32} {ft : Nat → Nat} {ns : Nat} {so : Nat → Nat} {hv : Nat → Int64} {nd : Nat} {du : Nat → Nat} {T : Nat → Int32} {nr : Nat} {rq : Nat → Nat} {nq : Nat} {oq : Nat → Nat} {pd : Nat → Int32} {er : Nat → Int32} {no : Nat} {oc : Nat → Nat} {on_ : Nat → Nat} {owd : Nat → Nat → Nat} {obf : Nat → Nat → Int32} {rb : Nat → Int32} {st : Nat → Int32} {mt : Nat → Int32} {co : Nat → Int32} {py : Nat → Int32} {hd : Nat → Option Nat} {le : Int32} {pr : Int32} {ra : Int32} {x : Int32} {r b : Int32} (hR : HR ac adr w dl dw fs fr ft ns so hv nd du T nr rq nq oq pd er no oc on_ owd obf rb st mt co py hd le pr ra) (hP : ∃ i, i < ns ∧ x = nI i ∧ 0 < dl ∧ r = lkO dl (fun j => nI (dw j)) on_ owd (so i) ∧ ∃ T1, HR ac adr w1 dl dw fs fr ft ns so hv nd du T1 nr rq nq oq pd er no oc on_ owd obf rb st mt co py hd le pr ra) : cd2 (ix x ns).isNone (decide (dl = 0)) = 0 := by
  obtain ⟨i, hi, hx, hl, -⟩ := hP
  have h40 := hR.n40
  exact cd2_z (ixs hi (by omega) hx) (decide_eq_false (by omega))
theorem t_likeness {ac : Nat → ClassId} {adr : Nat → Nat} {w w1 : Nat → va_E} {sf s1 : Nat → Int32} {af a1 : Nat → Nat → Int32} {cn : Nat} {dl : Nat} {dw : Nat → Nat} {fs : Nat → Int32} {fr : Nat → Int32} {ft : Nat → Nat} {ns : Nat} {so : Nat → Nat} {hv : Nat → Int64} {nd : Nat} {du : Nat → Nat} {T : Nat → Int32} {nr : Nat} {rq : Nat → Nat} {nq : Nat} {oq : Nat → Nat} {pd : Nat → Int32} {er : Nat → Int32} {no : Nat} {oc : Nat → Nat} {on_ : Nat → Nat} {owd : Nat → Nat → Nat} {obf : Nat → Nat → Int32} {rb : Nat → Int32} {st : Nat → Int32} {mt : Nat → Int32} {co : Nat → Int32} {py : Nat → Int32} {hd : Nat → Option Nat} {le : Int32} {pr : Int32} {ra : Int32} {x : Int32} {r b : Int32} (hR : HR ac adr w dl dw fs fr ft ns so hv nd du T nr rq nq oq pd er no oc on_ owd obf rb st mt co py hd le pr ra) (hJ : JR sf af cn dl dw fs fr ft ns so hv nd du nr rq nq oq pd er no oc on_ owd obf rb st mt co py hd le pr ra) (hc : cn + 1 < 1000) (hP : ∃ i, i < ns ∧ x = nI i ∧ 0 < dl ∧ r = lkO dl (fun j => nI (dw j)) on_ owd (so i) ∧ ∃ T1, HR ac adr w1 dl dw fs fr ft ns so hv nd du T1 nr rq nq oq pd er no oc on_ owd obf rb st mt co py hd le pr ra) (hN : ∃ i, i < ns ∧ x = nI i ∧ 0 < dl ∧ b = lkM dl (fun j => nI (dw j)) (fun i => on_ (so i)) (fun i => owd (so i)) i ∧ Scr sf af s1 a1) : r = b ∧ JJ ac (22 + 6 * no) adr w1 s1 a1 (cn + 1) := by
  obtain ⟨i, hi, hx, hl, hp, T1, hR1⟩ := hP
  obtain ⟨k, hk, hx2, hl2, hq, hS⟩ := hN
  have h40 := hR.n40
  have e : i = k := (nI_eq (by omega) (by omega)).mp (hx.symm.trans hx2)
  subst e
  exact ⟨hp.trans hq.symm, ⟨_, _, _, _, _, _, _, _, _, _, _, _, _, _, _, _, _, _, _, _, _, _, _, _, _, _, _, _, _, _, _, hR1, hJ.scr hS hc, rfl⟩⟩
theorem z_best {ac : Nat → ClassId} {adr : Nat → Nat} {w w1 : Nat → va_E} {sf s1 : Nat → Int32} {af a1 : Nat → Nat → Int32} {cn : Nat} {dl : Nat} {dw : Nat → Nat} {fs : Nat → Int32} {fr : Nat → Int32} {ft : Nat → Nat} {ns : Nat} {so : Nat → Nat} {hv : Nat → Int64} {nd : Nat} {du : Nat → Nat} {T : Nat → Int32} {nr : Nat} {rq : Nat → Nat} {nq : Nat} {oq : Nat → Nat} {pd : Nat → Int32} {er : Nat → Int32} {no : Nat} {oc : Nat → Nat} {on_ : Nat → Nat} {owd : Nat → Nat → Nat} {obf : Nat → Nat → Int32} {rb : Nat → Int32} {st : Nat → Int32} {mt : Nat → Int32} {co : Nat → Int32} {py : Nat → Int32} {hd : Nat → Option Nat} {le : Int32} {pr : Int32} {ra : Int32} {x : Int32} {r b : Int32} (hR : HR ac adr w dl dw fs fr ft ns so hv nd du T nr rq nq oq pd er no oc on_ owd obf rb st mt co py hd le pr ra) (hP : ∃ k, k < 4 ∧ x = nI k ∧ 0 < dl ∧ r = bstV nd du on_ owd so oc ns (shw hv dw dl) dl (fun j => nI (dw j)) x le ∧ ∃ T1, HR ac adr w1 dl dw fs fr ft ns so hv nd du T1 nr rq nq oq pd er no oc on_ owd obf rb st mt co py hd le pr ra) : cd2 (ix x 4).isNone (decide (dl = 0)) = 0 := by
  obtain ⟨k, hk, hx, hl, -⟩ := hP
  exact cd2_z (ixs hk (by omega) hx) (decide_eq_false (by omega))
theorem t_best {ac : Nat → ClassId} {adr : Nat → Nat} {w w1 : Nat → va_E} {sf s1 : Nat → Int32} {af a1 : Nat → Nat → Int32} {cn : Nat} {dl : Nat} {dw : Nat → Nat} {fs : Nat → Int32} {fr : Nat → Int32} {ft : Nat → Nat} {ns : Nat} {so : Nat → Nat} {hv : Nat → Int64} {nd : Nat} {du : Nat → Nat} {T : Nat → Int32} {nr : Nat} {rq : Nat → Nat} {nq : Nat} {oq : Nat → Nat} {pd : Nat → Int32} {er : Nat → Int32} {no : Nat} {oc : Nat → Nat} {on_ : Nat → Nat} {owd : Nat → Nat → Nat} {obf : Nat → Nat → Int32} {rb : Nat → Int32} {st : Nat → Int32} {mt : Nat → Int32} {co : Nat → Int32} {py : Nat → Int32} {hd : Nat → Option Nat} {le : Int32} {pr : Int32} {ra : Int32} {x : Int32} {r b : Int32} (hR : HR ac adr w dl dw fs fr ft ns so hv nd du T nr rq nq oq pd er no oc on_ owd obf rb st mt co py hd le pr ra) (hJ : JR sf af cn dl dw fs fr ft ns so hv nd du nr rq nq oq pd er no oc on_ owd obf rb st mt co py hd le pr ra) (hc : cn + 1 < 1000) (hP : ∃ k, k < 4 ∧ x = nI k ∧ 0 < dl ∧ r = bstV nd du on_ owd so oc ns (shw hv dw dl) dl (fun j => nI (dw j)) x le ∧ ∃ T1, HR ac adr w1 dl dw fs fr ft ns so hv nd du T1 nr rq nq oq pd er no oc on_ owd obf rb st mt co py hd le pr ra) (hN : ∃ k, k < 4 ∧ x = nI k ∧ 0 < dl ∧ b = (mbs (af 19) (lkM dl (fun j => nI (dw j)) (fun i => on_ (so i)) (fun i => owd (so i))) (owM (fun i => oc (so i)) x) le ns).1 ∧ Scr sf af s1 a1) : r = b ∧ JJ ac (22 + 6 * no) adr w1 s1 a1 (cn + 1) := by
  obtain ⟨k, hk, hx, hl, hp, T1, hR1⟩ := hP
  obtain ⟨k2, hk2, hx2, hl2, hq, hS⟩ := hN
  have h40 := hR.n40
  have h8 : ∀ i, i < ns → on_ (so i) ≤ 8 := fun i hi => (hR.sen (hR.soo hi)).2.1
  have ho50 : ∀ i, i < ns → ∀ j, j < on_ (so i) → owd (so i) j < 50 := fun i hi j hj => (hR.sen (hR.soo hi)).2.2.2 j hj
  have hI := hR.hin
  obtain ⟨cc, -, hL⟩ := hJ.2.2.2.2.2.2.2.1
  have hX := hJ.2.2.2.2.2.2.2.2.2.2.1
  have hle := hJ.2.2.2.2.2.1.2
  have hdl := hR.dl8
  have hdw := hR.dw
  have e := best_all (owd := owd) (so := so) (on_ := on_) (f := (fun j => nI (dw j))) (oc := oc) (cl := x) hL.1 h40 hI.2.1.2 hl hdl h8 hle (am_shw h40 hX hdw ho50)
  exact ⟨hp.trans (e.trans hq.symm), ⟨_, _, _, _, _, _, _, _, _, _, _, _, _, _, _, _, _, _, _, _, _, _, _, _, _, _, _, _, _, _, _, hR1, hJ.scr hS hc, rfl⟩⟩
theorem z_bestByAll {ac : Nat → ClassId} {adr : Nat → Nat} {w w1 : Nat → va_E} {sf s1 : Nat → Int32} {af a1 : Nat → Nat → Int32} {cn : Nat} {dl : Nat} {dw : Nat → Nat} {fs : Nat → Int32} {fr : Nat → Int32} {ft : Nat → Nat} {ns : Nat} {so : Nat → Nat} {hv : Nat → Int64} {nd : Nat} {du : Nat → Nat} {T : Nat → Int32} {nr : Nat} {rq : Nat → Nat} {nq : Nat} {oq : Nat → Nat} {pd : Nat → Int32} {er : Nat → Int32} {no : Nat} {oc : Nat → Nat} {on_ : Nat → Nat} {owd : Nat → Nat → Nat} {obf : Nat → Nat → Int32} {rb : Nat → Int32} {st : Nat → Int32} {mt : Nat → Int32} {co : Nat → Int32} {py : Nat → Int32} {hd : Nat → Option Nat} {le : Int32} {pr : Int32} {ra : Int32} {x : Int32} {r b : Int32} (hR : HR ac adr w dl dw fs fr ft ns so hv nd du T nr rq nq oq pd er no oc on_ owd obf rb st mt co py hd le pr ra) (hP : ∃ k, k < 4 ∧ x = nI k ∧ 0 < dl ∧ r = bstV nd du on_ owd so oc ns (-1) dl (fun j => nI (dw j)) x le ∧ ∃ T1, HR ac adr w1 dl dw fs fr ft ns so hv nd du T1 nr rq nq oq pd er no oc on_ owd obf rb st mt co py hd le pr ra) : cd2 (ix x 4).isNone (decide (dl = 0)) = 0 := by
  obtain ⟨k, hk, hx, hl, -⟩ := hP
  exact cd2_z (ixs hk (by omega) hx) (decide_eq_false (by omega))
theorem t_bestByAll {ac : Nat → ClassId} {adr : Nat → Nat} {w w1 : Nat → va_E} {sf s1 : Nat → Int32} {af a1 : Nat → Nat → Int32} {cn : Nat} {dl : Nat} {dw : Nat → Nat} {fs : Nat → Int32} {fr : Nat → Int32} {ft : Nat → Nat} {ns : Nat} {so : Nat → Nat} {hv : Nat → Int64} {nd : Nat} {du : Nat → Nat} {T : Nat → Int32} {nr : Nat} {rq : Nat → Nat} {nq : Nat} {oq : Nat → Nat} {pd : Nat → Int32} {er : Nat → Int32} {no : Nat} {oc : Nat → Nat} {on_ : Nat → Nat} {owd : Nat → Nat → Nat} {obf : Nat → Nat → Int32} {rb : Nat → Int32} {st : Nat → Int32} {mt : Nat → Int32} {co : Nat → Int32} {py : Nat → Int32} {hd : Nat → Option Nat} {le : Int32} {pr : Int32} {ra : Int32} {x : Int32} {r b : Int32} (hR : HR ac adr w dl dw fs fr ft ns so hv nd du T nr rq nq oq pd er no oc on_ owd obf rb st mt co py hd le pr ra) (hJ : JR sf af cn dl dw fs fr ft ns so hv nd du nr rq nq oq pd er no oc on_ owd obf rb st mt co py hd le pr ra) (hc : cn + 1 < 1000) (hP : ∃ k, k < 4 ∧ x = nI k ∧ 0 < dl ∧ r = bstV nd du on_ owd so oc ns (-1) dl (fun j => nI (dw j)) x le ∧ ∃ T1, HR ac adr w1 dl dw fs fr ft ns so hv nd du T1 nr rq nq oq pd er no oc on_ owd obf rb st mt co py hd le pr ra) (hN : ∃ k, k < 4 ∧ x = nI k ∧ 0 < dl ∧ b = (mbs (af 19) (lkM dl (fun j => nI (dw j)) (fun i => on_ (so i)) (fun i => owd (so i))) (owM (fun i => oc (so i)) x) le ns).1 ∧ Scr sf af s1 a1) : r = b ∧ JJ ac (22 + 6 * no) adr w1 s1 a1 (cn + 1) := by
  obtain ⟨k, hk, hx, hl, hp, T1, hR1⟩ := hP
  obtain ⟨k2, hk2, hx2, hl2, hq, hS⟩ := hN
  have h40 := hR.n40
  have h8 : ∀ i, i < ns → on_ (so i) ≤ 8 := fun i hi => (hR.sen (hR.soo hi)).2.1
  have ho50 : ∀ i, i < ns → ∀ j, j < on_ (so i) → owd (so i) j < 50 := fun i hi j hj => (hR.sen (hR.soo hi)).2.2.2 j hj
  have hI := hR.hin
  obtain ⟨cc, -, hL⟩ := hJ.2.2.2.2.2.2.2.1
  have hX := hJ.2.2.2.2.2.2.2.2.2.2.1
  have hle := hJ.2.2.2.2.2.1.2
  have hdl := hR.dl8
  have hdw := hR.dw
  have e := best_all (owd := owd) (so := so) (on_ := on_) (f := (fun j => nI (dw j))) (oc := oc) (cl := x) hL.1 h40 hI.2.1.2 hl hdl h8 hle (am_all h40)
  exact ⟨hp.trans (e.trans hq.symm), ⟨_, _, _, _, _, _, _, _, _, _, _, _, _, _, _, _, _, _, _, _, _, _, _, _, _, _, _, _, _, _, _, hR1, hJ.scr hS hc, rfl⟩⟩
theorem z_cost {ac : Nat → ClassId} {adr : Nat → Nat} {w w1 : Nat → va_E} {sf s1 : Nat → Int32} {af a1 : Nat → Nat → Int32} {cn : Nat} {dl : Nat} {dw : Nat → Nat} {fs : Nat → Int32} {fr : Nat → Int32} {ft : Nat → Nat} {ns : Nat} {so : Nat → Nat} {hv : Nat → Int64} {nd : Nat} {du : Nat → Nat} {T : Nat → Int32} {nr : Nat} {rq : Nat → Nat} {nq : Nat} {oq : Nat → Nat} {pd : Nat → Int32} {er : Nat → Int32} {no : Nat} {oc : Nat → Nat} {on_ : Nat → Nat} {owd : Nat → Nat → Nat} {obf : Nat → Nat → Int32} {rb : Nat → Int32} {st : Nat → Int32} {mt : Nat → Int32} {co : Nat → Int32} {py : Nat → Int32} {hd : Nat → Option Nat} {le : Int32} {pr : Int32} {ra : Int32} {x z : Int32} {r b : Int32} (hR : HR ac adr w dl dw fs fr ft ns so hv nd du T nr rq nq oq pd er no oc on_ owd obf rb st mt co py hd le pr ra) (hP : ∃ k, k < 4 ∧ x = nI k ∧ 0 < dl ∧ r = cstI (nI dl) pr (shO dl (fun j => nI (dw j)) on_ owd ns so (bstV nd du on_ owd so oc ns (shw hv dw dl) dl (fun j => nI (dw j)) x le)) z ∧ ∃ T1, HR ac adr w1 dl dw fs fr ft ns so hv nd du T1 nr rq nq oq pd er no oc on_ owd obf rb st mt co py hd le pr ra) : cd2 (ix x 4).isNone (decide (dl = 0)) = 0 := by
  obtain ⟨k, hk, hx, hl, -⟩ := hP
  exact cd2_z (ixs hk (by omega) hx) (decide_eq_false (by omega))
theorem t_cost {ac : Nat → ClassId} {adr : Nat → Nat} {w w1 : Nat → va_E} {sf s1 : Nat → Int32} {af a1 : Nat → Nat → Int32} {cn : Nat} {dl : Nat} {dw : Nat → Nat} {fs : Nat → Int32} {fr : Nat → Int32} {ft : Nat → Nat} {ns : Nat} {so : Nat → Nat} {hv : Nat → Int64} {nd : Nat} {du : Nat → Nat} {T : Nat → Int32} {nr : Nat} {rq : Nat → Nat} {nq : Nat} {oq : Nat → Nat} {pd : Nat → Int32} {er : Nat → Int32} {no : Nat} {oc : Nat → Nat} {on_ : Nat → Nat} {owd : Nat → Nat → Nat} {obf : Nat → Nat → Int32} {rb : Nat → Int32} {st : Nat → Int32} {mt : Nat → Int32} {co : Nat → Int32} {py : Nat → Int32} {hd : Nat → Option Nat} {le : Int32} {pr : Int32} {ra : Int32} {x z : Int32} {r b : Int32} (hR : HR ac adr w dl dw fs fr ft ns so hv nd du T nr rq nq oq pd er no oc on_ owd obf rb st mt co py hd le pr ra) (hJ : JR sf af cn dl dw fs fr ft ns so hv nd du nr rq nq oq pd er no oc on_ owd obf rb st mt co py hd le pr ra) (hc : cn + 1 < 1000) (hP : ∃ k, k < 4 ∧ x = nI k ∧ 0 < dl ∧ r = cstI (nI dl) pr (shO dl (fun j => nI (dw j)) on_ owd ns so (bstV nd du on_ owd so oc ns (shw hv dw dl) dl (fun j => nI (dw j)) x le)) z ∧ ∃ T1, HR ac adr w1 dl dw fs fr ft ns so hv nd du T1 nr rq nq oq pd er no oc on_ owd obf rb st mt co py hd le pr ra) (hN : ∃ k, k < 4 ∧ x = nI k ∧ 0 < dl ∧ b = cstI (nI dl) pr (shM dl (fun j => nI (dw j)) (fun i => on_ (so i)) (fun i => owd (so i)) ns (mbs (af 19) (lkM dl (fun j => nI (dw j)) (fun i => on_ (so i)) (fun i => owd (so i))) (owM (fun i => oc (so i)) x) le ns).1) z ∧ Scr sf af s1 a1) : r = b ∧ JJ ac (22 + 6 * no) adr w1 s1 a1 (cn + 1) := by
  obtain ⟨k, hk, hx, hl, hp, T1, hR1⟩ := hP
  obtain ⟨k2, hk2, hx2, hl2, hq, hS⟩ := hN
  have h40 := hR.n40
  have h8 : ∀ i, i < ns → on_ (so i) ≤ 8 := fun i hi => (hR.sen (hR.soo hi)).2.1
  have ho50 : ∀ i, i < ns → ∀ j, j < on_ (so i) → owd (so i) j < 50 := fun i hi j hj => (hR.sen (hR.soo hi)).2.2.2 j hj
  have hI := hR.hin
  obtain ⟨cc, -, hL⟩ := hJ.2.2.2.2.2.2.2.1
  have hX := hJ.2.2.2.2.2.2.2.2.2.2.1
  have hle := hJ.2.2.2.2.2.1.2
  have hdl := hR.dl8
  have hdw := hR.dw
  have e := best_all (owd := owd) (so := so) (on_ := on_) (f := (fun j => nI (dw j))) (oc := oc) (cl := x) hL.1 h40 hI.2.1.2 hl hdl h8 hle (am_shw h40 hX hdw ho50)
  rw [e] at hp
  have e2 := sh_eq (so := so) (on_ := on_) (owd := owd) (f := (fun j => nI (dw j))) (x := (mbs (af 19) (lkM dl (fun j => nI (dw j)) (fun i => on_ (so i)) (fun i => owd (so i))) (owM (fun i => oc (so i)) x) le ns).1) h40 hl hdl h8
  rw [e2] at hq
  exact ⟨hp.trans hq.symm, ⟨_, _, _, _, _, _, _, _, _, _, _, _, _, _, _, _, _, _, _, _, _, _, _, _, _, _, _, _, _, _, _, hR1, hJ.scr hS hc, rfl⟩⟩
