theorem z_word {ac : Nat → ClassId} {adr : Nat → Nat} {w w1 : Nat → va_E} {sf s1 : Nat → Int32} {af a1 : Nat → Nat → Int32} {cn : Nat} {dl : Nat} {dw : Nat → Nat} {fs : Nat → Int32} {fr : Nat → Int32} {ft : Nat → Nat} {ns : Nat} {so : Nat → Nat} {hv : Nat → Int64} {nd : Nat} {du : Nat → Nat} {T : Nat → Int32} {nr : Nat} {rq : Nat → Nat} {nq : Nat} {oq : Nat → Nat} {pd : Nat → Int32} {er : Nat → Int32} {no : Nat} {oc : Nat → Nat} {on_ : Nat → Nat} {owd : Nat → Nat → Nat} {obf : Nat → Nat → Int32} {rb : Nat → Int32} {st : Nat → Int32} {mt : Nat → Int32} {co : Nat → Int32} {py : Nat → Int32} {hd : Nat → Option Nat} {le : Int32} {pr : Int32} {ra : Int32} {x : Int32} {r b : Int32} (hR : HR ac adr w dl dw fs fr ft ns so hv nd du T nr rq nq oq pd er no oc on_ owd obf rb st mt co py hd le pr ra) (hP : ∃ k, x = nI k ∧ k < 50 ∧ dl < 8 ∧ r = nI (dl + 1) ∧ HR ac adr w1 (dl + 1) (va_up dw dl k) fs fr ft ns so hv nd du T nr rq nq oq pd er no oc on_ owd obf rb st mt co py hd le pr ra) : cd2 (ix x 50).isNone (decide (dl = 8)) = 0 := by
  obtain ⟨k, hx, hk, hl, -⟩ := hP
  exact cd2_z (ixs hk (by omega) hx) (decide_eq_false (by omega))
theorem t_word {ac : Nat → ClassId} {adr : Nat → Nat} {w w1 : Nat → va_E} {sf s1 : Nat → Int32} {af a1 : Nat → Nat → Int32} {cn : Nat} {dl : Nat} {dw : Nat → Nat} {fs : Nat → Int32} {fr : Nat → Int32} {ft : Nat → Nat} {ns : Nat} {so : Nat → Nat} {hv : Nat → Int64} {nd : Nat} {du : Nat → Nat} {T : Nat → Int32} {nr : Nat} {rq : Nat → Nat} {nq : Nat} {oq : Nat → Nat} {pd : Nat → Int32} {er : Nat → Int32} {no : Nat} {oc : Nat → Nat} {on_ : Nat → Nat} {owd : Nat → Nat → Nat} {obf : Nat → Nat → Int32} {rb : Nat → Int32} {st : Nat → Int32} {mt : Nat → Int32} {co : Nat → Int32} {py : Nat → Int32} {hd : Nat → Option Nat} {le : Int32} {pr : Int32} {ra : Int32} {x : Int32} {r b : Int32} (hR : HR ac adr w dl dw fs fr ft ns so hv nd du T nr rq nq oq pd er no oc on_ owd obf rb st mt co py hd le pr ra) (hJ : JR sf af cn dl dw fs fr ft ns so hv nd du nr rq nq oq pd er no oc on_ owd obf rb st mt co py hd le pr ra) (hc : cn + 1 < 1000) (hP : ∃ k, x = nI k ∧ k < 50 ∧ dl < 8 ∧ r = nI (dl + 1) ∧ HR ac adr w1 (dl + 1) (va_up dw dl k) fs fr ft ns so hv nd du T nr rq nq oq pd er no oc on_ owd obf rb st mt co py hd le pr ra) (hN : ∃ k, x = nI k ∧ k < 50 ∧ dl < 8 ∧ b = nI (dl + 1) ∧ s1 = va_up (va_up sf 0 0) 1 (nI (dl + 1)) ∧ a1 = va_up af 1 (upd (af 1) dl (nI k))) : r = b ∧ JJ ac (22 + 6 * no) adr w1 s1 a1 (cn + 1) := by
  obtain ⟨k, hx, hk, hl, hp, hR1⟩ := hP
  obtain ⟨k2, hx2, hk2, hl2, hq, e1, e2⟩ := hN
  have e : k = k2 := (nI_eq (by omega) (by omega)).mp (hx.symm.trans hx2)
  subst e
  subst e1
  subst e2
  obtain ⟨j1, j2, j3, j4, j5, j6, j7, ⟨cc, j8, j9⟩, j10, j11, j12, j13, j14⟩ := hJ
  exact ⟨hp.trans hq.symm, _, _, _, _, _, _, _, _, _, _, _, _, _, _, _, _, _, _, _, _, _, _, _, _, _, _, _, _, _, _, _, hR1, ⟨j1.push hl hk rfl rfl, j2.t rfl, j3.t rfl rfl rfl rfl rfl, j4.t rfl rfl rfl rfl rfl rfl, j5.t rfl rfl rfl rfl, ⟨j6.1.t rfl rfl rfl, j6.2⟩, j7.mono, ⟨cc, by omega, j9⟩, j10.mono, j11, j12, j13, hc⟩, rfl⟩
theorem t_clear {ac : Nat → ClassId} {adr : Nat → Nat} {w w1 : Nat → va_E} {sf s1 : Nat → Int32} {af a1 : Nat → Nat → Int32} {cn : Nat} {dl : Nat} {dw : Nat → Nat} {fs : Nat → Int32} {fr : Nat → Int32} {ft : Nat → Nat} {ns : Nat} {so : Nat → Nat} {hv : Nat → Int64} {nd : Nat} {du : Nat → Nat} {T : Nat → Int32} {nr : Nat} {rq : Nat → Nat} {nq : Nat} {oq : Nat → Nat} {pd : Nat → Int32} {er : Nat → Int32} {no : Nat} {oc : Nat → Nat} {on_ : Nat → Nat} {owd : Nat → Nat → Nat} {obf : Nat → Nat → Int32} {rb : Nat → Int32} {st : Nat → Int32} {mt : Nat → Int32} {co : Nat → Int32} {py : Nat → Int32} {hd : Nat → Option Nat} {le : Int32} {pr : Int32} {ra : Int32} {r b : Int32} (hR : HR ac adr w dl dw fs fr ft ns so hv nd du T nr rq nq oq pd er no oc on_ owd obf rb st mt co py hd le pr ra) (hJ : JR sf af cn dl dw fs fr ft ns so hv nd du nr rq nq oq pd er no oc on_ owd obf rb st mt co py hd le pr ra) (hc : cn + 1 < 1000) (hP : r = nI dl ∧ HR ac adr w1 0 dw fs fr ft ns so hv nd du T nr rq nq oq pd er no oc on_ owd obf rb st mt co py hd le pr ra) (hN : b = nI dl ∧ s1 = va_up (va_up sf 0 0) 1 0 ∧ a1 = af) : r = b ∧ JJ ac (22 + 6 * no) adr w1 s1 a1 (cn + 1) := by
  obtain ⟨hp, hR1⟩ := hP
  obtain ⟨hq, e1, e2⟩ := hN
  subst e1
  subst e2
  obtain ⟨j1, j2, j3, j4, j5, j6, j7, ⟨cc, j8, j9⟩, j10, j11, j12, j13, j14⟩ := hJ
  exact ⟨hp.trans hq.symm, _, _, _, _, _, _, _, _, _, _, _, _, _, _, _, _, _, _, _, _, _, _, _, _, _, _, _, _, _, _, _, hR1, ⟨⟨rfl, by omega, fun j hj => by omega⟩, j2.t rfl, j3.t rfl rfl rfl rfl rfl, j4.t rfl rfl rfl rfl rfl rfl, j5.t rfl rfl rfl rfl, ⟨j6.1.t rfl rfl rfl, j6.2⟩, j7.mono, ⟨cc, by omega, j9⟩, j10.mono, j11, j12, j13, hc⟩, rfl⟩
theorem t_setPrices {ac : Nat → ClassId} {adr : Nat → Nat} {w w1 : Nat → va_E} {sf s1 : Nat → Int32} {af a1 : Nat → Nat → Int32} {cn : Nat} {dl : Nat} {dw : Nat → Nat} {fs : Nat → Int32} {fr : Nat → Int32} {ft : Nat → Nat} {ns : Nat} {so : Nat → Nat} {hv : Nat → Int64} {nd : Nat} {du : Nat → Nat} {T : Nat → Int32} {nr : Nat} {rq : Nat → Nat} {nq : Nat} {oq : Nat → Nat} {pd : Nat → Int32} {er : Nat → Int32} {no : Nat} {oc : Nat → Nat} {on_ : Nat → Nat} {owd : Nat → Nat → Nat} {obf : Nat → Nat → Int32} {rb : Nat → Int32} {st : Nat → Int32} {mt : Nat → Int32} {co : Nat → Int32} {py : Nat → Int32} {hd : Nat → Option Nat} {le : Int32} {pr : Int32} {ra : Int32} {x y z : Int32} (hR : HR ac adr w dl dw fs fr ft ns so hv nd du T nr rq nq oq pd er no oc on_ owd obf rb st mt co py hd le pr ra) (hJ : JR sf af cn dl dw fs fr ft ns so hv nd du nr rq nq oq pd er no oc on_ owd obf rb st mt co py hd le pr ra) (hc : cn + 1 < 1000) (hP : cd1 (decide (x < 1) || decide (100 < x) || decide (y < 0) || decide (100 < y) || decide (z < 0) || decide (100 < z)) = 0 ∧ HR ac adr w1 dl dw fs fr ft ns so hv nd du T nr rq nq oq pd er no oc on_ owd obf rb st mt co py hd x y z) (hN : s1 = (va_up (va_up (va_up (va_up sf 0 0) 2 x) 3 y) 4 z) ∧ a1 = af) : JJ ac (22 + 6 * no) adr w1 s1 a1 (cn + 1) := by
  obtain ⟨hz, hR1⟩ := hP
  obtain ⟨e1, e2⟩ := hN
  subst e1
  subst e2
  obtain ⟨j1, j2, j3, j4, j5, j6, j7, ⟨cc, j8, j9⟩, j10, j11, j12, j13, j14⟩ := hJ
  have hx1 : 0 < x := by
    have h1 := cd1_0 hz
    simp only [Bool.or_eq_false_iff, decide_eq_false_iff_not] at h1
    have h2 := h1.1.1.1.1.1
    have a1 : (1 : Int32).toInt = 1 := by decide
    rw [i32_lt, a1] at h2
    rw [i32_lt, i32_0]
    omega
  exact ⟨_, _, _, _, _, _, _, _, _, _, _, _, _, _, _, _, _, _, _, _, _, _, _, _, _, _, _, _, _, _, _, hR1, ⟨j1.t rfl rfl, j2.t rfl, j3.t rfl rfl rfl rfl rfl, j4.t rfl rfl rfl rfl rfl rfl, j5.t rfl rfl rfl rfl, ⟨⟨rfl, rfl, rfl⟩, hx1⟩, j7.mono, ⟨cc, by omega, j9⟩, j10.mono, j11, j12, j13, hc⟩, rfl⟩
theorem t_sold {ac : Nat → ClassId} {adr : Nat → Nat} {w w1 : Nat → va_E} {sf s1 : Nat → Int32} {af a1 : Nat → Nat → Int32} {cn : Nat} {dl : Nat} {dw : Nat → Nat} {fs : Nat → Int32} {fr : Nat → Int32} {ft : Nat → Nat} {ns : Nat} {so : Nat → Nat} {hv : Nat → Int64} {nd : Nat} {du : Nat → Nat} {T : Nat → Int32} {nr : Nat} {rq : Nat → Nat} {nq : Nat} {oq : Nat → Nat} {pd : Nat → Int32} {er : Nat → Int32} {no : Nat} {oc : Nat → Nat} {on_ : Nat → Nat} {owd : Nat → Nat → Nat} {obf : Nat → Nat → Int32} {rb : Nat → Int32} {st : Nat → Int32} {mt : Nat → Int32} {co : Nat → Int32} {py : Nat → Int32} {hd : Nat → Option Nat} {le : Int32} {pr : Int32} {ra : Int32} {r b : Int32} (hR : HR ac adr w dl dw fs fr ft ns so hv nd du T nr rq nq oq pd er no oc on_ owd obf rb st mt co py hd le pr ra) (hJ : JR sf af cn dl dw fs fr ft ns so hv nd du nr rq nq oq pd er no oc on_ owd obf rb st mt co py hd le pr ra) (hc : cn + 1 < 1000) (hP : r = nI ns ∧ w1 = w) (hN : b = nI ns ∧ s1 = va_up sf 0 0 ∧ a1 = af) : r = b ∧ JJ ac (22 + 6 * no) adr w1 s1 a1 (cn + 1) := by
  obtain ⟨hp, hw⟩ := hP
  obtain ⟨hq, e1, e2⟩ := hN
  have hS : Scr sf af s1 a1 := (by subst e1; subst e2; exact ⟨fun k9 u1_ u2_ => by simp only [va_up, if_neg u1_], fun k9 u1_ u2_ => rfl⟩)
  subst hw
  exact ⟨hp.trans hq.symm, ⟨_, _, _, _, _, _, _, _, _, _, _, _, _, _, _, _, _, _, _, _, _, _, _, _, _, _, _, _, _, _, _, hR, hJ.scr hS hc, rfl⟩⟩
theorem t_due {ac : Nat → ClassId} {adr : Nat → Nat} {w w1 : Nat → va_E} {sf s1 : Nat → Int32} {af a1 : Nat → Nat → Int32} {cn : Nat} {dl : Nat} {dw : Nat → Nat} {fs : Nat → Int32} {fr : Nat → Int32} {ft : Nat → Nat} {ns : Nat} {so : Nat → Nat} {hv : Nat → Int64} {nd : Nat} {du : Nat → Nat} {T : Nat → Int32} {nr : Nat} {rq : Nat → Nat} {nq : Nat} {oq : Nat → Nat} {pd : Nat → Int32} {er : Nat → Int32} {no : Nat} {oc : Nat → Nat} {on_ : Nat → Nat} {owd : Nat → Nat → Nat} {obf : Nat → Nat → Int32} {rb : Nat → Int32} {st : Nat → Int32} {mt : Nat → Int32} {co : Nat → Int32} {py : Nat → Int32} {hd : Nat → Option Nat} {le : Int32} {pr : Int32} {ra : Int32} {r b : Int32} (hR : HR ac adr w dl dw fs fr ft ns so hv nd du T nr rq nq oq pd er no oc on_ owd obf rb st mt co py hd le pr ra) (hJ : JR sf af cn dl dw fs fr ft ns so hv nd du nr rq nq oq pd er no oc on_ owd obf rb st mt co py hd le pr ra) (hc : cn + 1 < 1000) (hP : r = nI nd ∧ w1 = w) (hN : b = nI (dnF (af 19) ns) ∧ s1 = va_up sf 0 0 ∧ a1 = af) : r = b ∧ JJ ac (22 + 6 * no) adr w1 s1 a1 (cn + 1) := by
  obtain ⟨hp, hw⟩ := hP
  obtain ⟨hq, e1, e2⟩ := hN
  have hS : Scr sf af s1 a1 := (by subst e1; subst e2; exact ⟨fun k9 u1_ u2_ => by simp only [va_up, if_neg u1_], fun k9 u1_ u2_ => rfl⟩)
  obtain ⟨cc, -, hL⟩ := hJ.2.2.2.2.2.2.2.1
  rw [dn_eq hL hR.hin.2.1.1 hR.hin.2.1.2] at hq
  subst hw
  exact ⟨hp.trans hq.symm, ⟨_, _, _, _, _, _, _, _, _, _, _, _, _, _, _, _, _, _, _, _, _, _, _, _, _, _, _, _, _, _, _, hR, hJ.scr hS hc, rfl⟩⟩
theorem t_waiting {ac : Nat → ClassId} {adr : Nat → Nat} {w w1 : Nat → va_E} {sf s1 : Nat → Int32} {af a1 : Nat → Nat → Int32} {cn : Nat} {dl : Nat} {dw : Nat → Nat} {fs : Nat → Int32} {fr : Nat → Int32} {ft : Nat → Nat} {ns : Nat} {so : Nat → Nat} {hv : Nat → Int64} {nd : Nat} {du : Nat → Nat} {T : Nat → Int32} {nr : Nat} {rq : Nat → Nat} {nq : Nat} {oq : Nat → Nat} {pd : Nat → Int32} {er : Nat → Int32} {no : Nat} {oc : Nat → Nat} {on_ : Nat → Nat} {owd : Nat → Nat → Nat} {obf : Nat → Nat → Int32} {rb : Nat → Int32} {st : Nat → Int32} {mt : Nat → Int32} {co : Nat → Int32} {py : Nat → Int32} {hd : Nat → Option Nat} {le : Int32} {pr : Int32} {ra : Int32} {x : Int32} {r b : Int32} (hx9 : x = 0 ∨ x = 1) (hR : HR ac adr w dl dw fs fr ft ns so hv nd du T nr rq nq oq pd er no oc on_ owd obf rb st mt co py hd le pr ra) (hJ : JR sf af cn dl dw fs fr ft ns so hv nd du nr rq nq oq pd er no oc on_ owd obf rb st mt co py hd le pr ra) (hc : cn + 1 < 1000) (hP : r = (if x = 0 then nI nq else nI nr) ∧ w1 = w) (hN : b = nI (wtF (af 11) (af 10) x no) ∧ s1 = va_up sf 0 0 ∧ a1 = af) : r = b ∧ JJ ac (22 + 6 * no) adr w1 s1 a1 (cn + 1) := by
  obtain ⟨hp, hw⟩ := hP
  obtain ⟨hq, e1, e2⟩ := hN
  have hS : Scr sf af s1 a1 := (by subst e1; subst e2; exact ⟨fun k9 u1_ u2_ => by simp only [va_up, if_neg u1_], fun k9 u1_ u2_ => rfl⟩)
  have hO := hJ.2.2.2.1
  have h1 : wtF (af 11) (af 10) x no = wtF st rb x no := wtF_cg no (fun o ho => ⟨(hO.2.2 o ho).2.2.2.1.2, (hO.2.2 o ho).2.2.2.1.1⟩)
  rw [h1, wt_eq hJ.2.2.2.2.2.2.2.2.1 hR.hin hJ.2.2.2.2.2.2.2.2.2.2.2.1.2.2.2.1 hx9] at hq
  have h2 : nI (if x = 0 then nq else nr) = if x = 0 then nI nq else nI nr := by split <;> rfl
  rw [h2] at hq
  subst hw
  exact ⟨hp.trans hq.symm, ⟨_, _, _, _, _, _, _, _, _, _, _, _, _, _, _, _, _, _, _, _, _, _, _, _, _, _, _, _, _, _, _, hR, hJ.scr hS hc, rfl⟩⟩
theorem pu_eq {p e pd er : Nat → Int32} (h : ∀ k, k < 4 → p k = pd k ∧ e k = er k) : puF p e 4 = sm4 pd 4 - sm4 er 4 := by
  simp only [puF, sm4]
  rw [(h 0 (by omega)).1, (h 1 (by omega)).1, (h 2 (by omega)).1, (h 3 (by omega)).1, (h 0 (by omega)).2, (h 1 (by omega)).2, (h 2 (by omega)).2, (h 3 (by omega)).2]
  generalize pd 0 = a0
  generalize pd 1 = a1
  generalize pd 2 = a2
  generalize pd 3 = a3
  generalize er 0 = b0
  generalize er 1 = b1
  generalize er 2 = b2
  generalize er 3 = b3
  clear h
  grind
theorem t_purse {ac : Nat → ClassId} {adr : Nat → Nat} {w w1 : Nat → va_E} {sf s1 : Nat → Int32} {af a1 : Nat → Nat → Int32} {cn : Nat} {dl : Nat} {dw : Nat → Nat} {fs : Nat → Int32} {fr : Nat → Int32} {ft : Nat → Nat} {ns : Nat} {so : Nat → Nat} {hv : Nat → Int64} {nd : Nat} {du : Nat → Nat} {T : Nat → Int32} {nr : Nat} {rq : Nat → Nat} {nq : Nat} {oq : Nat → Nat} {pd : Nat → Int32} {er : Nat → Int32} {no : Nat} {oc : Nat → Nat} {on_ : Nat → Nat} {owd : Nat → Nat → Nat} {obf : Nat → Nat → Int32} {rb : Nat → Int32} {st : Nat → Int32} {mt : Nat → Int32} {co : Nat → Int32} {py : Nat → Int32} {hd : Nat → Option Nat} {le : Int32} {pr : Int32} {ra : Int32} {r b : Int32} (hR : HR ac adr w dl dw fs fr ft ns so hv nd du T nr rq nq oq pd er no oc on_ owd obf rb st mt co py hd le pr ra) (hJ : JR sf af cn dl dw fs fr ft ns so hv nd du nr rq nq oq pd er no oc on_ owd obf rb st mt co py hd le pr ra) (hc : cn + 1 < 1000) (hP : r = sm4 pd 4 - sm4 er 4 ∧ w1 = w) (hN : b = puF (af 20) (af 21) 4 ∧ s1 = va_up sf 0 0 ∧ a1 = af) : r = b ∧ JJ ac (22 + 6 * no) adr w1 s1 a1 (cn + 1) := by
  obtain ⟨hp, hw⟩ := hP
  obtain ⟨hq, e1, e2⟩ := hN
  have hS : Scr sf af s1 a1 := (by subst e1; subst e2; exact ⟨fun k9 u1_ u2_ => by simp only [va_up, if_neg u1_], fun k9 u1_ u2_ => rfl⟩)
  rw [pu_eq hJ.2.2.2.2.2.2.2.2.2.1] at hq
  subst hw
  exact ⟨hp.trans hq.symm, ⟨_, _, _, _, _, _, _, _, _, _, _, _, _, _, _, _, _, _, _, _, _, _, _, _, _, _, _, _, _, _, _, hR, hJ.scr hS hc, rfl⟩⟩
