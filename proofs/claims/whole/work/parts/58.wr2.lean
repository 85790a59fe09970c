theorem MTak.sub {af : Nat → Nat → Int32} {hd hd2 : Nat → Option Nat} {on_ on2 : Nat → Nat} {obf obf2 : Nat → Nat → Int32} {mt co py mt2 co2 py2 : Nat → Int32} (h : MTak af hd on_ obf mt co py) (hc : ∀ t o, t < 4 → hd2 t = some o → hd t = some o ∧ on2 o = on_ o ∧ obf2 o = obf o ∧ mt2 o = mt o ∧ co2 o = co o ∧ py2 o = py o) : MTak af hd2 on2 obf2 mt2 co2 py2 := fun t o ht hh => by
  obtain ⟨e0, e1, e2, e3, e4, e5⟩ := hc t o ht hh
  rw [e1, e2, e3, e4, e5]
  exact h t o ht e0
theorem MTak.tr {af a1 : Nat → Nat → Int32} {hd : Nat → Option Nat} {on_ : Nat → Nat} {obf : Nat → Nat → Int32} {mt co py : Nat → Int32} {o k : Nat} {z : Int32} (h : MTak af hd on_ obf mt co py) (h3 : a1 13 = af 13) (h4 : a1 14 = upd (af 14) (8 * o + k) z) (h5 : a1 15 = af 15) (h6 : a1 16 = af 16) (hk : k < 8) (h8 : ∀ t o, t < 4 → hd t = some o → on_ o ≤ 8) : MTak a1 hd on_ (fun x => if x = o then upd (obf o) k z else obf x) mt co py := fun t o2 ht hh => by
  obtain ⟨q1, q2⟩ := h t o2 ht hh
  have q8 := h8 t o2 ht hh
  rw [h3, h4, h5, h6]
  refine ⟨q1, fun j hj => ?_⟩
  by_cases e : o2 = o
  · subst e
    show _ = (if o2 = o2 then upd (obf o2) k z else obf o2) j
    rw [if_pos rfl]
    exact upd_blk (q2 j hj)
  · show _ = (if o2 = o then upd (obf o) k z else obf o2) j
    rw [if_neg e, pk_un (by omega)]
    exact q2 j hj
theorem JTu.st {tu : Nat → Int32} {fr9 bk9 : Int32} {no : Nat} {rb st : Nat → Int32} {nr : Nat} {rq : Nat → Nat} {nq : Nat} {oq : Nat → Nat} {cn o : Nat} {v : Int32} (h : JTu tu fr9 bk9 no rb st nr rq nq oq cn) (hv : ¬ v = -1) : JTu tu fr9 bk9 no rb (va_up st o v) nr rq nq oq (cn + 1) := by
  obtain ⟨h1, h2, h3, h4, h5, h6⟩ := h
  refine ⟨h1, h2, fun o2 ho hs => ?_, fun o2 ho hs => ?_, ⟨by omega, h5.2⟩, ⟨h6.1, by omega⟩⟩
  · by_cases e : o2 = o
    · subst e; rw [va_up_self] at hs; exact absurd hs hv
    · rw [va_up_ne _ _ e] at hs
      exact h3 o2 ho hs
  · by_cases e : o2 = o
    · subst e; rw [va_up_self] at hs; exact absurd hs hv
    · rw [va_up_ne _ _ e] at hs
      exact h4 o2 ho hs
theorem JLs.grow {li : Nat → Int32} {c : Int32} {ns nd : Nat} {du : Nat → Nat} {cc : Nat} (h : JLs li c ns nd du cc) (hdu : ∀ x ∈ lst nd du, x < ns) : JLs li c (ns + 1) nd du cc := by
  obtain ⟨h1, h2, h3, h4, h5, h6⟩ := h
  refine ⟨fun i hi => ?_, fun i hi => h2 i (by omega), h3, h4, h5, h6⟩
  by_cases e : i = ns
  · subst e
    rw [h2 i (Nat.le_refl _)]
    exact ⟨fun q => absurd q (by decide), fun q => by have := hdu i q; omega⟩
  · exact h1 i (by omega)
/-- a hand lays its order down -/
theorem JOr.lay {ns : Nat} {so : Nat → Nat} {no : Nat} {on_ : Nat → Nat} {obf obf2 : Nat → Nat → Int32} {rb st : Nat → Int32} {hd : Nat → Option Nat} {t o ns2 : Nat} {so2 : Nat → Nat} {v : Int32} (h : JOr ns so no on_ obf rb st hd) (ht : t < 4) (hh : hd t = some o) (hv : ∀ t, t < 4 → ¬ v = nI t) (hw : v = -1 → ∀ j, j < on_ o → obf2 o j = -1) (ho : ∀ o2, ¬ o2 = o → obf2 o2 = obf o2) (hs : ∀ i j, i < ns2 → j < ns2 → so2 i = so2 j → i = j) : JOr ns2 so2 no on_ obf2 rb (va_up st o v) (va_up hd t none) := by
  obtain ⟨h1, h2, h3, h4, h5⟩ := h
  refine ⟨fun t2 ht2 => ?_, fun t2 ht2 o2 ho2 q => ?_, fun o2 ho2 q j hj => ?_, h4, hs⟩
  · rw [va_up_ne _ _ (by omega)]; exact h1 t2 ht2
  · by_cases e : o2 = o
    · subst e; rw [va_up_self] at q; exact absurd q (hv t2 ht2)
    · rw [va_up_ne _ _ e] at q
      have h6 := h2 t2 ht2 o2 ho2 q
      rw [va_up_ne _ _ (fun z => by rw [z, hh] at h6; exact e (Option.some.inj h6).symm)]
      exact h6
  · by_cases e : o2 = o
    · subst e; rw [va_up_self] at q; exact hw q j hj
    · rw [va_up_ne _ _ e] at q
      rw [ho o2 e]
      exact h3 o2 ho2 q j hj
theorem vaf {α : Type} {f : Nat → α} {so : Nat → Nat} {ns o i : Nat} : va_up (fun i => f (so i)) ns (f o) i = f (va_up so ns o i) := by
  by_cases e : i = ns
  · subst e; rw [va_up_self, va_up_self]
  · rw [va_up_ne _ _ e, va_up_ne _ _ e]
theorem hd_no {hd : Nat → Option Nat} {t t2 o2 : Nat} (h : va_up hd t none t2 = some o2) : ¬ t2 = t ∧ hd t2 = some o2 := by
  by_cases e : t2 = t
  · subst e; rw [va_up_self] at h; cases h
  · rw [va_up_ne _ _ e] at h; exact ⟨e, h⟩
theorem mdP_base {fr : Nat → Int32} {ft : Nat → Nat} {cl : Nat} {wd : Nat → Nat} {bf : Nat → Int32} {x : Int32} {p q : Nat → Int32} (hcl : cl < 4) (h : ∀ k, k < 4 → p k = q k) : ∀ n, ∀ k, k < 4 → mdP fr ft cl wd bf x p n k = mdP fr ft cl wd bf x q n k := by
  intro n
  induction n with
  | zero => intro k hk; exact h k hk
  | succ n ih =>
    intro k hk
    by_cases e : ast fr cl wd bf n
    · rw [mdP_t e, mdP_t e, ih cl hcl]
      unfold upd
      split
      · rfl
      · exact ih k hk
    · rw [mdP_n e, mdP_n e]
      exact ih k hk
theorem z_translate {ac : Nat → ClassId} {adr : Nat → Nat} {w w1 : Nat → va_E} {sf s1 : Nat → Int32} {af a1 : Nat → Nat → Int32} {cn : Nat} {dl : Nat} {dw : Nat → Nat} {fs : Nat → Int32} {fr : Nat → Int32} {ft : Nat → Nat} {ns : Nat} {so : Nat → Nat} {hv : Nat → Int64} {nd : Nat} {du : Nat → Nat} {T : Nat → Int32} {nr : Nat} {rq : Nat → Nat} {nq : Nat} {oq : Nat → Nat} {pd : Nat → Int32} {er : Nat → Int32} {no : Nat} {oc : Nat → Nat} {on_ : Nat → Nat} {owd : Nat → Nat → Nat} {obf : Nat → Nat → Int32} {rb : Nat → Int32} {st : Nat → Int32} {mt : Nat → Int32} {co : Nat → Int32} {py : Nat → Int32} {hd : Nat → Option Nat} {le : Int32} {pr : Int32} {ra : Int32} {x y z : Int32} {r b : Int32} (hR : HR ac adr w dl dw fs fr ft ns so hv nd du T nr rq nq oq pd er no oc on_ owd obf rb st mt co py hd le pr ra) (hP : ∃ o k, (ix x 4).bind hd = some o ∧ k < on_ o ∧ y = nI k ∧ (ix z 100).isNone = false ∧ r = nI (opn (upd (obf o) k z) (on_ o)) ∧ HR ac adr w1 dl dw fs fr ft ns so hv nd du T nr rq nq oq pd er no oc on_ owd (fun x => if x = o then upd (obf o) k z else obf x) rb st mt co py hd le pr ra) : cd3 ((ix z 100).isNone || (ix x 4).isNone) ((ix x 4).bind hd).isNone (((ix x 4).bind hd).elim true (fun o => (ix y (on_ o)).isNone)) = 0 := by
  obtain ⟨o, k, ho, hk, hy, hz, -⟩ := hP
  obtain ⟨q1, q2, -⟩ := bnd_f ho
  refine cd3_z (by rw [hz, q1]; rfl) q2 ?_
  rw [ho]
  show (ix y (on_ o)).isNone = false
  have h8 := (hR.sen (hR.bnd ho)).2.1
  exact ixs hk (by omega) hy
theorem t_translate {ac : Nat → ClassId} {adr : Nat → Nat} {w w1 : Nat → va_E} {sf s1 : Nat → Int32} {af a1 : Nat → Nat → Int32} {cn : Nat} {dl : Nat} {dw : Nat → Nat} {fs : Nat → Int32} {fr : Nat → Int32} {ft : Nat → Nat} {ns : Nat} {so : Nat → Nat} {hv : Nat → Int64} {nd : Nat} {du : Nat → Nat} {T : Nat → Int32} {nr : Nat} {rq : Nat → Nat} {nq : Nat} {oq : Nat → Nat} {pd : Nat → Int32} {er : Nat → Int32} {no : Nat} {oc : Nat → Nat} {on_ : Nat → Nat} {owd : Nat → Nat → Nat} {obf : Nat → Nat → Int32} {rb : Nat → Int32} {st : Nat → Int32} {mt : Nat → Int32} {co : Nat → Int32} {py : Nat → Int32} {hd : Nat → Option Nat} {le : Int32} {pr : Int32} {ra : Int32} {x y z : Int32} {r b : Int32} (hR : HR ac adr w dl dw fs fr ft ns so hv nd du T nr rq nq oq pd er no oc on_ owd obf rb st mt co py hd le pr ra) (hJ : JR sf af cn dl dw fs fr ft ns so hv nd du nr rq nq oq pd er no oc on_ owd obf rb st mt co py hd le pr ra) (hc : cn + 1 < 1000) (hP : ∃ o k, (ix x 4).bind hd = some o ∧ k < on_ o ∧ y = nI k ∧ (ix z 100).isNone = false ∧ r = nI (opn (upd (obf o) k z) (on_ o)) ∧ HR ac adr w1 dl dw fs fr ft ns so hv nd du T nr rq nq oq pd er no oc on_ owd (fun x => if x = o then upd (obf o) k z else obf x) rb st mt co py hd le pr ra) (hN : ∃ t o k, t < 4 ∧ x = nI t ∧ hd t = some o ∧ k < on_ o ∧ y = nI k ∧ (ix z 100).isNone = false ∧ b = nI (opn (upd (obf o) k z) (on_ o)) ∧ s1 = va_up sf 0 0 ∧ a1 = va_up af 14 (upd (af 14) (8 * o + k) z)) : r = b ∧ JJ ac (22 + 6 * no) adr w1 s1 a1 (cn + 1) := by
  obtain ⟨o, k, ho, hk, hy, hz, hp, hR1⟩ := hP
  obtain ⟨t, o2, k2, ht, hx2, hh, hk2, hy2, hz2, hq, e1, e2⟩ := hN
  have hb := bnd_o ht hx2 hh
  rw [ho] at hb
  cases hb
  have h8 := (hR.sen (hR.bnd ho)).2.1
  have e : k = k2 := (nI_eq (by omega) (by omega)).mp (hy.symm.trans hy2)
  subst e
  subst e1
  subst e2
  obtain ⟨f1, f2, f3, f4⟩ := st_h hR.hin ht hh
  have h88 : ∀ t o, t < 4 → hd t = some o → on_ o ≤ 8 := fun t o ht hh => (hR.sen (hR.hin.2.2.2.2 t o ht hh).1).2.1
  obtain ⟨j1, j2, j3, j4, j5, j6, j7, ⟨cc, j8, j9⟩, j10, j11, j12, j13, j14⟩ := hJ
  exact ⟨hp.trans hq.symm, _, _, _, _, _, _, _, _, _, _, _, _, _, _, _, _, _, _, _, _, _, _, _, _, _, _, _, _, _, _, _, hR1, ⟨j1.t rfl rfl, j2.t rfl, (j3.cg (fun i hi => ⟨rfl, rfl, rfl, if_neg (f1 i hi)⟩)).t rfl rfl rfl rfl rfl, j4.t rfl rfl rfl rfl rfl rfl, j5.tr rfl rfl rfl rfl (by omega) h88, ⟨j6.1.t rfl rfl rfl, j6.2⟩, j7.mono, ⟨cc, by omega, j9⟩, j10.mono, j11, j12, ⟨j13.1, j13.2.1, fun o2 ho2 hs j hj => by show (if o2 = o then upd (obf o) k z else obf o2) j = -1; rw [if_neg (fun z9 : o2 = o => f3 (z9 ▸ hs))]; exact j13.2.2.1 o2 ho2 hs j hj, j13.2.2.2⟩, hc⟩, rfl⟩
theorem z_giveBack {ac : Nat → ClassId} {adr : Nat → Nat} {w w1 : Nat → va_E} {sf s1 : Nat → Int32} {af a1 : Nat → Nat → Int32} {cn : Nat} {dl : Nat} {dw : Nat → Nat} {fs : Nat → Int32} {fr : Nat → Int32} {ft : Nat → Nat} {ns : Nat} {so : Nat → Nat} {hv : Nat → Int64} {nd : Nat} {du : Nat → Nat} {T : Nat → Int32} {nr : Nat} {rq : Nat → Nat} {nq : Nat} {oq : Nat → Nat} {pd : Nat → Int32} {er : Nat → Int32} {no : Nat} {oc : Nat → Nat} {on_ : Nat → Nat} {owd : Nat → Nat → Nat} {obf : Nat → Nat → Int32} {rb : Nat → Int32} {st : Nat → Int32} {mt : Nat → Int32} {co : Nat → Int32} {py : Nat → Int32} {hd : Nat → Option Nat} {le : Int32} {pr : Int32} {ra : Int32} {x : Int32} {r b : Int32} (hR : HR ac adr w dl dw fs fr ft ns so hv nd du T nr rq nq oq pd er no oc on_ owd obf rb st mt co py hd le pr ra) (hP : ∃ t o, t < 4 ∧ x = nI t ∧ hd t = some o ∧ r = nI o ∧ ((rb o = 0 ∧ ∃ d2, lst (nq + 1) d2 = o :: lst nq oq ∧ HR ac adr w1 dl dw fs fr ft ns so hv nd du T nr rq (nq + 1) d2 pd er no oc on_ owd (fun x => if x = o then mixF (on_ o) (fun _ => -1) (obf o) else obf x) rb (va_up st o (-1)) (va_up mt o (-1)) co py (va_up hd t none) le pr ra) ∨ (¬ rb o = 0 ∧ ∃ d2, lst (nr + 1) d2 = o :: lst nr rq ∧ HR ac adr w1 dl dw fs fr ft ns so hv nd du T (nr + 1) d2 nq oq pd er no oc on_ owd (fun x => if x = o then mixF (on_ o) (fun _ => -1) (obf o) else obf x) rb (va_up st o (-1)) (va_up mt o (-1)) co py (va_up hd t none) le pr ra))) : cd2 (ix x 4).isNone ((ix x 4).bind hd).isNone = 0 := by
  obtain ⟨t, o, ht, hx, hh, -⟩ := hP
  have h1 := bnd_o ht hx hh
  obtain ⟨q1, q2, -⟩ := bnd_f h1
  exact cd2_z q1 q2
theorem t_giveBack {ac : Nat → ClassId} {adr : Nat → Nat} {w w1 : Nat → va_E} {sf s1 : Nat → Int32} {af a1 : Nat → Nat → Int32} {cn : Nat} {dl : Nat} {dw : Nat → Nat} {fs : Nat → Int32} {fr : Nat → Int32} {ft : Nat → Nat} {ns : Nat} {so : Nat → Nat} {hv : Nat → Int64} {nd : Nat} {du : Nat → Nat} {T : Nat → Int32} {nr : Nat} {rq : Nat → Nat} {nq : Nat} {oq : Nat → Nat} {pd : Nat → Int32} {er : Nat → Int32} {no : Nat} {oc : Nat → Nat} {on_ : Nat → Nat} {owd : Nat → Nat → Nat} {obf : Nat → Nat → Int32} {rb : Nat → Int32} {st : Nat → Int32} {mt : Nat → Int32} {co : Nat → Int32} {py : Nat → Int32} {hd : Nat → Option Nat} {le : Int32} {pr : Int32} {ra : Int32} {x : Int32} {r b : Int32} (hR : HR ac adr w dl dw fs fr ft ns so hv nd du T nr rq nq oq pd er no oc on_ owd obf rb st mt co py hd le pr ra) (hJ : JR sf af cn dl dw fs fr ft ns so hv nd du nr rq nq oq pd er no oc on_ owd obf rb st mt co py hd le pr ra) (hc : cn + 1 < 1000) (hP : ∃ t o, t < 4 ∧ x = nI t ∧ hd t = some o ∧ r = nI o ∧ ((rb o = 0 ∧ ∃ d2, lst (nq + 1) d2 = o :: lst nq oq ∧ HR ac adr w1 dl dw fs fr ft ns so hv nd du T nr rq (nq + 1) d2 pd er no oc on_ owd (fun x => if x = o then mixF (on_ o) (fun _ => -1) (obf o) else obf x) rb (va_up st o (-1)) (va_up mt o (-1)) co py (va_up hd t none) le pr ra) ∨ (¬ rb o = 0 ∧ ∃ d2, lst (nr + 1) d2 = o :: lst nr rq ∧ HR ac adr w1 dl dw fs fr ft ns so hv nd du T (nr + 1) d2 nq oq pd er no oc on_ owd (fun x => if x = o then mixF (on_ o) (fun _ => -1) (obf o) else obf x) rb (va_up st o (-1)) (va_up mt o (-1)) co py (va_up hd t none) le pr ra))) (hN : ∃ t o, t < 4 ∧ x = nI t ∧ hd t = some o ∧ b = nI o ∧ s1 = va_up (va_up sf 0 0) 7 (sf 7 - 1) ∧ a1 = va_up (va_up af 11 (upd (af 11) o (-1))) 12 (upd (af 12) o (sf 7 - 1))) : r = b ∧ JJ ac (22 + 6 * no) adr w1 s1 a1 (cn + 1) := by
  obtain ⟨t, o, ht, hx, hh, hp, hz⟩ := hP
  obtain ⟨t2, o2, ht2, hx2, hh2, hq, e1, e2⟩ := hN
  have e : t = t2 := (nI_eq (by omega) (by omega)).mp (hx.symm.trans hx2)
  subst e
  rw [hh] at hh2
  cases hh2
  subst e1
  subst e2
  obtain ⟨f1, f2, f3, f4⟩ := st_h hR.hin ht hh
  obtain ⟨j1, j2, j3, j4, j5, j6, j7, ⟨cc, j8, j9⟩, j10, j11, j12, j13, j14⟩ := hJ
  have hcn : cn < 1000 := j14
  rcases hz with ⟨hb, d2, hd2, hR1⟩ | ⟨hb, d2, hd2, hR1⟩
  · exact ⟨hp.trans hq.symm, _, _, _, _, _, _, _, _, _, _, _, _, _, _, _, _, _, _, _, _, _, _, _, _, _, _, _, _, _, _, _, hR1, ⟨j1.t rfl rfl, j2.t rfl, (j3.cg (fun i hi => ⟨rfl, rfl, rfl, if_neg (f1 i hi)⟩)).t rfl rfl rfl rfl rfl, j4.st rfl rfl rfl rfl rfl rfl, (j5.sub (fun t2 o2 ht2 hh2 => by obtain ⟨g1, g2⟩ := hd_no hh2; have g3 : ¬ o2 = o := fun z9 => g1 (f2 t2 ht2 (z9 ▸ g2)); exact ⟨g2, rfl, if_neg g3, va_up_ne _ _ g3, rfl, rfl⟩)).t rfl rfl rfl rfl, ⟨j6.1.t rfl rfl rfl, j6.2⟩, j7.mono, ⟨cc, by omega, j9⟩, j10.back hR.hin hcn f3 (Or.inl ⟨hb, rfl, hd2⟩), j11, j12, j13.lay ht hh (fun t2 ht2 z9 => neg1_nI ht2 z9) (fun _ j hj => by show (if o = o then mixF (on_ o) (fun _ => -1) (obf o) else obf o) j = -1; rw [if_pos rfl]; unfold mixF; rw [if_pos hj]) (fun o2 ho2 => if_neg ho2) j13.2.2.2.2, hc⟩, rfl⟩
  · exact ⟨hp.trans hq.symm, _, _, _, _, _, _, _, _, _, _, _, _, _, _, _, _, _, _, _, _, _, _, _, _, _, _, _, _, _, _, _, hR1, ⟨j1.t rfl rfl, j2.t rfl, (j3.cg (fun i hi => ⟨rfl, rfl, rfl, if_neg (f1 i hi)⟩)).t rfl rfl rfl rfl rfl, j4.st rfl rfl rfl rfl rfl rfl, (j5.sub (fun t2 o2 ht2 hh2 => by obtain ⟨g1, g2⟩ := hd_no hh2; have g3 : ¬ o2 = o := fun z9 => g1 (f2 t2 ht2 (z9 ▸ g2)); exact ⟨g2, rfl, if_neg g3, va_up_ne _ _ g3, rfl, rfl⟩)).t rfl rfl rfl rfl, ⟨j6.1.t rfl rfl rfl, j6.2⟩, j7.mono, ⟨cc, by omega, j9⟩, j10.back hR.hin hcn f3 (Or.inr ⟨hb, hd2, rfl⟩), j11, j12, j13.lay ht hh (fun t2 ht2 z9 => neg1_nI ht2 z9) (fun _ j hj => by show (if o = o then mixF (on_ o) (fun _ => -1) (obf o) else obf o) j = -1; rw [if_pos rfl]; unfold mixF; rw [if_pos hj]) (fun o2 ho2 => if_neg ho2) j13.2.2.2.2, hc⟩, rfl⟩
theorem JOr.order {ns : Nat} {so : Nat → Nat} {no : Nat} {on_ : Nat → Nat} {obf : Nat → Nat → Int32} {rb st : Nat → Int32} {hd : Nat → Option Nat} {dl : Nat} {z : Int32} (h : JOr ns so no on_ obf rb st hd) (hz : z = 0 ∨ z = 1) : JOr ns so (no + 1) (va_up on_ no dl) (va_up obf no (mixF dl (fun _ => -1) (fun _ => 0))) (va_up rb no z) (va_up st no (-1)) hd := by
  obtain ⟨h1, h2, h3, h4, h5⟩ := h
  refine ⟨h1, fun t ht o ho q => ?_, fun o ho q j hj => ?_, fun o => ?_, h5⟩
  · by_cases e : o = no
    · subst e; rw [va_up_self] at q; exact absurd q (fun z9 => neg1_nI ht z9)
    · rw [va_up_ne _ _ e] at q; exact h2 t ht o (by omega) q
  · by_cases e : o = no
    · subst e
      rw [va_up_self] at hj ⊢
      unfold mixF
      rw [if_pos hj]
    · rw [va_up_ne _ _ e] at q hj
      rw [va_up_ne _ _ e]
      exact h3 o (by omega) q j hj
  · by_cases e : o = no
    · subst e; rw [va_up_self]; exact hz
    · rw [va_up_ne _ _ e]; exact h4 o
theorem z_order {ac : Nat → ClassId} {adr : Nat → Nat} {w w1 : Nat → va_E} {sf s1 : Nat → Int32} {af a1 : Nat → Nat → Int32} {cn : Nat} {dl : Nat} {dw : Nat → Nat} {fs : Nat → Int32} {fr : Nat → Int32} {ft : Nat → Nat} {ns : Nat} {so : Nat → Nat} {hv : Nat → Int64} {nd : Nat} {du : Nat → Nat} {T : Nat → Int32} {nr : Nat} {rq : Nat → Nat} {nq : Nat} {oq : Nat → Nat} {pd : Nat → Int32} {er : Nat → Int32} {no : Nat} {oc : Nat → Nat} {on_ : Nat → Nat} {owd : Nat → Nat → Nat} {obf : Nat → Nat → Int32} {rb : Nat → Int32} {st : Nat → Int32} {mt : Nat → Int32} {co : Nat → Int32} {py : Nat → Int32} {hd : Nat → Option Nat} {le : Int32} {pr : Int32} {ra : Int32} {x z : Int32} {r b : Int32}{adr2 : Nat → Nat}  (hR : HR ac adr w dl dw fs fr ft ns so hv nd du T nr rq nq oq pd er no oc on_ owd obf rb st mt co py hd le pr ra) (hP : ∃ k, k < 4 ∧ x = nI k ∧ 0 < dl ∧ no < 60 ∧ r = nI no ∧ (∀ k, k < 22 + 6 * no → adr k = adr2 k) ∧ ((z = 0 ∧ HR ac adr2 w1 dl dw fs fr ft ns so hv nd du T nr rq (nq + 1) (va_up oq nq no) pd er (no + 1) (va_up oc no k) (va_up on_ no dl) (va_up owd no (mixN dl dw)) (va_up obf no (mixF dl (fun _ => -1) (fun _ => 0))) (va_up rb no z) (va_up st no (-1)) (va_up mt no (-1)) (va_up co no 0) (va_up py no 0) hd le pr ra) ∨ (¬ z = 0 ∧ HR ac adr2 w1 dl dw fs fr ft ns so hv nd du T (nr + 1) (va_up rq nr no) nq oq pd er (no + 1) (va_up oc no k) (va_up on_ no dl) (va_up owd no (mixN dl dw)) (va_up obf no (mixF dl (fun _ => -1) (fun _ => 0))) (va_up rb no z) (va_up st no (-1)) (va_up mt no (-1)) (va_up co no 0) (va_up py no 0) hd le pr ra))) : cd2 (ix x 4).isNone (decide (dl = 0) || decide (no = 60)) = 0 := by
  obtain ⟨k, hk, hx, hl, hn, -⟩ := hP
  exact cd2_z (ixs hk (by omega) hx) (by rw [decide_eq_false (show ¬ dl = 0 by omega), decide_eq_false (show ¬ no = 60 by omega)]; rfl)
theorem t_order {ac : Nat → ClassId} {adr : Nat → Nat} {w w1 : Nat → va_E} {sf s1 : Nat → Int32} {af a1 : Nat → Nat → Int32} {cn : Nat} {dl : Nat} {dw : Nat → Nat} {fs : Nat → Int32} {fr : Nat → Int32} {ft : Nat → Nat} {ns : Nat} {so : Nat → Nat} {hv : Nat → Int64} {nd : Nat} {du : Nat → Nat} {T : Nat → Int32} {nr : Nat} {rq : Nat → Nat} {nq : Nat} {oq : Nat → Nat} {pd : Nat → Int32} {er : Nat → Int32} {no : Nat} {oc : Nat → Nat} {on_ : Nat → Nat} {owd : Nat → Nat → Nat} {obf : Nat → Nat → Int32} {rb : Nat → Int32} {st : Nat → Int32} {mt : Nat → Int32} {co : Nat → Int32} {py : Nat → Int32} {hd : Nat → Option Nat} {le : Int32} {pr : Int32} {ra : Int32} {x z : Int32} {r b : Int32}{adr2 : Nat → Nat}  (hz01 : z = 0 ∨ z = 1) (hR : HR ac adr w dl dw fs fr ft ns so hv nd du T nr rq nq oq pd er no oc on_ owd obf rb st mt co py hd le pr ra) (hJ : JR sf af cn dl dw fs fr ft ns so hv nd du nr rq nq oq pd er no oc on_ owd obf rb st mt co py hd le pr ra) (hc : cn + 1 < 1000) (hP : ∃ k, k < 4 ∧ x = nI k ∧ 0 < dl ∧ no < 60 ∧ r = nI no ∧ (∀ k, k < 22 + 6 * no → adr k = adr2 k) ∧ ((z = 0 ∧ HR ac adr2 w1 dl dw fs fr ft ns so hv nd du T nr rq (nq + 1) (va_up oq nq no) pd er (no + 1) (va_up oc no k) (va_up on_ no dl) (va_up owd no (mixN dl dw)) (va_up obf no (mixF dl (fun _ => -1) (fun _ => 0))) (va_up rb no z) (va_up st no (-1)) (va_up mt no (-1)) (va_up co no 0) (va_up py no 0) hd le pr ra) ∨ (¬ z = 0 ∧ HR ac adr2 w1 dl dw fs fr ft ns so hv nd du T (nr + 1) (va_up rq nr no) nq oq pd er (no + 1) (va_up oc no k) (va_up on_ no dl) (va_up owd no (mixN dl dw)) (va_up obf no (mixF dl (fun _ => -1) (fun _ => 0))) (va_up rb no z) (va_up st no (-1)) (va_up mt no (-1)) (va_up co no 0) (va_up py no 0) hd le pr ra))) (hN : ∃ k, k < 4 ∧ x = nI k ∧ 0 < dl ∧ no < 60 ∧ b = nI no ∧ s1 = (va_up (va_up (va_up sf 0 0) 6 (nI (no + 1))) 8 (sf 8 + 1)) ∧ a1 = (va_up (va_up (va_up (va_up (va_up (va_up af 7 (upd (af 7) no (nI k))) 8 (upd (af 8) no (nI dl))) 9 (blk no (mixF dl (af 1) (fun j => af 9 (8 * no + j))) (af 9))) 10 (upd (af 10) no z)) 11 (upd (af 11) no (-1))) 12 (upd (af 12) no (sf 8 + 1)))) : r = b ∧ JJ ac (22 + 6 * no + 6) adr2 w1 s1 a1 (cn + 1) := by
  obtain ⟨k, hk, hx, hl, hn, hp, -, hz⟩ := hP
  obtain ⟨k2, hk2, hx2, hl2, hn2, hq, e1, e2⟩ := hN
  have e : k = k2 := (nI_eq (by omega) (by omega)).mp (hx.symm.trans hx2)
  subst e
  subst e1
  subst e2
  have fs : ∀ i, i < ns → ¬ so i = no := fun i hi z9 => by have := hR.soo hi; omega
  have fh : ∀ t o, t < 4 → hd t = some o → ¬ o = no := fun t o ht hh z9 => by have := (hR.hin.2.2.2.2 t o ht hh).1; omega
  obtain ⟨j1, j2, j3, j4, j5, j6, j7, ⟨cc, j8, j9⟩, j10, j11, j12, j13, j14⟩ := hJ
  have hcn : cn < 1000 := j14
  rcases hz with ⟨hb, hR1⟩ | ⟨hb, hR1⟩
  · exact ⟨hp.trans hq.symm, _, _, _, _, _, _, _, _, _, _, _, _, _, _, _, _, _, _, _, _, _, _, _, _, _, _, _, _, _, _, _, hR1, ⟨j1.t rfl rfl, j2.t rfl, (j3.cg (fun i hi => ⟨va_up_ne _ _ (fs i hi), va_up_ne _ _ (fs i hi), va_up_ne _ _ (fs i hi), va_up_ne _ _ (fs i hi)⟩)).t rfl rfl rfl rfl rfl, j4.push j1 hn hl hk rfl rfl rfl rfl rfl rfl, (j5.cg (fun t o ht hh => ⟨va_up_ne _ _ (fh t o ht hh), va_up_ne _ _ (fh t o ht hh), va_up_ne _ _ (fh t o ht hh), va_up_ne _ _ (fh t o ht hh), va_up_ne _ _ (fh t o ht hh)⟩)).t rfl rfl rfl rfl, ⟨j6.1.t rfl rfl rfl, j6.2⟩, j7.mono, ⟨cc, by omega, j9⟩, j10.put hR.hin hcn (Or.inl ⟨hb, rfl, lst_push⟩), j11, j12.cg (fun i hi => ⟨va_up_ne _ _ (fs i hi), va_up_ne _ _ (fs i hi)⟩), j13.order hz01, hc⟩, by omega⟩
  · exact ⟨hp.trans hq.symm, _, _, _, _, _, _, _, _, _, _, _, _, _, _, _, _, _, _, _, _, _, _, _, _, _, _, _, _, _, _, _, hR1, ⟨j1.t rfl rfl, j2.t rfl, (j3.cg (fun i hi => ⟨va_up_ne _ _ (fs i hi), va_up_ne _ _ (fs i hi), va_up_ne _ _ (fs i hi), va_up_ne _ _ (fs i hi)⟩)).t rfl rfl rfl rfl rfl, j4.push j1 hn hl hk rfl rfl rfl rfl rfl rfl, (j5.cg (fun t o ht hh => ⟨va_up_ne _ _ (fh t o ht hh), va_up_ne _ _ (fh t o ht hh), va_up_ne _ _ (fh t o ht hh), va_up_ne _ _ (fh t o ht hh), va_up_ne _ _ (fh t o ht hh)⟩)).t rfl rfl rfl rfl, ⟨j6.1.t rfl rfl rfl, j6.2⟩, j7.mono, ⟨cc, by omega, j9⟩, j10.put hR.hin hcn (Or.inr ⟨hb, lst_push, rfl⟩), j11, j12.cg (fun i hi => ⟨va_up_ne _ _ (fs i hi), va_up_ne _ _ (fs i hi)⟩), j13.order hz01, hc⟩, by omega⟩
theorem JOr.take {ns : Nat} {so : Nat → Nat} {no : Nat} {on_ : Nat → Nat} {obf obf2 : Nat → Nat → Int32} {rb st : Nat → Int32} {hd : Nat → Option Nat} {k o : Nat} (h : JOr ns so no on_ obf rb st hd) (hk : k < 4) (hh : hd k = none) (ho : ∀ o2, ¬ o2 = o → obf2 o2 = obf o2) : JOr ns so no on_ obf2 rb (va_up st o (nI k)) (va_up hd k (some o)) := by
  obtain ⟨h1, h2, h3, h4, h5⟩ := h
  refine ⟨fun t ht => ?_, fun t ht o2 ho2 q => ?_, fun o2 ho2 q j hj => ?_, h4, h5⟩
  · rw [va_up_ne _ _ (by omega)]; exact h1 t ht
  · by_cases e : o2 = o
    · subst e
      rw [va_up_self] at q
      have e2 : k = t := (nI_eq (by omega) (by omega)).mp q
      subst e2
      rw [va_up_self]
    · rw [va_up_ne _ _ e] at q
      have h6 := h2 t ht o2 ho2 q
      rw [va_up_ne _ _ (fun z => by rw [z, hh] at h6; cases h6)]
      exact h6
  · by_cases e : o2 = o
    · subst e; rw [va_up_self] at q; exact absurd q.symm (fun z => neg1_nI hk z)
    · rw [va_up_ne _ _ e] at q
      rw [ho o2 e]
      exact h3 o2 ho2 q j hj
theorem MTak.take {af a1 : Nat → Nat → Int32} {hd : Nat → Option Nat} {on_ : Nat → Nat} {obf : Nat → Nat → Int32} {mt co py : Nat → Int32} {k o : Nat} {bf bm : Nat → Int32} {m9 c9 p9 : Int32} (h : MTak af hd on_ obf mt co py) (hno : ∀ t, t < 4 → ¬ hd t = some o) (h8 : ∀ t o, t < 4 → hd t = some o → on_ o ≤ 8) (h80 : on_ o ≤ 8) (h3 : a1 13 = upd (af 13) o m9) (h4 : a1 14 = blk o bm (af 14)) (h5 : a1 15 = upd (af 15) o c9) (h6 : a1 16 = upd (af 16) o p9) (hb : ∀ j, j < on_ o → bm j = bf j) : MTak a1 (va_up hd k (some o)) on_ (fun x => if x = o then bf else obf x) (va_up mt o m9) (va_up co o c9) (va_up py o p9) := fun t o2 ht hh => by
  rw [h3, h4, h5, h6]
  by_cases e : o2 = o
  · subst e
    rw [pk_us, pk_us, pk_us, va_up_self, va_up_self, va_up_self]
    refine ⟨⟨rfl, rfl, rfl⟩, fun j hj => ?_⟩
    rw [blk_at (by omega)]
    show _ = (if o2 = o2 then bf else obf o2) j
    rw [if_pos rfl]
    exact hb j hj
  · have h9 : hd t = some o2 := by
      by_cases q : t = k
      · subst q; rw [va_up_self] at hh; exact absurd (Option.some.inj hh).symm e
      · rwa [va_up_ne _ _ q] at hh
    obtain ⟨q1, q2⟩ := h t o2 ht h9
    have q8 := h8 t o2 ht h9
    rw [pk_un e, pk_un e, pk_un e, va_up_ne _ _ e, va_up_ne _ _ e, va_up_ne _ _ e]
    refine ⟨q1, fun j hj => ?_⟩
    rw [blk_ne e (by omega)]
    show _ = (if o2 = o then bf else obf o2) j
    rw [if_neg e]
    exact q2 j hj
theorem ln_eq {on_ : Nat → Nat} {owd : Nat → Nat → Nat} {obf : Nat → Nat → Int32} {ns : Nat} {so : Nat → Nat} {o : Nat} {x : Int32} {g : Nat → Int32} (hw : ∀ j, j < on_ o → obf o j = -1) : ∀ j, j < on_ o → lnM (on_ o) (fun j => nI (owd o j)) (fun i => on_ (so i)) (fun i => owd (so i)) (fun i => obf (so i)) ns (mixF (on_ o) (fun _ => -1) g) x j = lndO on_ owd obf ns so o x j := fun j hj => by
  have hb : ∀ k, k < on_ o → mixF (on_ o) (fun _ => -1) g k = obf o k := fun k hk => by
    unfold mixF
    rw [if_pos hk, hw k hk]
  unfold lnM lndO
  rcases ix x ns with _ | i
  · exact hb j hj
  · exact lend_cg _ _ _ _ _ _ (Nat.le_refl _) hb j hj
theorem z_take {ac : Nat → ClassId} {adr : Nat → Nat} {w w1 : Nat → va_E} {sf s1 : Nat → Int32} {af a1 : Nat → Nat → Int32} {cn : Nat} {dl : Nat} {dw : Nat → Nat} {fs : Nat → Int32} {fr : Nat → Int32} {ft : Nat → Nat} {ns : Nat} {so : Nat → Nat} {hv : Nat → Int64} {nd : Nat} {du : Nat → Nat} {T : Nat → Int32} {nr : Nat} {rq : Nat → Nat} {nq : Nat} {oq : Nat → Nat} {pd : Nat → Int32} {er : Nat → Int32} {no : Nat} {oc : Nat → Nat} {on_ : Nat → Nat} {owd : Nat → Nat → Nat} {obf : Nat → Nat → Int32} {rb : Nat → Int32} {st : Nat → Int32} {mt : Nat → Int32} {co : Nat → Int32} {py : Nat → Int32} {hd : Nat → Option Nat} {le : Int32} {pr : Int32} {ra : Int32} {x : Int32} {r b : Int32} (hR : HR ac adr w dl dw fs fr ft ns so hv nd du T nr rq nq oq pd er no oc on_ owd obf rb st mt co py hd le pr ra) (hP : ∃ k, k < 4 ∧ x = nI k ∧ hd k = none ∧ ((r = -1 ∧ nr = 0 ∧ nq = 0 ∧ w1 = w ∧ True) ∨ (0 < nr ∧ r = nI (rq 0) ∧ ∃ T1 d2, lst (nr - 1) d2 = (lst nr rq).eraseIdx 0 ∧ HR ac adr w1 dl dw fs fr ft ns so hv nd du T1 (nr - 1) d2 nq oq pd er no oc on_ owd (fun x => if x = (rq 0) then lndO on_ owd obf ns so (rq 0) (bstV nd du on_ owd so oc ns (shw hv (owd (rq 0)) (on_ (rq 0))) (on_ (rq 0)) (fun j => nI (owd (rq 0) j)) (nI (oc (rq 0))) le) else obf x) rb (va_up st (rq 0) (nI k)) (va_up mt (rq 0) (bstV nd du on_ owd so oc ns (shw hv (owd (rq 0)) (on_ (rq 0))) (on_ (rq 0)) (fun j => nI (owd (rq 0) j)) (nI (oc (rq 0))) le)) (va_up co (rq 0) (cstI (nI (on_ (rq 0))) pr (shO (on_ (rq 0)) (fun j => nI (owd (rq 0) j)) on_ owd ns so (bstV nd du on_ owd so oc ns (shw hv (owd (rq 0)) (on_ (rq 0))) (on_ (rq 0)) (fun j => nI (owd (rq 0) j)) (nI (oc (rq 0))) le)) (rb (rq 0)))) (va_up py (rq 0) (nI (on_ (rq 0)) * ra * (shO (on_ (rq 0)) (fun j => nI (owd (rq 0) j)) on_ owd ns so (bstV nd du on_ owd so oc ns (shw hv (owd (rq 0)) (on_ (rq 0))) (on_ (rq 0)) (fun j => nI (owd (rq 0) j)) (nI (oc (rq 0))) le)) / 100)) (va_up hd k (some (rq 0))) le pr ra) ∨ (nr = 0 ∧ 0 < nq ∧ r = nI (oq 0) ∧ ∃ T1 d2, lst (nq - 1) d2 = (lst nq oq).eraseIdx 0 ∧ HR ac adr w1 dl dw fs fr ft ns so hv nd du T1 nr rq (nq - 1) d2 pd er no oc on_ owd (fun x => if x = (oq 0) then lndO on_ owd obf ns so (oq 0) (bstV nd du on_ owd so oc ns (shw hv (owd (oq 0)) (on_ (oq 0))) (on_ (oq 0)) (fun j => nI (owd (oq 0) j)) (nI (oc (oq 0))) le) else obf x) rb (va_up st (oq 0) (nI k)) (va_up mt (oq 0) (bstV nd du on_ owd so oc ns (shw hv (owd (oq 0)) (on_ (oq 0))) (on_ (oq 0)) (fun j => nI (owd (oq 0) j)) (nI (oc (oq 0))) le)) (va_up co (oq 0) (cstI (nI (on_ (oq 0))) pr (shO (on_ (oq 0)) (fun j => nI (owd (oq 0) j)) on_ owd ns so (bstV nd du on_ owd so oc ns (shw hv (owd (oq 0)) (on_ (oq 0))) (on_ (oq 0)) (fun j => nI (owd (oq 0) j)) (nI (oc (oq 0))) le)) (rb (oq 0)))) (va_up py (oq 0) (nI (on_ (oq 0)) * ra * (shO (on_ (oq 0)) (fun j => nI (owd (oq 0) j)) on_ owd ns so (bstV nd du on_ owd so oc ns (shw hv (owd (oq 0)) (on_ (oq 0))) (on_ (oq 0)) (fun j => nI (owd (oq 0) j)) (nI (oc (oq 0))) le)) / 100)) (va_up hd k (some (oq 0))) le pr ra))) : cd2 (ix x 4).isNone ((ix x 4).bind hd).isSome = 0 := by
  obtain ⟨k, hk, hx, hh, -⟩ := hP
  refine cd2_z (ixs hk (by omega) hx) ?_
  rw [hx, ix_nI hk (by omega)]
  show (hd k).isSome = false
  rw [hh]
  rfl
theorem t_take {ac : Nat → ClassId} {adr : Nat → Nat} {w w1 : Nat → va_E} {sf s1 : Nat → Int32} {af a1 : Nat → Nat → Int32} {cn : Nat} {dl : Nat} {dw : Nat → Nat} {fs : Nat → Int32} {fr : Nat → Int32} {ft : Nat → Nat} {ns : Nat} {so : Nat → Nat} {hv : Nat → Int64} {nd : Nat} {du : Nat → Nat} {T : Nat → Int32} {nr : Nat} {rq : Nat → Nat} {nq : Nat} {oq : Nat → Nat} {pd : Nat → Int32} {er : Nat → Int32} {no : Nat} {oc : Nat → Nat} {on_ : Nat → Nat} {owd : Nat → Nat → Nat} {obf : Nat → Nat → Int32} {rb : Nat → Int32} {st : Nat → Int32} {mt : Nat → Int32} {co : Nat → Int32} {py : Nat → Int32} {hd : Nat → Option Nat} {le : Int32} {pr : Int32} {ra : Int32} {x : Int32} {r b : Int32} (hR : HR ac adr w dl dw fs fr ft ns so hv nd du T nr rq nq oq pd er no oc on_ owd obf rb st mt co py hd le pr ra) (hJ : JR sf af cn dl dw fs fr ft ns so hv nd du nr rq nq oq pd er no oc on_ owd obf rb st mt co py hd le pr ra) (hc : cn + 1 < 1000) (hP : ∃ k, k < 4 ∧ x = nI k ∧ hd k = none ∧ ((r = -1 ∧ nr = 0 ∧ nq = 0 ∧ w1 = w ∧ True) ∨ (0 < nr ∧ r = nI (rq 0) ∧ ∃ T1 d2, lst (nr - 1) d2 = (lst nr rq).eraseIdx 0 ∧ HR ac adr w1 dl dw fs fr ft ns so hv nd du T1 (nr - 1) d2 nq oq pd er no oc on_ owd (fun x => if x = (rq 0) then lndO on_ owd obf ns so (rq 0) (bstV nd du on_ owd so oc ns (shw hv (owd (rq 0)) (on_ (rq 0))) (on_ (rq 0)) (fun j => nI (owd (rq 0) j)) (nI (oc (rq 0))) le) else obf x) rb (va_up st (rq 0) (nI k)) (va_up mt (rq 0) (bstV nd du on_ owd so oc ns (shw hv (owd (rq 0)) (on_ (rq 0))) (on_ (rq 0)) (fun j => nI (owd (rq 0) j)) (nI (oc (rq 0))) le)) (va_up co (rq 0) (cstI (nI (on_ (rq 0))) pr (shO (on_ (rq 0)) (fun j => nI (owd (rq 0) j)) on_ owd ns so (bstV nd du on_ owd so oc ns (shw hv (owd (rq 0)) (on_ (rq 0))) (on_ (rq 0)) (fun j => nI (owd (rq 0) j)) (nI (oc (rq 0))) le)) (rb (rq 0)))) (va_up py (rq 0) (nI (on_ (rq 0)) * ra * (shO (on_ (rq 0)) (fun j => nI (owd (rq 0) j)) on_ owd ns so (bstV nd du on_ owd so oc ns (shw hv (owd (rq 0)) (on_ (rq 0))) (on_ (rq 0)) (fun j => nI (owd (rq 0) j)) (nI (oc (rq 0))) le)) / 100)) (va_up hd k (some (rq 0))) le pr ra) ∨ (nr = 0 ∧ 0 < nq ∧ r = nI (oq 0) ∧ ∃ T1 d2, lst (nq - 1) d2 = (lst nq oq).eraseIdx 0 ∧ HR ac adr w1 dl dw fs fr ft ns so hv nd du T1 nr rq (nq - 1) d2 pd er no oc on_ owd (fun x => if x = (oq 0) then lndO on_ owd obf ns so (oq 0) (bstV nd du on_ owd so oc ns (shw hv (owd (oq 0)) (on_ (oq 0))) (on_ (oq 0)) (fun j => nI (owd (oq 0) j)) (nI (oc (oq 0))) le) else obf x) rb (va_up st (oq 0) (nI k)) (va_up mt (oq 0) (bstV nd du on_ owd so oc ns (shw hv (owd (oq 0)) (on_ (oq 0))) (on_ (oq 0)) (fun j => nI (owd (oq 0) j)) (nI (oc (oq 0))) le)) (va_up co (oq 0) (cstI (nI (on_ (oq 0))) pr (shO (on_ (oq 0)) (fun j => nI (owd (oq 0) j)) on_ owd ns so (bstV nd du on_ owd so oc ns (shw hv (owd (oq 0)) (on_ (oq 0))) (on_ (oq 0)) (fun j => nI (owd (oq 0) j)) (nI (oc (oq 0))) le)) (rb (oq 0)))) (va_up py (oq 0) (nI (on_ (oq 0)) * ra * (shO (on_ (oq 0)) (fun j => nI (owd (oq 0) j)) on_ owd ns so (bstV nd du on_ owd so oc ns (shw hv (owd (oq 0)) (on_ (oq 0))) (on_ (oq 0)) (fun j => nI (owd (oq 0) j)) (nI (oc (oq 0))) le)) / 100)) (va_up hd k (some (oq 0))) le pr ra))) (hN : ∃ k, k < 4 ∧ x = nI k ∧ hd k = none ∧ ((nxF (af 11) (af 10) (af 12) no = none ∧ b = -1 ∧ Scr sf af s1 a1) ∨ ∃ (o : Nat) (T1 : Nat → Int32), nxF (af 11) (af 10) (af 12) no = some o ∧ b = nI o ∧ s1 = (va_up (va_up sf 0 0) 11 (nI (on_ o))) ∧ a1 = (va_up (va_up (va_up (va_up (va_up (va_up (va_up af 11 (upd (af 11) o (nI k))) 13 (upd (af 13) o ((mbs (af 19) (lkM (on_ o) (fun j => nI (owd o j)) (fun i => on_ (so i)) (fun i => owd (so i))) (owM (fun i => oc (so i)) (nI (oc o))) le ns).1))) 14 (blk o (lnM (on_ o) (fun j => nI (owd o j)) (fun i => on_ (so i)) (fun i => owd (so i)) (fun i => obf (so i)) ns (mixF (on_ o) (fun _ => -1) (fun j => af 14 (8 * o + j))) (mbs (af 19) (lkM (on_ o) (fun j => nI (owd o j)) (fun i => on_ (so i)) (fun i => owd (so i))) (owM (fun i => oc (so i)) (nI (oc o))) le ns).1) (af 14))) 15 (upd (af 15) o (cstI (nI (on_ o)) pr (shM (on_ o) (fun j => nI (owd o j)) (fun i => on_ (so i)) (fun i => owd (so i)) ns (mbs (af 19) (lkM (on_ o) (fun j => nI (owd o j)) (fun i => on_ (so i)) (fun i => owd (so i))) (owM (fun i => oc (so i)) (nI (oc o))) le ns).1) (rb o)))) 16 (upd (af 16) o (nI (on_ o) * ra * (shM (on_ o) (fun j => nI (owd o j)) (fun i => on_ (so i)) (fun i => owd (so i)) ns (mbs (af 19) (lkM (on_ o) (fun j => nI (owd o j)) (fun i => on_ (so i)) (fun i => owd (so i))) (owM (fun i => oc (so i)) (nI (oc o))) le ns).1) / 100))) 22 (mixF (on_ o) (fun j => af 9 (8 * o + j)) (af 22))) 23 T1))) : r = b ∧ JJ ac (22 + 6 * no) adr w1 s1 a1 (cn + 1) := by
  obtain ⟨k, hk, hx, hh, hz⟩ := hP
  obtain ⟨k2, hk2, hx2, hh2, hz2⟩ := hN
  have e : k = k2 := (nI_eq (by omega) (by omega)).mp (hx.symm.trans hx2)
  subst e
  have h40 := hR.n40
  have h8 : ∀ i, i < ns → on_ (so i) ≤ 8 := fun i hi => (hR.sen (hR.soo hi)).2.1
  have ho50 : ∀ i, i < ns → ∀ j, j < on_ (so i) → owd (so i) j < 50 := fun i hi j hj => (hR.sen (hR.soo hi)).2.2.2 j hj
  have hJ0 := hJ
  obtain ⟨j1, j2, j3, j4, j5, j6, j7, ⟨cc, j8, j9⟩, j10, j11, j12, j13, j14⟩ := hJ
  have h1 : nxF (af 11) (af 10) (af 12) no = nxF st rb (af 12) no := nxF_cg no (fun o ho => ⟨(j4.2.2 o ho).2.2.2.1.2, (j4.2.2 o ho).2.2.2.1.1⟩)
  rw [nx_eq j10 hR.hin j13.2.2.2.1] at h1
  rw [h1] at hz2
  rcases hz with ⟨hp, n1, n2, hw, -⟩ | ⟨n1, hp, T1, d2, hd2, hR1⟩ | ⟨n1, n2, hp, T1, d2, hd2, hR1⟩
  · rw [if_neg (by omega), if_neg (by omega)] at hz2
    rcases hz2 with ⟨-, hq, hS⟩ | ⟨o, T2, ho, -⟩
    · subst hw
      exact ⟨hp.trans hq.symm, ⟨_, _, _, _, _, _, _, _, _, _, _, _, _, _, _, _, _, _, _, _, _, _, _, _, _, _, _, _, _, _, _, hR, hJ0.scr hS hc, rfl⟩⟩
    · cases ho
  · rw [if_pos n1] at hz2
    rcases hz2 with ⟨ho, -⟩ | ⟨o, T2, ho, hq, e1, e2⟩
    · cases ho
    · cases ho
      subst e1
      subst e2
      have hI := hR.hin
      have hm : (rq 0) < no ∧ st (rq 0) = -1 := ⟨(hI.2.2.1.2 _ (lst_mem n1)).1, (hI.2.2.1.2 _ (lst_mem n1)).2.1⟩
      obtain ⟨f1, f2⟩ := st_w hI hm.2
      have h80 := (hR.sen hm.1).2.1
      have h88 : ∀ t o, t < 4 → hd t = some o → on_ o ≤ 8 := fun t o ht hh => (hR.sen (hI.2.2.2.2 t o ht hh).1).2.1
      have e8 := best_all (owd := owd) (so := so) (on_ := on_) (f := fun j => nI (owd (rq 0) j)) (oc := oc) (cl := nI (oc (rq 0))) j9.1 h40 hI.2.1.2 (hR.sen hm.1).1 h80 h8 j6.2 (am_shw h40 j12 (hR.sen hm.1).2.2.2 ho50)
      rw [e8] at hR1
      have e9 := sh_eq (so := so) (on_ := on_) (owd := owd) (f := fun j => nI (owd (rq 0) j)) (x := (mbs (af 19) (lkM (on_ (rq 0)) (fun j => nI (owd (rq 0) j)) (fun i => on_ (so i)) (fun i => owd (so i))) (owM (fun i => oc (so i)) (nI (oc (rq 0)))) le ns).1) h40 (hR.sen hm.1).1 h80 h8
      rw [← e9] at hR1
      exact ⟨hp.trans hq.symm, _, _, _, _, _, _, _, _, _, _, _, _, _, _, _, _, _, _, _, _, _, _, _, _, _, _, _, _, _, _, _, hR1, ⟨j1.t rfl rfl, j2.t rfl, (j3.cg (fun i hi => ⟨rfl, rfl, rfl, if_neg (f1 i hi)⟩)).t rfl rfl rfl rfl rfl, j4.st rfl rfl rfl rfl rfl rfl, j5.take f2 h88 h80 rfl rfl rfl rfl (ln_eq (j13.2.2.1 (rq 0) hm.1 hm.2)), ⟨j6.1.t rfl rfl rfl, j6.2⟩, j7.mono, ⟨cc, by omega, j9⟩, j10.take (fun z9 => neg1_nI hk z9.symm) (Or.inl ⟨n1, rfl, hd2, rfl⟩), j11, j12, j13.take hk hh (fun o2 ho2 => if_neg ho2), hc⟩, rfl⟩
  · rw [if_neg (by omega), if_pos n2] at hz2
    rcases hz2 with ⟨ho, -⟩ | ⟨o, T2, ho, hq, e1, e2⟩
    · cases ho
    · cases ho
      subst e1
      subst e2
      have hI := hR.hin
      have hm : (oq 0) < no ∧ st (oq 0) = -1 := ⟨(hI.2.2.2.1.2 _ (lst_mem n2)).1, (hI.2.2.2.1.2 _ (lst_mem n2)).2.1⟩
      obtain ⟨f1, f2⟩ := st_w hI hm.2
      have h80 := (hR.sen hm.1).2.1
      have h88 : ∀ t o, t < 4 → hd t = some o → on_ o ≤ 8 := fun t o ht hh => (hR.sen (hI.2.2.2.2 t o ht hh).1).2.1
      have e8 := best_all (owd := owd) (so := so) (on_ := on_) (f := fun j => nI (owd (oq 0) j)) (oc := oc) (cl := nI (oc (oq 0))) j9.1 h40 hI.2.1.2 (hR.sen hm.1).1 h80 h8 j6.2 (am_shw h40 j12 (hR.sen hm.1).2.2.2 ho50)
      rw [e8] at hR1
      have e9 := sh_eq (so := so) (on_ := on_) (owd := owd) (f := fun j => nI (owd (oq 0) j)) (x := (mbs (af 19) (lkM (on_ (oq 0)) (fun j => nI (owd (oq 0) j)) (fun i => on_ (so i)) (fun i => owd (so i))) (owM (fun i => oc (so i)) (nI (oc (oq 0)))) le ns).1) h40 (hR.sen hm.1).1 h80 h8
      rw [← e9] at hR1
      exact ⟨hp.trans hq.symm, _, _, _, _, _, _, _, _, _, _, _, _, _, _, _, _, _, _, _, _, _, _, _, _, _, _, _, _, _, _, _, hR1, ⟨j1.t rfl rfl, j2.t rfl, (j3.cg (fun i hi => ⟨rfl, rfl, rfl, if_neg (f1 i hi)⟩)).t rfl rfl rfl rfl rfl, j4.st rfl rfl rfl rfl rfl rfl, j5.take f2 h88 h80 rfl rfl rfl rfl (ln_eq (j13.2.2.1 (oq 0) hm.1 hm.2)), ⟨j6.1.t rfl rfl rfl, j6.2⟩, j7.mono, ⟨cc, by omega, j9⟩, j10.take (fun z9 => neg1_nI hk z9.symm) (Or.inr ⟨n2, rfl, rfl, hd2⟩), j11, j12, j13.take hk hh (fun o2 ho2 => if_neg ho2), hc⟩, rfl⟩
theorem JIdx.sell {hv : Nat → Int64} {ns : Nat} {so on_ : Nat → Nat} {owd : Nat → Nat → Nat} {o : Nat} (h : JIdx hv ns (fun i => on_ (so i)) (fun i => owd (so i))) (hn : ns < 40) : JIdx (kpv hv ns (owd o) (on_ o)) (ns + 1) (fun i => on_ (va_up so ns o i)) (fun i => owd (va_up so ns o i)) := fun v hv9 i hi => by
  rw [kpv_b hn hi, h v hv9 i hi]
  by_cases e : i = ns
  · subst e
    show _ ↔ i < i + 1 ∧ ∃ j, j < on_ (va_up so i o i) ∧ owd (va_up so i o i) j = v
    rw [va_up_self]
    exact ⟨fun q => q.elim (fun z => by omega) (fun z => ⟨by omega, z.2⟩), fun q => Or.inr ⟨rfl, q.2⟩⟩
  · show _ ↔ i < ns + 1 ∧ ∃ j, j < on_ (va_up so ns o i) ∧ owd (va_up so ns o i) j = v
    rw [va_up_ne _ _ e]
    exact ⟨fun q => q.elim (fun z => ⟨by omega, z.2⟩) (fun z => absurd z.1 e), fun q => Or.inl ⟨by omega, q.2⟩⟩
theorem so_push {ns o : Nat} {so : Nat → Nat} (h : ∀ i j, i < ns → j < ns → so i = so j → i = j) (f1 : ∀ i, i < ns → ¬ so i = o) : ∀ i j, i < ns + 1 → j < ns + 1 → va_up so ns o i = va_up so ns o j → i = j := fun i j hi hj q => by
  by_cases e : i = ns
  · by_cases e2 : j = ns
    · omega
    · subst e
      rw [va_up_self, va_up_ne _ _ e2] at q
      exact absurd q.symm (f1 j (by omega))
  · by_cases e2 : j = ns
    · subst e2
      rw [va_up_self, va_up_ne _ _ e] at q
      exact absurd q (f1 i (by omega))
    · rw [va_up_ne _ _ e, va_up_ne _ _ e2] at q
      exact h i j (by omega) (by omega) q
theorem z_deliver {ac : Nat → ClassId} {adr : Nat → Nat} {w w1 : Nat → va_E} {sf s1 : Nat → Int32} {af a1 : Nat → Nat → Int32} {cn : Nat} {dl : Nat} {dw : Nat → Nat} {fs : Nat → Int32} {fr : Nat → Int32} {ft : Nat → Nat} {ns : Nat} {so : Nat → Nat} {hv : Nat → Int64} {nd : Nat} {du : Nat → Nat} {T : Nat → Int32} {nr : Nat} {rq : Nat → Nat} {nq : Nat} {oq : Nat → Nat} {pd : Nat → Int32} {er : Nat → Int32} {no : Nat} {oc : Nat → Nat} {on_ : Nat → Nat} {owd : Nat → Nat → Nat} {obf : Nat → Nat → Int32} {rb : Nat → Int32} {st : Nat → Int32} {mt : Nat → Int32} {co : Nat → Int32} {py : Nat → Int32} {hd : Nat → Option Nat} {le : Int32} {pr : Int32} {ra : Int32} {x : Int32} {r b : Int32} (hR : HR ac adr w dl dw fs fr ft ns so hv nd du T nr rq nq oq pd er no oc on_ owd obf rb st mt co py hd le pr ra) (hP : ∃ t o, t < 4 ∧ x = nI t ∧ hd t = some o ∧ dlv (rb o) (on_ o) fr (oc o) (owd o) (obf o) = true ∧ ns < 40 ∧ r = nI ns ∧ ∃ n2 d2, lst n2 d2 = LD2 (fun i => asB fr (oc ((va_up so ns o) i)) (on_ ((va_up so ns o) i)) (owd ((va_up so ns o) i)) (obf ((va_up so ns o) i))) ((lst nd du).filter (fun i => asB fr (oc ((va_up so ns o) i)) (on_ ((va_up so ns o) i)) (owd ((va_up so ns o) i)) (obf ((va_up so ns o) i)))) (ns + 1) ∧ HR ac adr w1 dl dw fs fr ft (ns + 1) (va_up so ns o) (kpv hv ns (owd o) (on_ o)) n2 d2 T nr rq nq oq (upd pd (oc o) (pd (oc o) + co o)) (upd er t (er t + py o)) no oc on_ owd obf rb (va_up st o (-2)) mt co py (va_up hd t none) le pr ra) : cd2 (ix x 4).isNone (((ix x 4).bind hd).elim true (fun o => !dlv (rb o) (on_ o) fr (oc o) (owd o) (obf o) || decide (ns = 40))) = 0 := by
  obtain ⟨t, o, ht, hx, hh, hdv, hn, -⟩ := hP
  refine cd2_z (ixs ht (by omega) hx) ?_
  rw [bnd_o ht hx hh]
  show (!dlv (rb o) (on_ o) fr (oc o) (owd o) (obf o) || decide (ns = 40)) = false
  rw [hdv, decide_eq_false (show ¬ ns = 40 by omega)]
  rfl
theorem t_deliver {ac : Nat → ClassId} {adr : Nat → Nat} {w w1 : Nat → va_E} {sf s1 : Nat → Int32} {af a1 : Nat → Nat → Int32} {cn : Nat} {dl : Nat} {dw : Nat → Nat} {fs : Nat → Int32} {fr : Nat → Int32} {ft : Nat → Nat} {ns : Nat} {so : Nat → Nat} {hv : Nat → Int64} {nd : Nat} {du : Nat → Nat} {T : Nat → Int32} {nr : Nat} {rq : Nat → Nat} {nq : Nat} {oq : Nat → Nat} {pd : Nat → Int32} {er : Nat → Int32} {no : Nat} {oc : Nat → Nat} {on_ : Nat → Nat} {owd : Nat → Nat → Nat} {obf : Nat → Nat → Int32} {rb : Nat → Int32} {st : Nat → Int32} {mt : Nat → Int32} {co : Nat → Int32} {py : Nat → Int32} {hd : Nat → Option Nat} {le : Int32} {pr : Int32} {ra : Int32} {x : Int32} {r b : Int32} (hR : HR ac adr w dl dw fs fr ft ns so hv nd du T nr rq nq oq pd er no oc on_ owd obf rb st mt co py hd le pr ra) (hJ : JR sf af cn dl dw fs fr ft ns so hv nd du nr rq nq oq pd er no oc on_ owd obf rb st mt co py hd le pr ra) (hc : cn + 1 < 1000) (hP : ∃ t o, t < 4 ∧ x = nI t ∧ hd t = some o ∧ dlv (rb o) (on_ o) fr (oc o) (owd o) (obf o) = true ∧ ns < 40 ∧ r = nI ns ∧ ∃ n2 d2, lst n2 d2 = LD2 (fun i => asB fr (oc ((va_up so ns o) i)) (on_ ((va_up so ns o) i)) (owd ((va_up so ns o) i)) (obf ((va_up so ns o) i))) ((lst nd du).filter (fun i => asB fr (oc ((va_up so ns o) i)) (on_ ((va_up so ns o) i)) (owd ((va_up so ns o) i)) (obf ((va_up so ns o) i)))) (ns + 1) ∧ HR ac adr w1 dl dw fs fr ft (ns + 1) (va_up so ns o) (kpv hv ns (owd o) (on_ o)) n2 d2 T nr rq nq oq (upd pd (oc o) (pd (oc o) + co o)) (upd er t (er t + py o)) no oc on_ owd obf rb (va_up st o (-2)) mt co py (va_up hd t none) le pr ra) (hN : ∃ t o, t < 4 ∧ x = nI t ∧ hd t = some o ∧ dlv (rb o) (on_ o) fr (oc o) (owd o) (obf o) = true ∧ ns < 40 ∧ b = nI ns ∧ s1 = (va_up (va_up (va_up (va_up sf 0 0) 5 (nI (ns + 1))) 9 (sf 9 + 1)) 10 ((lsF (fun i => asB fr ((va_up (fun i => oc (so i)) ns (oc o)) i) ((va_up (fun i => on_ (so i)) ns (on_ o)) i) ((va_up (fun i => owd (so i)) ns (owd o)) i) ((va_up (fun i => obf (so i)) ns (obf o)) i)) (af 19) (sf 10) (ns + 1)).2)) ∧ a1 = (va_up (va_up (va_up (va_up (va_up (va_up (va_up (va_up (va_up af 2 (upd (af 2) ns (nI (oc o)))) 3 (upd (af 3) ns (nI (on_ o)))) 4 (blk ns (mixF (on_ o) (fun j => af 9 (8 * o + j)) (fun j => af 4 (8 * ns + j))) (af 4))) 5 (blk ns (mixF (on_ o) (fun j => af 14 (8 * o + j)) (fun j => af 5 (8 * ns + j))) (af 5))) 6 (upd (af 6) ns (sf 9 + 1))) 11 (upd (af 11) o (-2))) 19 ((lsF (fun i => asB fr ((va_up (fun i => oc (so i)) ns (oc o)) i) ((va_up (fun i => on_ (so i)) ns (on_ o)) i) ((va_up (fun i => owd (so i)) ns (owd o)) i) ((va_up (fun i => obf (so i)) ns (obf o)) i)) (af 19) (sf 10) (ns + 1)).1)) 20 (upd (af 20) (oc o) (af 20 (oc o) + co o))) 21 (upd (af 21) t (af 21 t + py o)))) : r = b ∧ JJ ac (22 + 6 * no) adr w1 s1 a1 (cn + 1) := by
  obtain ⟨t, o, ht, hx, hh, hdv, hn, hp, n2, d2, hd2, hR1⟩ := hP
  obtain ⟨t2, o2, ht2, hx2, hh2, hdv2, hn2, hq, e1, e2⟩ := hN
  have e : t = t2 := (nI_eq (by omega) (by omega)).mp (hx.symm.trans hx2)
  subst e
  rw [hh] at hh2
  cases hh2
  have hI := hR.hin
  obtain ⟨f1, f2, f3, f4⟩ := st_h hI ht hh
  have hs := hR.sen f4
  have eP : (fun i => asB fr ((va_up (fun i => oc (so i)) ns (oc o)) i) ((va_up (fun i => on_ (so i)) ns (on_ o)) i) ((va_up (fun i => owd (so i)) ns (owd o)) i) ((va_up (fun i => obf (so i)) ns (obf o)) i)) = (fun i => asB fr (oc ((va_up so ns o) i)) (on_ ((va_up so ns o) i)) (owd ((va_up so ns o) i)) (obf ((va_up so ns o) i))) := funext (fun i => by rw [vaf (f := oc), vaf (f := on_), vaf (f := owd), vaf (f := obf)])
  rw [eP] at e1 e2
  subst e1
  subst e2
  obtain ⟨j1, j2, j3, j4, j5, j6, j7, ⟨cc, j8, j9⟩, j10, j11, j12, j13, j14⟩ := hJ
  have hcn : cn < 1000 := j14
  have hL := lists_eq (j9.grow hI.2.1.2) (by omega) (by omega) hI.2.1.1 (fun x9 hx9 => by have := hI.2.1.2 x9 hx9; omega) hd2
  have hw9 := nwc_le (P := (fun i => asB fr (oc ((va_up so ns o) i)) (on_ ((va_up so ns o) i)) (owd ((va_up so ns o) i)) (obf ((va_up so ns o) i)))) (L := af 19) (ns + 1)
  have hM := MSen.push (s1 := (va_up (va_up (va_up (va_up sf 0 0) 5 (nI (ns + 1))) 9 (sf 9 + 1)) 10 ((lsF (fun i => asB fr (oc ((va_up so ns o) i)) (on_ ((va_up so ns o) i)) (owd ((va_up so ns o) i)) (obf ((va_up so ns o) i))) (af 19) (sf 10) (ns + 1)).2))) (a1 := (va_up (va_up (va_up (va_up (va_up (va_up (va_up (va_up (va_up af 2 (upd (af 2) ns (nI (oc o)))) 3 (upd (af 3) ns (nI (on_ o)))) 4 (blk ns (mixF (on_ o) (fun j => af 9 (8 * o + j)) (fun j => af 4 (8 * ns + j))) (af 4))) 5 (blk ns (mixF (on_ o) (fun j => af 14 (8 * o + j)) (fun j => af 5 (8 * ns + j))) (af 5))) 6 (upd (af 6) ns (sf 9 + 1))) 11 (upd (af 11) o (-2))) 19 ((lsF (fun i => asB fr (oc ((va_up so ns o) i)) (on_ ((va_up so ns o) i)) (owd ((va_up so ns o) i)) (obf ((va_up so ns o) i))) (af 19) (sf 10) (ns + 1)).1)) 20 (upd (af 20) (oc o) (af 20 (oc o) + co o))) 21 (upd (af 21) t (af 21 t + py o)))) j3 hn rfl rfl rfl rfl rfl hs.1 hs.2.1 hs.2.2.1 (j4.2.2 o f4).2.2.2.2 (j5 t o ht hh).2
  exact ⟨hp.trans hq.symm, _, _, _, _, _, _, _, _, _, _, _, _, _, _, _, _, _, _, _, _, _, _, _, _, _, _, _, _, _, _, _, hR1, ⟨j1.t rfl rfl, j2.t rfl, hM.cg (fun i hi => ⟨(vaf (f := oc)).symm, (vaf (f := on_)).symm, (vaf (f := owd)).symm, (vaf (f := obf)).symm⟩), j4.st rfl rfl rfl rfl rfl rfl, (j5.sub (fun t2 o2 ht2 hh2 => ⟨(hd_no hh2).2, rfl, rfl, rfl, rfl, rfl⟩)).t rfl rfl rfl rfl, ⟨j6.1.t rfl rfl rfl, j6.2⟩, j7.sell hn (by omega), ⟨_, by omega, hL⟩, j10.st (by decide), (fun k hk => ⟨by show upd (af 20) (oc o) (af 20 (oc o) + co o) k = upd pd (oc o) (pd (oc o) + co o) k; unfold upd; rw [(j11 k hk).1, (j11 (oc o) hs.2.2.1).1], by show upd (af 21) t (af 21 t + py o) k = upd er t (er t + py o) k; unfold upd; rw [(j11 k hk).2, (j11 t ht).2]⟩), j12.sell hn, j13.lay ht hh (fun t9 ht9 z9 => nIt_n2 ht9 z9.symm) (fun z9 => absurd z9 (by decide)) (fun _ _ => rfl) (so_push j13.2.2.2.2 f1), hc⟩, rfl⟩
theorem z_say {ac : Nat → ClassId} {adr : Nat → Nat} {w w1 : Nat → va_E} {sf s1 : Nat → Int32} {af a1 : Nat → Nat → Int32} {cn : Nat} {dl : Nat} {dw : Nat → Nat} {fs : Nat → Int32} {fr : Nat → Int32} {ft : Nat → Nat} {ns : Nat} {so : Nat → Nat} {hv : Nat → Int64} {nd : Nat} {du : Nat → Nat} {T : Nat → Int32} {nr : Nat} {rq : Nat → Nat} {nq : Nat} {oq : Nat → Nat} {pd : Nat → Int32} {er : Nat → Int32} {no : Nat} {oc : Nat → Nat} {on_ : Nat → Nat} {owd : Nat → Nat → Nat} {obf : Nat → Nat → Int32} {rb : Nat → Int32} {st : Nat → Int32} {mt : Nat → Int32} {co : Nat → Int32} {py : Nat → Int32} {hd : Nat → Option Nat} {le : Int32} {pr : Int32} {ra : Int32} {x y z u : Int32} {r b : Int32} (hR : HR ac adr w dl dw fs fr ft ns so hv nd du T nr rq nq oq pd er no oc on_ owd obf rb st mt co py hd le pr ra) (hP : ∃ t k j, t < 3 ∧ k < 4 ∧ j < 50 ∧ x = nI t ∧ y = nI k ∧ z = nI j ∧ (¬ u < -1 ∧ u < 100) ∧ ∃ n2 d2, lst n2 d2 = LD2 (fun i => asB (sayR fs fr t (k * 50 + j) u) (oc (so i)) (on_ (so i)) (owd (so i)) (obf (so i))) ((lst nd du).filter (fun i => asB (sayR fs fr t (k * 50 + j) u) (oc (so i)) (on_ (so i)) (owd (so i)) (obf (so i)))) ns ∧ r = nI n2 ∧ HR ac adr w1 dl dw (upd fs (t * 200 + (k * 50 + j)) u) (sayR fs fr t (k * 50 + j) u) (sayT fs fr ft ns t (k * 50 + j) u) ns so hv n2 d2 T nr rq nq oq pd er no oc on_ owd obf rb st mt co py hd le pr ra) : cd1 ((ix x 3).isNone || ((ix y 4).isNone || (ix z 50).isNone) || (decide (u < -1) || !decide (u < 100))) = 0 := by
  obtain ⟨t, k, j, ht, hk, hj, hx, hy, hz, hu, -⟩ := hP
  rw [ixs ht (by omega) hx, ixs hk (by omega) hy, ixs hj (by omega) hz, decide_eq_false hu.1, decide_eq_true hu.2]
  rfl
theorem t_say {ac : Nat → ClassId} {adr : Nat → Nat} {w w1 : Nat → va_E} {sf s1 : Nat → Int32} {af a1 : Nat → Nat → Int32} {cn : Nat} {dl : Nat} {dw : Nat → Nat} {fs : Nat → Int32} {fr : Nat → Int32} {ft : Nat → Nat} {ns : Nat} {so : Nat → Nat} {hv : Nat → Int64} {nd : Nat} {du : Nat → Nat} {T : Nat → Int32} {nr : Nat} {rq : Nat → Nat} {nq : Nat} {oq : Nat → Nat} {pd : Nat → Int32} {er : Nat → Int32} {no : Nat} {oc : Nat → Nat} {on_ : Nat → Nat} {owd : Nat → Nat → Nat} {obf : Nat → Nat → Int32} {rb : Nat → Int32} {st : Nat → Int32} {mt : Nat → Int32} {co : Nat → Int32} {py : Nat → Int32} {hd : Nat → Option Nat} {le : Int32} {pr : Int32} {ra : Int32} {x y z u : Int32} {r b : Int32} (hR : HR ac adr w dl dw fs fr ft ns so hv nd du T nr rq nq oq pd er no oc on_ owd obf rb st mt co py hd le pr ra) (hJ : JR sf af cn dl dw fs fr ft ns so hv nd du nr rq nq oq pd er no oc on_ owd obf rb st mt co py hd le pr ra) (hc : cn + 1 < 1000) (hP : ∃ t k j, t < 3 ∧ k < 4 ∧ j < 50 ∧ x = nI t ∧ y = nI k ∧ z = nI j ∧ (¬ u < -1 ∧ u < 100) ∧ ∃ n2 d2, lst n2 d2 = LD2 (fun i => asB (sayR fs fr t (k * 50 + j) u) (oc (so i)) (on_ (so i)) (owd (so i)) (obf (so i))) ((lst nd du).filter (fun i => asB (sayR fs fr t (k * 50 + j) u) (oc (so i)) (on_ (so i)) (owd (so i)) (obf (so i)))) ns ∧ r = nI n2 ∧ HR ac adr w1 dl dw (upd fs (t * 200 + (k * 50 + j)) u) (sayR fs fr t (k * 50 + j) u) (sayT fs fr ft ns t (k * 50 + j) u) ns so hv n2 d2 T nr rq nq oq pd er no oc on_ owd obf rb st mt co py hd le pr ra) (hN : ∃ t k j, t < 3 ∧ k < 4 ∧ j < 50 ∧ x = nI t ∧ y = nI k ∧ z = nI j ∧ b = nI (dnF (lsF (fun i => asB (sayR fs fr t (k * 50 + j) u) (oc (so i)) (on_ (so i)) (owd (so i)) (obf (so i))) (af 19) (sf 10) ns).1 ns) ∧ s1 = (va_up (va_up (va_up sf 0 0) 9 (if sayA fs t (k * 50 + j) u = fr (k * 50 + j) then sf 9 else sf 9 + 1)) 10 ((lsF (fun i => asB (sayR fs fr t (k * 50 + j) u) (oc (so i)) (on_ (so i)) (owd (so i)) (obf (so i))) (af 19) (sf 10) ns).2)) ∧ a1 = (va_up (va_up (va_up af 17 (upd (af 17) (200 * t + (k * 50 + j)) u)) 18 (if sayA fs t (k * 50 + j) u = fr (k * 50 + j) then af 18 else upd (af 18) (k * 50 + j) (sf 9 + 1))) 19 ((lsF (fun i => asB (sayR fs fr t (k * 50 + j) u) (oc (so i)) (on_ (so i)) (owd (so i)) (obf (so i))) (af 19) (sf 10) ns).1))) : r = b ∧ JJ ac (22 + 6 * no) adr w1 s1 a1 (cn + 1) := by
  obtain ⟨t, k, j, ht, hk, hj, hx, hy, hz, hu, n2, d2, hd2, hp, hR1⟩ := hP
  obtain ⟨t2, k2, j2, ht2, hk2, hj2, hx2, hy2, hz2, hq, e1, e2⟩ := hN
  have e : t = t2 := (nI_eq (by omega) (by omega)).mp (hx.symm.trans hx2)
  have e3 : k = k2 := (nI_eq (by omega) (by omega)).mp (hy.symm.trans hy2)
  have e4 : j = j2 := (nI_eq (by omega) (by omega)).mp (hz.symm.trans hz2)
  subst e
  subst e3
  subst e4
  have hI := hR.hin
  have h40 := hR.n40
  subst e1
  subst e2
  obtain ⟨j1, j2, j3, j4, j5, j6, j7, ⟨cc, j8, j9⟩, j10, j11, j12, j13, j14⟩ := hJ
  have hcn : cn < 1000 := j14
  have hL := lists_eq (P := (fun i => asB (sayR fs fr t (k * 50 + j) u) (oc (so i)) (on_ (so i)) (owd (so i)) (obf (so i)))) j9 h40 (by omega) hI.2.1.1 hI.2.1.2 hd2
  have hw9 := nwc_le (P := (fun i => asB (sayR fs fr t (k * 50 + j) u) (oc (so i)) (on_ (so i)) (owd (so i)) (obf (so i)))) (L := af 19) ns
  rw [dn_eq hL hR1.hin.2.1.1 hR1.hin.2.1.2] at hq
  have hmo : JMo (if sayA fs t (k * 50 + j) u = fr (k * 50 + j) then af 18 else upd (af 18) (k * 50 + j) (sf 9 + 1)) (af 6) (if sayA fs t (k * 50 + j) u = fr (k * 50 + j) then sf 9 else sf 9 + 1) ns (sayT fs fr ft ns t (k * 50 + j) u) (cn + 1) := by
    unfold sayT
    by_cases q : sayA fs t (k * 50 + j) u = fr (k * 50 + j)
    · rw [if_pos q, if_pos q, if_pos q]; exact j7.mono
    · rw [if_neg q, if_neg q, if_neg q]; exact j7.rule h40 (by omega)
  exact ⟨hp.trans hq.symm, _, _, _, _, _, _, _, _, _, _, _, _, _, _, _, _, _, _, _, _, _, _, _, _, _, _, _, _, _, _, _, hR1, ⟨j1.t rfl rfl, sayR_at j2 ht hk hj rfl, j3.t rfl rfl rfl rfl rfl, j4.t rfl rfl rfl rfl rfl rfl, j5.t rfl rfl rfl rfl, ⟨j6.1.t rfl rfl rfl, j6.2⟩, hmo, ⟨_, by omega, hL⟩, j10.mono, j11, j12, j13, hc⟩, rfl⟩
theorem z_mend {ac : Nat → ClassId} {adr : Nat → Nat} {w w1 : Nat → va_E} {sf s1 : Nat → Int32} {af a1 : Nat → Nat → Int32} {cn : Nat} {dl : Nat} {dw : Nat → Nat} {fs : Nat → Int32} {fr : Nat → Int32} {ft : Nat → Nat} {ns : Nat} {so : Nat → Nat} {hv : Nat → Int64} {nd : Nat} {du : Nat → Nat} {T : Nat → Int32} {nr : Nat} {rq : Nat → Nat} {nq : Nat} {oq : Nat → Nat} {pd : Nat → Int32} {er : Nat → Int32} {no : Nat} {oc : Nat → Nat} {on_ : Nat → Nat} {owd : Nat → Nat → Nat} {obf : Nat → Nat → Int32} {rb : Nat → Int32} {st : Nat → Int32} {mt : Nat → Int32} {co : Nat → Int32} {py : Nat → Int32} {hd : Nat → Option Nat} {le : Int32} {pr : Int32} {ra : Int32} {x : Int32} {r b : Int32} (hR : HR ac adr w dl dw fs fr ft ns so hv nd du T nr rq nq oq pd er no oc on_ owd obf rb st mt co py hd le pr ra) (hP : ∃ i, i < ns ∧ x = nI i ∧ asB fr (oc (so i)) (on_ (so i)) (owd (so i)) (obf (so i)) = true ∧ r = nI (mdC fr (oc (so i)) (owd (so i)) (obf (so i)) (on_ (so i))) ∧ ∃ n2 d2, lst n2 d2 = LD2 (fun i1 => asB fr (oc (so i1)) (on_ (so i1)) (owd (so i1)) ((fun x => if x = so i then mdB fr (oc (so i)) (owd (so i)) (obf (so i)) (on_ (so i)) else obf x) (so i1))) ((lst nd du).filter (fun i1 => asB fr (oc (so i1)) (on_ (so i1)) (owd (so i1)) ((fun x => if x = so i then mdB fr (oc (so i)) (owd (so i)) (obf (so i)) (on_ (so i)) else obf x) (so i1)))) ns ∧ HR ac adr w1 dl dw fs fr ft ns so hv n2 d2 T nr rq nq oq (mdP fr ft (oc (so i)) (owd (so i)) (obf (so i)) (nI i) pd (on_ (so i))) er no oc on_ owd (fun x => if x = so i then mdB fr (oc (so i)) (owd (so i)) (obf (so i)) (on_ (so i)) else obf x) rb st mt co py hd le pr ra) : cd2 (ix x ns).isNone ((ix x ns).elim true (fun i => !asB fr (oc (so i)) (on_ (so i)) (owd (so i)) (obf (so i)))) = 0 := by
  obtain ⟨i, hi, hx, ha, -⟩ := hP
  have h40 := hR.n40
  refine cd2_z (ixs hi (by omega) hx) ?_
  rw [hx, ix_nI hi (by omega)]
  show (!asB fr (oc (so i)) (on_ (so i)) (owd (so i)) (obf (so i))) = false
  rw [ha]
  rfl
theorem t_mend {ac : Nat → ClassId} {adr : Nat → Nat} {w w1 : Nat → va_E} {sf s1 : Nat → Int32} {af a1 : Nat → Nat → Int32} {cn : Nat} {dl : Nat} {dw : Nat → Nat} {fs : Nat → Int32} {fr : Nat → Int32} {ft : Nat → Nat} {ns : Nat} {so : Nat → Nat} {hv : Nat → Int64} {nd : Nat} {du : Nat → Nat} {T : Nat → Int32} {nr : Nat} {rq : Nat → Nat} {nq : Nat} {oq : Nat → Nat} {pd : Nat → Int32} {er : Nat → Int32} {no : Nat} {oc : Nat → Nat} {on_ : Nat → Nat} {owd : Nat → Nat → Nat} {obf : Nat → Nat → Int32} {rb : Nat → Int32} {st : Nat → Int32} {mt : Nat → Int32} {co : Nat → Int32} {py : Nat → Int32} {hd : Nat → Option Nat} {le : Int32} {pr : Int32} {ra : Int32} {x : Int32} {r b : Int32} (hR : HR ac adr w dl dw fs fr ft ns so hv nd du T nr rq nq oq pd er no oc on_ owd obf rb st mt co py hd le pr ra) (hJ : JR sf af cn dl dw fs fr ft ns so hv nd du nr rq nq oq pd er no oc on_ owd obf rb st mt co py hd le pr ra) (hc : cn + 1 < 1000) (hP : ∃ i, i < ns ∧ x = nI i ∧ asB fr (oc (so i)) (on_ (so i)) (owd (so i)) (obf (so i)) = true ∧ r = nI (mdC fr (oc (so i)) (owd (so i)) (obf (so i)) (on_ (so i))) ∧ ∃ n2 d2, lst n2 d2 = LD2 (fun i1 => asB fr (oc (so i1)) (on_ (so i1)) (owd (so i1)) ((fun x => if x = so i then mdB fr (oc (so i)) (owd (so i)) (obf (so i)) (on_ (so i)) else obf x) (so i1))) ((lst nd du).filter (fun i1 => asB fr (oc (so i1)) (on_ (so i1)) (owd (so i1)) ((fun x => if x = so i then mdB fr (oc (so i)) (owd (so i)) (obf (so i)) (on_ (so i)) else obf x) (so i1)))) ns ∧ HR ac adr w1 dl dw fs fr ft ns so hv n2 d2 T nr rq nq oq (mdP fr ft (oc (so i)) (owd (so i)) (obf (so i)) (nI i) pd (on_ (so i))) er no oc on_ owd (fun x => if x = so i then mdB fr (oc (so i)) (owd (so i)) (obf (so i)) (on_ (so i)) else obf x) rb st mt co py hd le pr ra) (hN : ∃ i, i < ns ∧ x = nI i ∧ asB fr (oc (so i)) (on_ (so i)) (owd (so i)) (obf (so i)) = true ∧ b = nI (mdC fr (oc (so i)) (owd (so i)) (obf (so i)) (on_ (so i))) ∧ s1 = (va_up (va_up sf 0 0) 10 ((lsF (fun i1 => asB fr (oc (so i1)) (on_ (so i1)) (owd (so i1)) ((va_up (fun i => obf (so i)) i (mdB fr (oc (so i)) (owd (so i)) (obf (so i)) (on_ (so i)))) i1)) (af 19) (sf 10) ns).2)) ∧ a1 = (va_up (va_up (va_up af 5 (blk i (mdB fr (oc (so i)) (owd (so i)) (fun j => af 5 (8 * i + j)) (on_ (so i))) (af 5))) 19 ((lsF (fun i1 => asB fr (oc (so i1)) (on_ (so i1)) (owd (so i1)) ((va_up (fun i => obf (so i)) i (mdB fr (oc (so i)) (owd (so i)) (obf (so i)) (on_ (so i)))) i1)) (af 19) (sf 10) ns).1)) 20 (mdP fr ft (oc (so i)) (owd (so i)) (fun j => af 5 (8 * i + j)) (nI i) (af 20) (on_ (so i))))) : r = b ∧ JJ ac (22 + 6 * no) adr w1 s1 a1 (cn + 1) := by
  obtain ⟨i, hi, hx, ha, hp, n2, d2, hd2, hR1⟩ := hP
  obtain ⟨i2, hi2, hx2, ha2, hq, e1, e2⟩ := hN
  have h40 := hR.n40
  have e : i = i2 := (nI_eq (by omega) (by omega)).mp (hx.symm.trans hx2)
  subst e
  have hI := hR.hin
  have hJ0 := hJ.2.2.2.2.2.2.2.2.2.2.2.1.2.2.2.2
  have hpt : ∀ i1, i1 < ns → (va_up (fun i => obf (so i)) i (mdB fr (oc (so i)) (owd (so i)) (obf (so i)) (on_ (so i)))) i1 = (fun x => if x = so i then mdB fr (oc (so i)) (owd (so i)) (obf (so i)) (on_ (so i)) else obf x) (so i1) := fun i1 hi1 => by
    show _ = if so i1 = so i then _ else _
    by_cases q : i1 = i
    · subst q; rw [va_up_self, if_pos rfl]
    · rw [va_up_ne _ _ q, if_neg (fun z9 => q (hJ0 i1 i hi1 hi z9))]
  have eL : lsF (fun i1 => asB fr (oc (so i1)) (on_ (so i1)) (owd (so i1)) ((va_up (fun i => obf (so i)) i (mdB fr (oc (so i)) (owd (so i)) (obf (so i)) (on_ (so i)))) i1)) (af 19) (sf 10) ns = lsF (fun i1 => asB fr (oc (so i1)) (on_ (so i1)) (owd (so i1)) ((fun x => if x = so i then mdB fr (oc (so i)) (owd (so i)) (obf (so i)) (on_ (so i)) else obf x) (so i1))) (af 19) (sf 10) ns := lsF_cg ns (fun i1 hi1 => by show asB _ _ _ _ _ = asB _ _ _ _ _; rw [hpt i1 hi1])
  rw [eL] at e1 e2
  subst e1
  subst e2
  obtain ⟨j1, j2, j3, j4, j5, j6, j7, ⟨cc, j8, j9⟩, j10, j11, j12, j13, j14⟩ := hJ
  have hcn : cn < 1000 := j14
  obtain ⟨g1, g2, g3, g4⟩ := hR.sen (hR.soo hi)
  have hb0 : ∀ j, j < on_ (so i) → af 5 (8 * i + j) = obf (so i) j := fun j hj => ((j3.2.2 i hi).2.2.2 j hj).2.2
  have hL := lists_eq (P := (fun i1 => asB fr (oc (so i1)) (on_ (so i1)) (owd (so i1)) ((fun x => if x = so i then mdB fr (oc (so i)) (owd (so i)) (obf (so i)) (on_ (so i)) else obf x) (so i1)))) j9 h40 (by omega) hI.2.1.1 hI.2.1.2 hd2
  have hw9 := nwc_le (P := (fun i1 => asB fr (oc (so i1)) (on_ (so i1)) (owd (so i1)) ((fun x => if x = so i then mdB fr (oc (so i)) (owd (so i)) (obf (so i)) (on_ (so i)) else obf x) (so i1)))) (L := af 19) ns
  have fw : ∀ o2, st o2 = -1 → ¬ o2 = so i := fun o2 hs z9 => (st_w hI hs).1 i hi z9.symm
  have fh : ∀ t o2, t < 4 → hd t = some o2 → ¬ o2 = so i := fun t o2 ht hh z9 => (st_h hI ht hh).1 i hi z9.symm
  have hM := MSen.bf (s1 := (va_up (va_up sf 0 0) 10 ((lsF (fun i1 => asB fr (oc (so i1)) (on_ (so i1)) (owd (so i1)) ((fun x => if x = so i then mdB fr (oc (so i)) (owd (so i)) (obf (so i)) (on_ (so i)) else obf x) (so i1))) (af 19) (sf 10) ns).2))) (a1 := (va_up (va_up (va_up af 5 (blk i (mdB fr (oc (so i)) (owd (so i)) (fun j => af 5 (8 * i + j)) (on_ (so i))) (af 5))) 19 ((lsF (fun i1 => asB fr (oc (so i1)) (on_ (so i1)) (owd (so i1)) ((fun x => if x = so i then mdB fr (oc (so i)) (owd (so i)) (obf (so i)) (on_ (so i)) else obf x) (so i1))) (af 19) (sf 10) ns).1)) 20 (mdP fr ft (oc (so i)) (owd (so i)) (fun j => af 5 (8 * i + j)) (nI i) (af 20) (on_ (so i))))) (bf := (mdB fr (oc (so i)) (owd (so i)) (obf (so i)) (on_ (so i)))) j3 rfl rfl rfl rfl rfl (fun j hj => mdB_cg (hb0 j hj))
  exact ⟨hp.trans hq.symm, _, _, _, _, _, _, _, _, _, _, _, _, _, _, _, _, _, _, _, _, _, _, _, _, _, _, _, _, _, _, _, hR1, ⟨j1.t rfl rfl, j2.t rfl, hM.cg (fun i1 hi1 => ⟨rfl, rfl, rfl, (hpt i1 hi1).symm⟩), j4.t rfl rfl rfl rfl rfl rfl, (j5.cg (fun t o2 ht hh => ⟨rfl, if_neg (fh t o2 ht hh), rfl, rfl, rfl⟩)).t rfl rfl rfl rfl, ⟨j6.1.t rfl rfl rfl, j6.2⟩, j7.mono, ⟨_, by omega, hL⟩, j10.mono, (fun k hk => ⟨by show mdP fr ft (oc (so i)) (owd (so i)) (fun j => af 5 (8 * i + j)) (nI i) (af 20) (on_ (so i)) k = _; rw [mdP_cg _ hb0]; exact mdP_base g3 (fun k hk => (j11 k hk).1) _ k hk, (j11 k hk).2⟩), j12, ⟨j13.1, j13.2.1, fun o2 ho2 hs j hj => by show (if o2 = so i then mdB fr (oc (so i)) (owd (so i)) (obf (so i)) (on_ (so i)) else obf o2) j = -1; rw [if_neg (fw o2 hs)]; exact j13.2.2.1 o2 ho2 hs j hj, j13.2.2.2⟩, hc⟩, rfl⟩
