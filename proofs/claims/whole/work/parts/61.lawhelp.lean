/-- exceptions that others' rows don't take -/
def NCW (U : State) : Prop := va_Nc xIS xIA U ∧ va_Nc xIS xIO U ∧ va_Nc xIO xIA U ∧ va_Nc xIO xIS U
theorem NCW.moved {u U : State} (hvm : u.vm.Alike U.vm) (h : NCW u) : NCW U := ⟨h.1.moved hvm, h.2.1.moved hvm, h.2.2.1.moved hvm, h.2.2.2.moved hvm⟩
abbrev LPre (D : va_G) (ac : Nat → ClassId) (H : Heap) (A : Nat → Prop) (av : List Value) : Array Value → State → Prop := va_Pc av (fun U => U.heap = H ∧ KN D ac U ∧ XQ A U H ∧ NCW U)
theorem LPre.blind {D : va_G} {ac : Nat → ClassId} {H : Heap} {A : Nat → Prop} {av : List Value} : FrameBlind (LPre D ac H A av) := fun a U g mk q => by
  obtain ⟨q0, q1, q2, q3, q4⟩ := q
  exact ⟨q0, q1, q2.call, q3.call, NCW.moved (u := U) (U := U.calling g mk a) (Vm.Alike.refl U.vm) q4⟩
theorem XQ.narrow {A B : Nat → Prop} {U : State} {H : Heap} (h : XQ A U H) (hAB : ∀ q, B q → A q) : XQ B U H := ⟨h.1.narrow hAB, h.2.1.narrow hAB, h.2.2⟩
theorem pSL {s : State} {H : Heap} {D : va_G} {ac : Nat → ClassId} {A : Nat → Prop} {As : List Value} (hK : KN D ac s) (hX : XQ A s H) (hC : NCW s) : PreS s H (LPre D ac H A As) As := ⟨LPre.blind, fun U hU hW => ⟨rfl, hU, hK.warm hW, hX.warm hW, hC.moved hW.alike⟩⟩
/-- the class's cells but the answer's -/
abbrev Abt (A : Nat → Prop) (b : Nat) : Nat → Prop := fun q => A q ∧ ¬ q = b
abbrev OCel (D : va_G) (ac : Nat → ClassId) (H : Heap) (b : Nat) (f : Nat → Int64) : Prop := Cel D H b (.inl (ac 1, 1, .inr (.inl f)))
abbrev HU : Type := Nat × (Nat → Nat) × (Nat → va_E) × (Nat → Int64)
def HB (D : va_G) (ac : Nat → ClassId) (A : Nat → Prop) (b : Nat) (u : HU) (t : State) : Prop := MW D (Abt A b) u.1 u.2.1 u.2.2.1 t.heap ∧ OCel D ac t.heap b u.2.2.2
def HPo (code : Nat) (P : Int32 → Nat → (Nat → Nat) → (Nat → va_E) → Prop) (N : Nat) (adr : Nat → Nat) (w : Nat → va_E) (f : Nat → Int64) (r : Int32) (u : HU) : Prop := (r = 0 ∧ ∃ v : Int32, P v u.1 u.2.1 u.2.2.1 ∧ u.2.2.2 0 = v.toInt64) ∨ (r = nI code ∧ ¬ code = 0 ∧ u = (N, adr, w, f))
def HPv (code : Nat) (P : (Nat → va_E) → Prop) (N : Nat) (adr : Nat → Nat) (w : Nat → va_E) (f : Nat → Int64) (r : Int32) (u : HU) : Prop := (r = 0 ∧ u.1 = N ∧ u.2.1 = adr ∧ P u.2.2.1) ∨ (r = nI code ∧ ¬ code = 0 ∧ u = (N, adr, w, f))
theorem MW.join {D : va_G} {A : Nat → Prop} {N : Nat} {adr : Nat → Nat} {w : Nat → va_E} {H : Heap} {b : Nat} {e : va_E} (h : MW D (Abt A b) N adr w H) (hb : Cel D H b e) (hA : A b) : MW D A (N + 1) (va_up adr N b) (va_up w N e) H := by
  have hP : va_P D vwCl (wn (N + 1) (va_up adr N b) (va_up w N e)) H := fun k q hk => by
    have hl : k < N + 1 := by have := (List.getElem?_eq_some_iff.mp hk).1; rwa [wn_len] at this
    rw [wn_get hl rfl] at hk
    cases hk
    by_cases q : k = N
    · subst q
      rw [va_up_self, va_up_self]
      exact hb
    · rw [va_up_ne _ _ q, va_up_ne _ _ q]
      exact h.cel (by omega) rfl
  refine ⟨hP, fun i j p q hi hj he => ?_, fun k q hk => ?_⟩
  · have hli : i < N + 1 := by have := (List.getElem?_eq_some_iff.mp hi).1; rwa [wn_len] at this
    have hlj : j < N + 1 := by have := (List.getElem?_eq_some_iff.mp hj).1; rwa [wn_len] at this
    rw [wn_get hli rfl] at hi
    rw [wn_get hlj rfl] at hj
    cases hi
    cases hj
    have he : va_up adr N b i = va_up adr N b j := he
    by_cases q : i = N
    · by_cases q2 : j = N
      · omega
      · subst q
        rw [va_up_self, va_up_ne _ _ q2] at he
        exact absurd he.symm (h.own (show j < i by omega)).2
    · by_cases q2 : j = N
      · subst q2
        rw [va_up_self, va_up_ne _ _ q] at he
        exact absurd he (h.own (show i < j by omega)).2
      · rw [va_up_ne _ _ q, va_up_ne _ _ q2] at he
        exact h.inj (by omega) (by omega) he
  · have hl : k < N + 1 := by have := (List.getElem?_eq_some_iff.mp hk).1; rwa [wn_len] at this
    rw [wn_get hl rfl] at hk
    cases hk
    show A (va_up adr N b k)
    by_cases q : k = N
    · subst q; rw [va_up_self]; exact hA
    · rw [va_up_ne _ _ q]; exact (h.own (by omega)).1
theorem MW.unjoin {D : va_G} {A : Nat → Prop} {N : Nat} {adr : Nat → Nat} {w : Nat → va_E} {H : Heap} {b : Nat} {e : va_E} (h : MW D A (N + 1) (va_up adr N b) (va_up w N e) H) : MW D (Abt A b) N adr w H ∧ Cel D H b e := by
  refine ⟨⟨fun k q hk => ?_, fun i j p q hi hj he => ?_, fun k q hk => ?_⟩, ?_⟩
  · have hl : k < N := by have := (List.getElem?_eq_some_iff.mp hk).1; rwa [wn_len] at this
    rw [wn_get hl rfl] at hk
    cases hk
    have h1 := h.cel (show k < N + 1 by omega) rfl
    rw [va_up_ne _ _ (by omega), va_up_ne _ _ (by omega)] at h1
    exact h1
  · have hli : i < N := by have := (List.getElem?_eq_some_iff.mp hi).1; rwa [wn_len] at this
    have hlj : j < N := by have := (List.getElem?_eq_some_iff.mp hj).1; rwa [wn_len] at this
    rw [wn_get hli rfl] at hi
    rw [wn_get hlj rfl] at hj
    cases hi
    cases hj
    have he : adr i = adr j := he
    exact h.inj (by omega) (by omega) (by rw [va_up_ne _ _ (by omega), va_up_ne _ _ (by omega)]; exact he)
  · have hl : k < N := by have := (List.getElem?_eq_some_iff.mp hk).1; rwa [wn_len] at this
    rw [wn_get hl rfl] at hk
    cases hk
    show A (adr k) ∧ ¬ adr k = b
    refine ⟨?_, fun q => ?_⟩
    · have h1 := h.own (show k < N + 1 by omega)
      rwa [va_up_ne _ _ (by omega)] at h1
    · have h1 : k = N := h.inj (show k < N + 1 by omega) (show N < N + 1 by omega) (by rw [va_up_ne _ _ (by omega), va_up_self]; exact q)
      omega
  · have h1 := h.cel (show N < N + 1 by omega) rfl
    rw [va_up_self, va_up_self] at h1
    exact h1
theorem vp_in01 : vp_in 0 1 := vp_in_nI (n := 0) (N := 1) (by omega) (by omega)
section HR_
variable {p : Program} {l : Launch} {e : Env} {R : Room} {s : State} {m : MethodId} {args : Array Value} {below : List Frame} {meth : Method} {c : Code} {H : Heap} {locs : List Loc} {cells slots : Nat} {Q : State → Prop}
variable {cc : ByteArray} {pc : Nat} {ls : Array Slot} {rest : List Value} {D : va_G} {ac : Nat → ClassId} {A : Nat → Prop} {H0 : Heap} {N b : Nat} {adr : Nat → Nat} {w : Nat → va_E} {f : Nat → Int64} {mc ms : Nat}
theorem h_last (hx : p.tables.exec = Jvm.exec) (hb : c.code = cc) (hK : KN D ac s) (hM : MW D (Abt A b) N adr w H) (hb9 : OCel D ac H b f) (hAb : A b) (hS : va_S A H0 H locs) {x : Int64} (hdg : decode cc pc = .ok (.lastore, 1))
    (kk : ∀ (H1 : Heap) (locs1 : List Loc) (f1 : Nat → Int64), MW D (Abt A b) N adr w H1 → OCel D ac H1 b f1 → f1 0 = x → va_S A H0 H1 locs1 → W p l e R s m args below meth c H1 locs1 cells slots Q (F0 m (pc + 1) ls rest)) : W p l e R s m args below meth c H locs cells slots Q (F0 m pc ls (.long x :: .int 0 :: .ref b :: rest)) := by
  have hJ := hM.join hb9 hAb
  have ea : va_up adr N b N = b := va_up_self _ _ _
  have h9 : W p l e R s m args below meth c H locs cells slots Q (F0 m pc ls (.long x :: .int 0 :: .ref (va_up adr N b N) :: rest)) := by
    refine m_last hx hb hK hJ hS N (Nat.lt_succ_self _) (va_up_self _ _ _) vp_in01 hdg (fun H1 locs1 hM1 hS1 => ?_)
    rw [va_up_up] at hM1
    obtain ⟨q1, q2⟩ := hM1.unjoin
    exact kk H1 locs1 _ q1 q2 (by show (vp_updL f (0 : Int32).toNatClampNeg x) 0 = x; exact if_pos rfl) hS1
  rw [ea] at h9
  exact h9
theorem h_lald (hx : p.tables.exec = Jvm.exec) (hb : c.code = cc) (hK : KN D ac s) (hb9 : OCel D ac H b f) (hdg : decode cc pc = .ok (.laload, 1))
    (kk : W p l e R s m args below meth c H locs cells slots Q (F0 m (pc + 1) ls (.long (f 0) :: rest))) : W p l e R s m args below meth c H locs cells slots Q (F0 m pc ls (.int 0 :: .ref b :: rest)) :=
  m_lald hx hb hK hb9 vp_in01 hdg kk
theorem e_h {post : Int32 → HU → Prop} {v : Int32} {u : HU} (hx : p.tables.exec = Jvm.exec) (hb : c.code = cc) (hlocks : meth.locks = false) (hr : meth.sig.returnType = some .int) (hdg : decode cc pc = .ok (.ireturn, 1)) (hc : cells ≤ mc) (hs : slots ≤ ms) (hM : MW D (Abt A b) u.1 u.2.1 u.2.2.1 H) (hO : OCel D ac H b u.2.2.2) (hS : va_S A s.heap H locs) (hp : post v u) : W p l e R s m args below meth c H locs cells slots (MQ below (va_Qi post (HB D ac A b) A) args s mc ms A) (F0 m pc ls [.int v]) :=
  W.widen hc hs (W.iret hx hb hr (fun t ht hW => ⟨⟨v, u, rfl, hp, by show MW D (Abt A b) u.1 u.2.1 u.2.2.1 t.heap ∧ OCel D ac t.heap b u.2.2.2; rw [ht]; exact ⟨hM, hO⟩⟩, hS.F ht⟩) hS.2.2 hdg hlocks)
end HR_
theorem HPo.no {code c : Nat} {P : Int32 → Nat → (Nat → Nat) → (Nat → va_E) → Prop} {N : Nat} {adr : Nat → Nat} {w : Nat → va_E} {f : Nat → Int64} {r : Int32} (hc : code = c) (hn : ¬ c = 0) (hr : r = nI c) : HPo code P N adr w f r (N, adr, w, f) := Or.inr ⟨by rw [hc]; exact hr, by rw [hc]; exact hn, rfl⟩
theorem HPv.no {code c : Nat} {P : (Nat → va_E) → Prop} {N : Nat} {adr : Nat → Nat} {w : Nat → va_E} {f : Nat → Int64} {r : Int32} (hc : code = c) (hn : ¬ c = 0) (hr : r = nI c) : HPv code P N adr w f r (N, adr, w, f) := Or.inr ⟨by rw [hc]; exact hr, by rw [hc]; exact hn, rfl⟩
set_option maxHeartbeats 4000000 in
set_option maxRecDepth 100000 in
/-- the law's helper word -/
theorem kL_word (l : Launch) (D : va_G) (ac : Nat → ClassId) (H : Heap) (A : Nat → Prop) (N : Nat) (adr : Nat → Nat) (w : Nat → va_E) (b : Nat) (f : Nat → Int64) (hM : MW D (Abt A b) N adr w H) (hb9 : OCel D ac H b f) (hAb : A b) (P : Int32 → (Nat → va_E) → Prop) (code : Nat) (x : Int32) (fs0 : List Value) (h0 : Cel D H (adr 0) (.inr (7, fs0))) (hC9 : WXi l yX7_word wsX7_word ({ frames := 6, cells := 1, slots := 6, locals := 89 }) [.ref (adr 0), .int x] D ac H (Abt A b) N adr w P (XC2 xIA xIS code) 1 6) : Met l yL_word wsL_word ({ frames := 7, cells := 1, slots := 6, locals := 110 }) (LPre D ac H A [.ref (adr 0), .int x, .ref b]) (va_Qi (HPo code (fun v N9 a9 w9 => N9 = N ∧ a9 = adr ∧ P v w9) N adr w f) (HB D ac A b) A) 1 6 A := by
  refine va_MetW (cc := cL_word) (maxL := 4) (ret := (some .int)) (hh := [(0, 9, 12, 13), (0, 9, 15, 15)]) (by decide) rfl ?_
  intro p e s m args below meth c s₁ B hml hv
  obtain ⟨hargs, hsz, hK, hX, hC⟩ := hv
  have hx := B.exec
  have hb := B.bytes
  have hr := B.returns
  have hts := atoms_spec (ws := wsL_word) B.pre
  have hown : s.vm.findClass RL = some m.cls := findClass_of_methodNamed B.named
  have hlocks := B.notSynchronized
  have htb := vx_table (x := yL_word) B (hts _ List.mem_cons_self)
  subst hsz
  have hS : va_S A s.heap s.heap [] := va_S.rf
  have hX1 : XQ (Abt A b) s s.heap := hX.narrow (fun q h => h.1)
  have hbl : b < s.heap.size := hb9.lt
  have hl := lv_entry ([.ref (adr 0), .int x, .ref b]) (n := 4) (Nat.le_of_ble_eq_true rfl)
  have hen := lg_entry_eq m [.ref (adr 0), .int x, .ref b] 4
  rw [← hargs] at hen
  rw [hen]
  generalize (lg_sl ([.ref (adr 0), .int x, .ref b]) ++ List.replicate (4 - (lg_sl ([.ref (adr 0), .int x, .ref b])).length) Slot.unset).toArray = ls at hl ⊢
  have hl : lv_has ls 4 [(0, .ref (adr 0)), (1, .int x), (2, .ref b)] := hl
  obtain ⟨Q0, hQ0⟩ : ∃ z, z = MQ below (va_Qi (HPo code (fun v N9 a9 w9 => N9 = N ∧ a9 = adr ∧ P v w9) N adr w f) (HB D ac A b) A) args s 1 6 A := ⟨_, rfl⟩
  rw [← hQ0]
  refine lv_aload_n hx hb dL_word_0 rfl (lv_at hl 2 rfl) ?_
  refine lv_iconst (v := 0) hx hb dL_word_1 (by decide) ?_
  refine lv_aload_n hx hb dL_word_2 rfl (lv_at hl 0 rfl) ?_
  refine lv_iload_n hx hb dL_word_3 rfl (lv_at hl 1 rfl) ?_
  refine vx_calli (vx_runV (As := [.int x]) (rest := [.int 0, .ref b]) ⟨hx, hb, hml, hown, hts⟩ hC9 (cwV 1 hts gL_word_X7_word rfl rfl rfl (by decide +kernel) ⟨(Nat.le_of_ble_eq_true rfl), (Nat.le_of_ble_eq_true rfl)⟩) (pVX hK hX1 (ci := 7) rfl h0) rfl rfl hl.1 rfl (lv_room (Nat.le_of_ble_eq_true rfl)) dL_word_4 ⟨(Nat.le_of_ble_eq_true rfl), (Nat.le_of_ble_eq_true rfl)⟩) hS (fun q _ h => h.1) (fun q h => h.1) (fun q _ h => h.1) (fun E ce q9 uq t H1 locs ht hvm _ hB hz hk hS hcell hv9 hcl => ?_) (fun r uq t H1 locs ht hvm hp hB hz hk hS => ?_)
  · obtain ⟨hE, hM1⟩ := hB
    rw [ht] at hM1
    have hO1 : OCel D ac H1 b f := hb9.kept (hk b hbl (fun q => q.2 rfl))
    rcases hE with ⟨rfl, hcd⟩ | ⟨rfl, hcd⟩
    · refine vx_catch (own := RL) (name := xIA) hown [] ⟨0, 9, 12, 13⟩ [⟨0, 9, 15, 15⟩] (by rw [htb]; rfl) (by intro z hz; cases hz) (by decide) (by decide) (hts (Cond.classLink RL 13 xIA) (by decide +kernel)) (hX.2.2.use (.castable xIA xIA) (by decide +kernel)) hcell hv9 hcl ?_
      refine lv_astore_n (lv' := [(3, .ref q9), (0, .ref (adr 0)), (1, .int x), (2, .ref b)]) hx hb dL_word_12 rfl hl (by decide) rfl (fun ls hl => ?_)
      refine lv_iconst (v := 1) hx hb dL_word_13 (by decide) ?_
      rw [hQ0]
      exact e_h (u := (N, adr, w, f)) hx hb hlocks hr dL_word_14 (Nat.le_of_ble_eq_true rfl) (Nat.le_of_ble_eq_true rfl) hM1 hO1 hS (HPo.no (c := 1) hcd (by decide) rfl)
    · refine vx_catch (own := RL) (name := xIS) hown [⟨0, 9, 12, 13⟩] ⟨0, 9, 15, 15⟩ [] (by rw [htb]; rfl) (by intro z hz; simp only [List.mem_cons, List.not_mem_nil, or_false] at hz; rcases hz with rfl <;> first | exact Or.inr ⟨by decide, xIA, hts (Cond.classLink RL 13 xIA) (by decide +kernel), hC.1⟩) (by decide) (by decide) (hts (Cond.classLink RL 15 xIS) (by decide +kernel)) (hX.2.2.use (.castable xIS xIS) (by decide +kernel)) hcell hv9 hcl ?_
      refine lv_astore_n (lv' := [(3, .ref q9), (0, .ref (adr 0)), (1, .int x), (2, .ref b)]) hx hb dL_word_15 rfl hl (by decide) rfl (fun ls hl => ?_)
      refine lv_iconst (v := 2) hx hb dL_word_16 (by decide) ?_
      rw [hQ0]
      exact e_h (u := (N, adr, w, f)) hx hb hlocks hr dL_word_17 (Nat.le_of_ble_eq_true rfl) (Nat.le_of_ble_eq_true rfl) hM1 hO1 hS (HPo.no (c := 2) hcd (by decide) rfl)
  · rw [ht] at hB
    have hO1 : OCel D ac H1 b f := hb9.kept (hk b hbl (fun q => q.2 rfl))
    refine lv_i2l (v := r.toInt64) hx hb dL_word_7 rfl ?_
    refine h_last hx hb hK hB hO1 hAb hS dL_word_8 (fun H1 locs f1 hB hO1 hf1 hS => ?_)
    refine lv_goto (tgt := 18) hx hb dL_word_9 (by decide) ?_
    refine lv_iconst (v := 0) hx hb dL_word_18 (by decide) ?_
    rw [hQ0]
    exact e_h (u := (N, adr, uq, f1)) hx hb hlocks hr dL_word_19 (Nat.le_of_ble_eq_true rfl) (Nat.le_of_ble_eq_true rfl) hB hO1 hS (Or.inl ⟨rfl, r, ⟨rfl, rfl, hp⟩, hf1⟩)
set_option maxHeartbeats 4000000 in
set_option maxRecDepth 100000 in
/-- the law's helper likeness -/
theorem kL_likeness (l : Launch) (D : va_G) (ac : Nat → ClassId) (H : Heap) (A : Nat → Prop) (N : Nat) (adr : Nat → Nat) (w : Nat → va_E) (b : Nat) (f : Nat → Int64) (hM : MW D (Abt A b) N adr w H) (hb9 : OCel D ac H b f) (hAb : A b) (P : Int32 → (Nat → va_E) → Prop) (code : Nat) (x : Int32) (fs0 : List Value) (h0 : Cel D H (adr 0) (.inr (7, fs0))) (hC9 : WXi l yX7_likeness wsX7_likeness ({ frames := 7, cells := 2, slots := 12, locals := 111 }) [.ref (adr 0), .int x] D ac H (Abt A b) N adr w P (XC2 xIO xIS code) 2 12) : Met l yL_likeness wsL_likeness ({ frames := 8, cells := 2, slots := 12, locals := 133 }) (LPre D ac H A [.ref (adr 0), .int x, .ref b]) (va_Qi (HPo code (fun v N9 a9 w9 => N9 = N ∧ a9 = adr ∧ P v w9) N adr w f) (HB D ac A b) A) 2 12 A := by
  refine va_MetW (cc := cL_likeness) (maxL := 4) (ret := (some .int)) (hh := [(0, 9, 12, 20), (0, 9, 15, 15)]) (by decide) rfl ?_
  intro p e s m args below meth c s₁ B hml hv
  obtain ⟨hargs, hsz, hK, hX, hC⟩ := hv
  have hx := B.exec
  have hb := B.bytes
  have hr := B.returns
  have hts := atoms_spec (ws := wsL_likeness) B.pre
  have hown : s.vm.findClass RL = some m.cls := findClass_of_methodNamed B.named
  have hlocks := B.notSynchronized
  have htb := vx_table (x := yL_likeness) B (hts _ List.mem_cons_self)
  subst hsz
  have hS : va_S A s.heap s.heap [] := va_S.rf
  have hX1 : XQ (Abt A b) s s.heap := hX.narrow (fun q h => h.1)
  have hbl : b < s.heap.size := hb9.lt
  have hl := lv_entry ([.ref (adr 0), .int x, .ref b]) (n := 4) (Nat.le_of_ble_eq_true rfl)
  have hen := lg_entry_eq m [.ref (adr 0), .int x, .ref b] 4
  rw [← hargs] at hen
  rw [hen]
  generalize (lg_sl ([.ref (adr 0), .int x, .ref b]) ++ List.replicate (4 - (lg_sl ([.ref (adr 0), .int x, .ref b])).length) Slot.unset).toArray = ls at hl ⊢
  have hl : lv_has ls 4 [(0, .ref (adr 0)), (1, .int x), (2, .ref b)] := hl
  obtain ⟨Q0, hQ0⟩ : ∃ z, z = MQ below (va_Qi (HPo code (fun v N9 a9 w9 => N9 = N ∧ a9 = adr ∧ P v w9) N adr w f) (HB D ac A b) A) args s 2 12 A := ⟨_, rfl⟩
  rw [← hQ0]
  refine lv_aload_n hx hb dL_likeness_0 rfl (lv_at hl 2 rfl) ?_
  refine lv_iconst (v := 0) hx hb dL_likeness_1 (by decide) ?_
  refine lv_aload_n hx hb dL_likeness_2 rfl (lv_at hl 0 rfl) ?_
  refine lv_iload_n hx hb dL_likeness_3 rfl (lv_at hl 1 rfl) ?_
  refine vx_calli (vx_runV (As := [.int x]) (rest := [.int 0, .ref b]) ⟨hx, hb, hml, hown, hts⟩ hC9 (cwV 1 hts gL_likeness_X7_likeness rfl rfl rfl (by decide +kernel) ⟨(Nat.le_of_ble_eq_true rfl), (Nat.le_of_ble_eq_true rfl)⟩) (pVX hK hX1 (ci := 7) rfl h0) rfl rfl hl.1 rfl (lv_room (Nat.le_of_ble_eq_true rfl)) dL_likeness_4 ⟨(Nat.le_of_ble_eq_true rfl), (Nat.le_of_ble_eq_true rfl)⟩) hS (fun q _ h => h.1) (fun q h => h.1) (fun q _ h => h.1) (fun E ce q9 uq t H1 locs ht hvm _ hB hz hk hS hcell hv9 hcl => ?_) (fun r uq t H1 locs ht hvm hp hB hz hk hS => ?_)
  · obtain ⟨hE, hM1⟩ := hB
    rw [ht] at hM1
    have hO1 : OCel D ac H1 b f := hb9.kept (hk b hbl (fun q => q.2 rfl))
    rcases hE with ⟨rfl, hcd⟩ | ⟨rfl, hcd⟩
    · refine vx_catch (own := RL) (name := xIO) hown [] ⟨0, 9, 12, 20⟩ [⟨0, 9, 15, 15⟩] (by rw [htb]; rfl) (by intro z hz; cases hz) (by decide) (by decide) (hts (Cond.classLink RL 20 xIO) (by decide +kernel)) (hX.2.2.use (.castable xIO xIO) (by decide +kernel)) hcell hv9 hcl ?_
      refine lv_astore_n (lv' := [(3, .ref q9), (0, .ref (adr 0)), (1, .int x), (2, .ref b)]) hx hb dL_likeness_12 rfl hl (by decide) rfl (fun ls hl => ?_)
      refine lv_iconst (v := 1) hx hb dL_likeness_13 (by decide) ?_
      rw [hQ0]
      exact e_h (u := (N, adr, w, f)) hx hb hlocks hr dL_likeness_14 (Nat.le_of_ble_eq_true rfl) (Nat.le_of_ble_eq_true rfl) hM1 hO1 hS (HPo.no (c := 1) hcd (by decide) rfl)
    · refine vx_catch (own := RL) (name := xIS) hown [⟨0, 9, 12, 20⟩] ⟨0, 9, 15, 15⟩ [] (by rw [htb]; rfl) (by intro z hz; simp only [List.mem_cons, List.not_mem_nil, or_false] at hz; rcases hz with rfl <;> first | exact Or.inr ⟨by decide, xIO, hts (Cond.classLink RL 20 xIO) (by decide +kernel), hC.2.1⟩) (by decide) (by decide) (hts (Cond.classLink RL 15 xIS) (by decide +kernel)) (hX.2.2.use (.castable xIS xIS) (by decide +kernel)) hcell hv9 hcl ?_
      refine lv_astore_n (lv' := [(3, .ref q9), (0, .ref (adr 0)), (1, .int x), (2, .ref b)]) hx hb dL_likeness_15 rfl hl (by decide) rfl (fun ls hl => ?_)
      refine lv_iconst (v := 2) hx hb dL_likeness_16 (by decide) ?_
      rw [hQ0]
      exact e_h (u := (N, adr, w, f)) hx hb hlocks hr dL_likeness_17 (Nat.le_of_ble_eq_true rfl) (Nat.le_of_ble_eq_true rfl) hM1 hO1 hS (HPo.no (c := 2) hcd (by decide) rfl)
  · rw [ht] at hB
    have hO1 : OCel D ac H1 b f := hb9.kept (hk b hbl (fun q => q.2 rfl))
    refine lv_i2l (v := r.toInt64) hx hb dL_likeness_7 rfl ?_
    refine h_last hx hb hK hB hO1 hAb hS dL_likeness_8 (fun H1 locs f1 hB hO1 hf1 hS => ?_)
    refine lv_goto (tgt := 18) hx hb dL_likeness_9 (by decide) ?_
    refine lv_iconst (v := 0) hx hb dL_likeness_18 (by decide) ?_
    rw [hQ0]
    exact e_h (u := (N, adr, uq, f1)) hx hb hlocks hr dL_likeness_19 (Nat.le_of_ble_eq_true rfl) (Nat.le_of_ble_eq_true rfl) hB hO1 hS (Or.inl ⟨rfl, r, ⟨rfl, rfl, hp⟩, hf1⟩)
set_option maxHeartbeats 4000000 in
set_option maxRecDepth 100000 in
/-- the law's helper best -/
theorem kL_best (l : Launch) (D : va_G) (ac : Nat → ClassId) (H : Heap) (A : Nat → Prop) (N : Nat) (adr : Nat → Nat) (w : Nat → va_E) (b : Nat) (f : Nat → Int64) (hM : MW D (Abt A b) N adr w H) (hb9 : OCel D ac H b f) (hAb : A b) (P : Int32 → (Nat → va_E) → Prop) (code : Nat) (x : Int32) (fs0 : List Value) (h0 : Cel D H (adr 0) (.inr (7, fs0))) (hC9 : WXi l yX7_best wsX7_best ({ frames := 7, cells := 2, slots := 12, locals := 153 }) [.ref (adr 0), .int x] D ac H (Abt A b) N adr w P (XC2 xIA xIS code) 2 12) : Met l yL_best wsL_best ({ frames := 8, cells := 2, slots := 12, locals := 174 }) (LPre D ac H A [.ref (adr 0), .int x, .ref b]) (va_Qi (HPo code (fun v N9 a9 w9 => N9 = N ∧ a9 = adr ∧ P v w9) N adr w f) (HB D ac A b) A) 2 12 A := by
  refine va_MetW (cc := cL_best) (maxL := 4) (ret := (some .int)) (hh := [(0, 9, 12, 13), (0, 9, 15, 15)]) (by decide) rfl ?_
  intro p e s m args below meth c s₁ B hml hv
  obtain ⟨hargs, hsz, hK, hX, hC⟩ := hv
  have hx := B.exec
  have hb := B.bytes
  have hr := B.returns
  have hts := atoms_spec (ws := wsL_best) B.pre
  have hown : s.vm.findClass RL = some m.cls := findClass_of_methodNamed B.named
  have hlocks := B.notSynchronized
  have htb := vx_table (x := yL_best) B (hts _ List.mem_cons_self)
  subst hsz
  have hS : va_S A s.heap s.heap [] := va_S.rf
  have hX1 : XQ (Abt A b) s s.heap := hX.narrow (fun q h => h.1)
  have hbl : b < s.heap.size := hb9.lt
  have hl := lv_entry ([.ref (adr 0), .int x, .ref b]) (n := 4) (Nat.le_of_ble_eq_true rfl)
  have hen := lg_entry_eq m [.ref (adr 0), .int x, .ref b] 4
  rw [← hargs] at hen
  rw [hen]
  generalize (lg_sl ([.ref (adr 0), .int x, .ref b]) ++ List.replicate (4 - (lg_sl ([.ref (adr 0), .int x, .ref b])).length) Slot.unset).toArray = ls at hl ⊢
  have hl : lv_has ls 4 [(0, .ref (adr 0)), (1, .int x), (2, .ref b)] := hl
  obtain ⟨Q0, hQ0⟩ : ∃ z, z = MQ below (va_Qi (HPo code (fun v N9 a9 w9 => N9 = N ∧ a9 = adr ∧ P v w9) N adr w f) (HB D ac A b) A) args s 2 12 A := ⟨_, rfl⟩
  rw [← hQ0]
  refine lv_aload_n hx hb dL_best_0 rfl (lv_at hl 2 rfl) ?_
  refine lv_iconst (v := 0) hx hb dL_best_1 (by decide) ?_
  refine lv_aload_n hx hb dL_best_2 rfl (lv_at hl 0 rfl) ?_
  refine lv_iload_n hx hb dL_best_3 rfl (lv_at hl 1 rfl) ?_
  refine vx_calli (vx_runV (As := [.int x]) (rest := [.int 0, .ref b]) ⟨hx, hb, hml, hown, hts⟩ hC9 (cwV 1 hts gL_best_X7_best rfl rfl rfl (by decide +kernel) ⟨(Nat.le_of_ble_eq_true rfl), (Nat.le_of_ble_eq_true rfl)⟩) (pVX hK hX1 (ci := 7) rfl h0) rfl rfl hl.1 rfl (lv_room (Nat.le_of_ble_eq_true rfl)) dL_best_4 ⟨(Nat.le_of_ble_eq_true rfl), (Nat.le_of_ble_eq_true rfl)⟩) hS (fun q _ h => h.1) (fun q h => h.1) (fun q _ h => h.1) (fun E ce q9 uq t H1 locs ht hvm _ hB hz hk hS hcell hv9 hcl => ?_) (fun r uq t H1 locs ht hvm hp hB hz hk hS => ?_)
  · obtain ⟨hE, hM1⟩ := hB
    rw [ht] at hM1
    have hO1 : OCel D ac H1 b f := hb9.kept (hk b hbl (fun q => q.2 rfl))
    rcases hE with ⟨rfl, hcd⟩ | ⟨rfl, hcd⟩
    · refine vx_catch (own := RL) (name := xIA) hown [] ⟨0, 9, 12, 13⟩ [⟨0, 9, 15, 15⟩] (by rw [htb]; rfl) (by intro z hz; cases hz) (by decide) (by decide) (hts (Cond.classLink RL 13 xIA) (by decide +kernel)) (hX.2.2.use (.castable xIA xIA) (by decide +kernel)) hcell hv9 hcl ?_
      refine lv_astore_n (lv' := [(3, .ref q9), (0, .ref (adr 0)), (1, .int x), (2, .ref b)]) hx hb dL_best_12 rfl hl (by decide) rfl (fun ls hl => ?_)
      refine lv_iconst (v := 1) hx hb dL_best_13 (by decide) ?_
      rw [hQ0]
      exact e_h (u := (N, adr, w, f)) hx hb hlocks hr dL_best_14 (Nat.le_of_ble_eq_true rfl) (Nat.le_of_ble_eq_true rfl) hM1 hO1 hS (HPo.no (c := 1) hcd (by decide) rfl)
    · refine vx_catch (own := RL) (name := xIS) hown [⟨0, 9, 12, 13⟩] ⟨0, 9, 15, 15⟩ [] (by rw [htb]; rfl) (by intro z hz; simp only [List.mem_cons, List.not_mem_nil, or_false] at hz; rcases hz with rfl <;> first | exact Or.inr ⟨by decide, xIA, hts (Cond.classLink RL 13 xIA) (by decide +kernel), hC.1⟩) (by decide) (by decide) (hts (Cond.classLink RL 15 xIS) (by decide +kernel)) (hX.2.2.use (.castable xIS xIS) (by decide +kernel)) hcell hv9 hcl ?_
      refine lv_astore_n (lv' := [(3, .ref q9), (0, .ref (adr 0)), (1, .int x), (2, .ref b)]) hx hb dL_best_15 rfl hl (by decide) rfl (fun ls hl => ?_)
      refine lv_iconst (v := 2) hx hb dL_best_16 (by decide) ?_
      rw [hQ0]
      exact e_h (u := (N, adr, w, f)) hx hb hlocks hr dL_best_17 (Nat.le_of_ble_eq_true rfl) (Nat.le_of_ble_eq_true rfl) hM1 hO1 hS (HPo.no (c := 2) hcd (by decide) rfl)
  · rw [ht] at hB
    have hO1 : OCel D ac H1 b f := hb9.kept (hk b hbl (fun q => q.2 rfl))
    refine lv_i2l (v := r.toInt64) hx hb dL_best_7 rfl ?_
    refine h_last hx hb hK hB hO1 hAb hS dL_best_8 (fun H1 locs f1 hB hO1 hf1 hS => ?_)
    refine lv_goto (tgt := 18) hx hb dL_best_9 (by decide) ?_
    refine lv_iconst (v := 0) hx hb dL_best_18 (by decide) ?_
    rw [hQ0]
    exact e_h (u := (N, adr, uq, f1)) hx hb hlocks hr dL_best_19 (Nat.le_of_ble_eq_true rfl) (Nat.le_of_ble_eq_true rfl) hB hO1 hS (Or.inl ⟨rfl, r, ⟨rfl, rfl, hp⟩, hf1⟩)
set_option maxHeartbeats 4000000 in
set_option maxRecDepth 100000 in
/-- the law's helper bestByAll -/
theorem kL_bestByAll (l : Launch) (D : va_G) (ac : Nat → ClassId) (H : Heap) (A : Nat → Prop) (N : Nat) (adr : Nat → Nat) (w : Nat → va_E) (b : Nat) (f : Nat → Int64) (hM : MW D (Abt A b) N adr w H) (hb9 : OCel D ac H b f) (hAb : A b) (P : Int32 → (Nat → va_E) → Prop) (code : Nat) (x : Int32) (fs0 : List Value) (h0 : Cel D H (adr 0) (.inr (7, fs0))) (hC9 : WXi l yX7_bestByAll wsX7_bestByAll ({ frames := 7, cells := 2, slots := 12, locals := 131 }) [.ref (adr 0), .int x] D ac H (Abt A b) N adr w P (XC2 xIA xIS code) 2 12) : Met l yL_bestByAll wsL_bestByAll ({ frames := 8, cells := 2, slots := 12, locals := 152 }) (LPre D ac H A [.ref (adr 0), .int x, .ref b]) (va_Qi (HPo code (fun v N9 a9 w9 => N9 = N ∧ a9 = adr ∧ P v w9) N adr w f) (HB D ac A b) A) 2 12 A := by
  refine va_MetW (cc := cL_bestByAll) (maxL := 4) (ret := (some .int)) (hh := [(0, 9, 12, 13), (0, 9, 15, 15)]) (by decide) rfl ?_
  intro p e s m args below meth c s₁ B hml hv
  obtain ⟨hargs, hsz, hK, hX, hC⟩ := hv
  have hx := B.exec
  have hb := B.bytes
  have hr := B.returns
  have hts := atoms_spec (ws := wsL_bestByAll) B.pre
  have hown : s.vm.findClass RL = some m.cls := findClass_of_methodNamed B.named
  have hlocks := B.notSynchronized
  have htb := vx_table (x := yL_bestByAll) B (hts _ List.mem_cons_self)
  subst hsz
  have hS : va_S A s.heap s.heap [] := va_S.rf
  have hX1 : XQ (Abt A b) s s.heap := hX.narrow (fun q h => h.1)
  have hbl : b < s.heap.size := hb9.lt
  have hl := lv_entry ([.ref (adr 0), .int x, .ref b]) (n := 4) (Nat.le_of_ble_eq_true rfl)
  have hen := lg_entry_eq m [.ref (adr 0), .int x, .ref b] 4
  rw [← hargs] at hen
  rw [hen]
  generalize (lg_sl ([.ref (adr 0), .int x, .ref b]) ++ List.replicate (4 - (lg_sl ([.ref (adr 0), .int x, .ref b])).length) Slot.unset).toArray = ls at hl ⊢
  have hl : lv_has ls 4 [(0, .ref (adr 0)), (1, .int x), (2, .ref b)] := hl
  obtain ⟨Q0, hQ0⟩ : ∃ z, z = MQ below (va_Qi (HPo code (fun v N9 a9 w9 => N9 = N ∧ a9 = adr ∧ P v w9) N adr w f) (HB D ac A b) A) args s 2 12 A := ⟨_, rfl⟩
  rw [← hQ0]
  refine lv_aload_n hx hb dL_bestByAll_0 rfl (lv_at hl 2 rfl) ?_
  refine lv_iconst (v := 0) hx hb dL_bestByAll_1 (by decide) ?_
  refine lv_aload_n hx hb dL_bestByAll_2 rfl (lv_at hl 0 rfl) ?_
  refine lv_iload_n hx hb dL_bestByAll_3 rfl (lv_at hl 1 rfl) ?_
  refine vx_calli (vx_runV (As := [.int x]) (rest := [.int 0, .ref b]) ⟨hx, hb, hml, hown, hts⟩ hC9 (cwV 1 hts gL_bestByAll_X7_bestByAll rfl rfl rfl (by decide +kernel) ⟨(Nat.le_of_ble_eq_true rfl), (Nat.le_of_ble_eq_true rfl)⟩) (pVX hK hX1 (ci := 7) rfl h0) rfl rfl hl.1 rfl (lv_room (Nat.le_of_ble_eq_true rfl)) dL_bestByAll_4 ⟨(Nat.le_of_ble_eq_true rfl), (Nat.le_of_ble_eq_true rfl)⟩) hS (fun q _ h => h.1) (fun q h => h.1) (fun q _ h => h.1) (fun E ce q9 uq t H1 locs ht hvm _ hB hz hk hS hcell hv9 hcl => ?_) (fun r uq t H1 locs ht hvm hp hB hz hk hS => ?_)
  · obtain ⟨hE, hM1⟩ := hB
    rw [ht] at hM1
    have hO1 : OCel D ac H1 b f := hb9.kept (hk b hbl (fun q => q.2 rfl))
    rcases hE with ⟨rfl, hcd⟩ | ⟨rfl, hcd⟩
    · refine vx_catch (own := RL) (name := xIA) hown [] ⟨0, 9, 12, 13⟩ [⟨0, 9, 15, 15⟩] (by rw [htb]; rfl) (by intro z hz; cases hz) (by decide) (by decide) (hts (Cond.classLink RL 13 xIA) (by decide +kernel)) (hX.2.2.use (.castable xIA xIA) (by decide +kernel)) hcell hv9 hcl ?_
      refine lv_astore_n (lv' := [(3, .ref q9), (0, .ref (adr 0)), (1, .int x), (2, .ref b)]) hx hb dL_bestByAll_12 rfl hl (by decide) rfl (fun ls hl => ?_)
      refine lv_iconst (v := 1) hx hb dL_bestByAll_13 (by decide) ?_
      rw [hQ0]
      exact e_h (u := (N, adr, w, f)) hx hb hlocks hr dL_bestByAll_14 (Nat.le_of_ble_eq_true rfl) (Nat.le_of_ble_eq_true rfl) hM1 hO1 hS (HPo.no (c := 1) hcd (by decide) rfl)
    · refine vx_catch (own := RL) (name := xIS) hown [⟨0, 9, 12, 13⟩] ⟨0, 9, 15, 15⟩ [] (by rw [htb]; rfl) (by intro z hz; simp only [List.mem_cons, List.not_mem_nil, or_false] at hz; rcases hz with rfl <;> first | exact Or.inr ⟨by decide, xIA, hts (Cond.classLink RL 13 xIA) (by decide +kernel), hC.1⟩) (by decide) (by decide) (hts (Cond.classLink RL 15 xIS) (by decide +kernel)) (hX.2.2.use (.castable xIS xIS) (by decide +kernel)) hcell hv9 hcl ?_
      refine lv_astore_n (lv' := [(3, .ref q9), (0, .ref (adr 0)), (1, .int x), (2, .ref b)]) hx hb dL_bestByAll_15 rfl hl (by decide) rfl (fun ls hl => ?_)
      refine lv_iconst (v := 2) hx hb dL_bestByAll_16 (by decide) ?_
      rw [hQ0]
      exact e_h (u := (N, adr, w, f)) hx hb hlocks hr dL_bestByAll_17 (Nat.le_of_ble_eq_true rfl) (Nat.le_of_ble_eq_true rfl) hM1 hO1 hS (HPo.no (c := 2) hcd (by decide) rfl)
  · rw [ht] at hB
    have hO1 : OCel D ac H1 b f := hb9.kept (hk b hbl (fun q => q.2 rfl))
    refine lv_i2l (v := r.toInt64) hx hb dL_bestByAll_7 rfl ?_
    refine h_last hx hb hK hB hO1 hAb hS dL_bestByAll_8 (fun H1 locs f1 hB hO1 hf1 hS => ?_)
    refine lv_goto (tgt := 18) hx hb dL_bestByAll_9 (by decide) ?_
    refine lv_iconst (v := 0) hx hb dL_bestByAll_18 (by decide) ?_
    rw [hQ0]
    exact e_h (u := (N, adr, uq, f1)) hx hb hlocks hr dL_bestByAll_19 (Nat.le_of_ble_eq_true rfl) (Nat.le_of_ble_eq_true rfl) hB hO1 hS (Or.inl ⟨rfl, r, ⟨rfl, rfl, hp⟩, hf1⟩)
set_option maxHeartbeats 4000000 in
set_option maxRecDepth 100000 in
/-- the law's helper cost -/
theorem kL_cost (l : Launch) (D : va_G) (ac : Nat → ClassId) (H : Heap) (A : Nat → Prop) (N : Nat) (adr : Nat → Nat) (w : Nat → va_E) (b : Nat) (f : Nat → Int64) (hM : MW D (Abt A b) N adr w H) (hb9 : OCel D ac H b f) (hAb : A b) (P : Int32 → (Nat → va_E) → Prop) (code : Nat) (x y : Int32) (fs0 : List Value) (h0 : Cel D H (adr 0) (.inr (7, fs0))) (hC9 : WXi l yX7_cost wsX7_cost ({ frames := 7, cells := 2, slots := 12, locals := 153 }) [.ref (adr 0), .int x, .int y] D ac H (Abt A b) N adr w P (XC2 xIA xIS code) 2 12) : Met l yL_cost wsL_cost ({ frames := 8, cells := 2, slots := 12, locals := 176 }) (LPre D ac H A [.ref (adr 0), .int x, .int y, .ref b]) (va_Qi (HPo code (fun v N9 a9 w9 => N9 = N ∧ a9 = adr ∧ P v w9) N adr w f) (HB D ac A b) A) 2 12 A := by
  refine va_MetW (cc := cL_cost) (maxL := 5) (ret := (some .int)) (hh := [(0, 10, 13, 13), (0, 10, 17, 15)]) (by decide) rfl ?_
  intro p e s m args below meth c s₁ B hml hv
  obtain ⟨hargs, hsz, hK, hX, hC⟩ := hv
  have hx := B.exec
  have hb := B.bytes
  have hr := B.returns
  have hts := atoms_spec (ws := wsL_cost) B.pre
  have hown : s.vm.findClass RL = some m.cls := findClass_of_methodNamed B.named
  have hlocks := B.notSynchronized
  have htb := vx_table (x := yL_cost) B (hts _ List.mem_cons_self)
  subst hsz
  have hS : va_S A s.heap s.heap [] := va_S.rf
  have hX1 : XQ (Abt A b) s s.heap := hX.narrow (fun q h => h.1)
  have hbl : b < s.heap.size := hb9.lt
  have hl := lv_entry ([.ref (adr 0), .int x, .int y, .ref b]) (n := 5) (Nat.le_of_ble_eq_true rfl)
  have hen := lg_entry_eq m [.ref (adr 0), .int x, .int y, .ref b] 5
  rw [← hargs] at hen
  rw [hen]
  generalize (lg_sl ([.ref (adr 0), .int x, .int y, .ref b]) ++ List.replicate (5 - (lg_sl ([.ref (adr 0), .int x, .int y, .ref b])).length) Slot.unset).toArray = ls at hl ⊢
  have hl : lv_has ls 5 [(0, .ref (adr 0)), (1, .int x), (2, .int y), (3, .ref b)] := hl
  obtain ⟨Q0, hQ0⟩ : ∃ z, z = MQ below (va_Qi (HPo code (fun v N9 a9 w9 => N9 = N ∧ a9 = adr ∧ P v w9) N adr w f) (HB D ac A b) A) args s 2 12 A := ⟨_, rfl⟩
  rw [← hQ0]
  refine lv_aload_n hx hb dL_cost_0 rfl (lv_at hl 3 rfl) ?_
  refine lv_iconst (v := 0) hx hb dL_cost_1 (by decide) ?_
  refine lv_aload_n hx hb dL_cost_2 rfl (lv_at hl 0 rfl) ?_
  refine lv_iload_n hx hb dL_cost_3 rfl (lv_at hl 1 rfl) ?_
  refine lv_iload_n hx hb dL_cost_4 rfl (lv_at hl 2 rfl) ?_
  refine vx_calli (vx_runV (As := [.int x, .int y]) (rest := [.int 0, .ref b]) ⟨hx, hb, hml, hown, hts⟩ hC9 (cwV 2 hts gL_cost_X7_cost rfl rfl rfl (by decide +kernel) ⟨(Nat.le_of_ble_eq_true rfl), (Nat.le_of_ble_eq_true rfl)⟩) (pVX hK hX1 (ci := 7) rfl h0) rfl rfl hl.1 rfl (lv_room (Nat.le_of_ble_eq_true rfl)) dL_cost_5 ⟨(Nat.le_of_ble_eq_true rfl), (Nat.le_of_ble_eq_true rfl)⟩) hS (fun q _ h => h.1) (fun q h => h.1) (fun q _ h => h.1) (fun E ce q9 uq t H1 locs ht hvm _ hB hz hk hS hcell hv9 hcl => ?_) (fun r uq t H1 locs ht hvm hp hB hz hk hS => ?_)
  · obtain ⟨hE, hM1⟩ := hB
    rw [ht] at hM1
    have hO1 : OCel D ac H1 b f := hb9.kept (hk b hbl (fun q => q.2 rfl))
    rcases hE with ⟨rfl, hcd⟩ | ⟨rfl, hcd⟩
    · refine vx_catch (own := RL) (name := xIA) hown [] ⟨0, 10, 13, 13⟩ [⟨0, 10, 17, 15⟩] (by rw [htb]; rfl) (by intro z hz; cases hz) (by decide) (by decide) (hts (Cond.classLink RL 13 xIA) (by decide +kernel)) (hX.2.2.use (.castable xIA xIA) (by decide +kernel)) hcell hv9 hcl ?_
      refine lv_astore (lv' := [(4, .ref q9), (0, .ref (adr 0)), (1, .int x), (2, .int y), (3, .ref b)]) hx hb dL_cost_13 hl (by decide) rfl (fun ls hl => ?_)
      refine lv_iconst (v := 1) hx hb dL_cost_15 (by decide) ?_
      rw [hQ0]
      exact e_h (u := (N, adr, w, f)) hx hb hlocks hr dL_cost_16 (Nat.le_of_ble_eq_true rfl) (Nat.le_of_ble_eq_true rfl) hM1 hO1 hS (HPo.no (c := 1) hcd (by decide) rfl)
    · refine vx_catch (own := RL) (name := xIS) hown [⟨0, 10, 13, 13⟩] ⟨0, 10, 17, 15⟩ [] (by rw [htb]; rfl) (by intro z hz; simp only [List.mem_cons, List.not_mem_nil, or_false] at hz; rcases hz with rfl <;> first | exact Or.inr ⟨by decide, xIA, hts (Cond.classLink RL 13 xIA) (by decide +kernel), hC.1⟩) (by decide) (by decide) (hts (Cond.classLink RL 15 xIS) (by decide +kernel)) (hX.2.2.use (.castable xIS xIS) (by decide +kernel)) hcell hv9 hcl ?_
      refine lv_astore (lv' := [(4, .ref q9), (0, .ref (adr 0)), (1, .int x), (2, .int y), (3, .ref b)]) hx hb dL_cost_17 hl (by decide) rfl (fun ls hl => ?_)
      refine lv_iconst (v := 2) hx hb dL_cost_19 (by decide) ?_
      rw [hQ0]
      exact e_h (u := (N, adr, w, f)) hx hb hlocks hr dL_cost_20 (Nat.le_of_ble_eq_true rfl) (Nat.le_of_ble_eq_true rfl) hM1 hO1 hS (HPo.no (c := 2) hcd (by decide) rfl)
  · rw [ht] at hB
    have hO1 : OCel D ac H1 b f := hb9.kept (hk b hbl (fun q => q.2 rfl))
    refine lv_i2l (v := r.toInt64) hx hb dL_cost_8 rfl ?_
    refine h_last hx hb hK hB hO1 hAb hS dL_cost_9 (fun H1 locs f1 hB hO1 hf1 hS => ?_)
    refine lv_goto (tgt := 21) hx hb dL_cost_10 (by decide) ?_
    refine lv_iconst (v := 0) hx hb dL_cost_21 (by decide) ?_
    rw [hQ0]
    exact e_h (u := (N, adr, uq, f1)) hx hb hlocks hr dL_cost_22 (Nat.le_of_ble_eq_true rfl) (Nat.le_of_ble_eq_true rfl) hB hO1 hS (Or.inl ⟨rfl, r, ⟨rfl, rfl, hp⟩, hf1⟩)
set_option maxHeartbeats 4000000 in
set_option maxRecDepth 100000 in
/-- the law's helper order -/
theorem kL_order (l : Launch) (D : va_G) (ac : Nat → ClassId) (H : Heap) (A : Nat → Prop) (N : Nat) (adr : Nat → Nat) (w : Nat → va_E) (b : Nat) (f : Nat → Int64) (hM : MW D (Abt A b) N adr w H) (hb9 : OCel D ac H b f) (hAb : A b) (P : Int32 → (Nat → Nat) → (Nat → va_E) → Prop) (code : Nat) (N2 : Nat) (x y : Int32) (fs0 : List Value) (h0 : Cel D H (adr 0) (.inr (7, fs0))) (hC9 : WXo l yX7_order wsX7_order ({ frames := 7, cells := 8, slots := 42, locals := 109 }) [.ref (adr 0), .int x, .int y] D ac H (Abt A b) N adr w N2 P (XC2 xIA xIS code) 8 42) : Met l yL_order wsL_order ({ frames := 8, cells := 8, slots := 42, locals := 132 }) (LPre D ac H A [.ref (adr 0), .int x, .int y, .ref b]) (va_Qi (HPo code (fun v N9 a9 w9 => N9 = N2 ∧ P v a9 w9) N adr w f) (HB D ac A b) A) 8 42 A := by
  refine va_MetW (cc := cL_order) (maxL := 5) (ret := (some .int)) (hh := [(0, 10, 13, 13), (0, 10, 17, 15)]) (by decide) rfl ?_
  intro p e s m args below meth c s₁ B hml hv
  obtain ⟨hargs, hsz, hK, hX, hC⟩ := hv
  have hx := B.exec
  have hb := B.bytes
  have hr := B.returns
  have hts := atoms_spec (ws := wsL_order) B.pre
  have hown : s.vm.findClass RL = some m.cls := findClass_of_methodNamed B.named
  have hlocks := B.notSynchronized
  have htb := vx_table (x := yL_order) B (hts _ List.mem_cons_self)
  subst hsz
  have hS : va_S A s.heap s.heap [] := va_S.rf
  have hX1 : XQ (Abt A b) s s.heap := hX.narrow (fun q h => h.1)
  have hbl : b < s.heap.size := hb9.lt
  have hl := lv_entry ([.ref (adr 0), .int x, .int y, .ref b]) (n := 5) (Nat.le_of_ble_eq_true rfl)
  have hen := lg_entry_eq m [.ref (adr 0), .int x, .int y, .ref b] 5
  rw [← hargs] at hen
  rw [hen]
  generalize (lg_sl ([.ref (adr 0), .int x, .int y, .ref b]) ++ List.replicate (5 - (lg_sl ([.ref (adr 0), .int x, .int y, .ref b])).length) Slot.unset).toArray = ls at hl ⊢
  have hl : lv_has ls 5 [(0, .ref (adr 0)), (1, .int x), (2, .int y), (3, .ref b)] := hl
  obtain ⟨Q0, hQ0⟩ : ∃ z, z = MQ below (va_Qi (HPo code (fun v N9 a9 w9 => N9 = N2 ∧ P v a9 w9) N adr w f) (HB D ac A b) A) args s 8 42 A := ⟨_, rfl⟩
  rw [← hQ0]
  refine lv_aload_n hx hb dL_order_0 rfl (lv_at hl 3 rfl) ?_
  refine lv_iconst (v := 0) hx hb dL_order_1 (by decide) ?_
  refine lv_aload_n hx hb dL_order_2 rfl (lv_at hl 0 rfl) ?_
  refine lv_iload_n hx hb dL_order_3 rfl (lv_at hl 1 rfl) ?_
  refine lv_iload_n hx hb dL_order_4 rfl (lv_at hl 2 rfl) ?_
  refine vx_calli (vx_runV (As := [.int x, .int y]) (rest := [.int 0, .ref b]) ⟨hx, hb, hml, hown, hts⟩ hC9 (cwV 2 hts gL_order_X7_order rfl rfl rfl (by decide +kernel) ⟨(Nat.le_of_ble_eq_true rfl), (Nat.le_of_ble_eq_true rfl)⟩) (pVX hK hX1 (ci := 7) rfl h0) rfl rfl hl.1 rfl (lv_room (Nat.le_of_ble_eq_true rfl)) dL_order_5 ⟨(Nat.le_of_ble_eq_true rfl), (Nat.le_of_ble_eq_true rfl)⟩) hS (fun q _ h => h.1) (fun q h => h.1) (fun q _ h => h.1) (fun E ce q9 uq t H1 locs ht hvm _ hB hz hk hS hcell hv9 hcl => ?_) (fun r uq t H1 locs ht hvm hp hB hz hk hS => ?_)
  · obtain ⟨hE, hM1⟩ := hB
    rw [ht] at hM1
    have hO1 : OCel D ac H1 b f := hb9.kept (hk b hbl (fun q => q.2 rfl))
    rcases hE with ⟨rfl, hcd⟩ | ⟨rfl, hcd⟩
    · refine vx_catch (own := RL) (name := xIA) hown [] ⟨0, 10, 13, 13⟩ [⟨0, 10, 17, 15⟩] (by rw [htb]; rfl) (by intro z hz; cases hz) (by decide) (by decide) (hts (Cond.classLink RL 13 xIA) (by decide +kernel)) (hX.2.2.use (.castable xIA xIA) (by decide +kernel)) hcell hv9 hcl ?_
      refine lv_astore (lv' := [(4, .ref q9), (0, .ref (adr 0)), (1, .int x), (2, .int y), (3, .ref b)]) hx hb dL_order_13 hl (by decide) rfl (fun ls hl => ?_)
      refine lv_iconst (v := 1) hx hb dL_order_15 (by decide) ?_
      rw [hQ0]
      exact e_h (u := (N, adr, w, f)) hx hb hlocks hr dL_order_16 (Nat.le_of_ble_eq_true rfl) (Nat.le_of_ble_eq_true rfl) hM1 hO1 hS (HPo.no (c := 1) hcd (by decide) rfl)
    · refine vx_catch (own := RL) (name := xIS) hown [⟨0, 10, 13, 13⟩] ⟨0, 10, 17, 15⟩ [] (by rw [htb]; rfl) (by intro z hz; simp only [List.mem_cons, List.not_mem_nil, or_false] at hz; rcases hz with rfl <;> first | exact Or.inr ⟨by decide, xIA, hts (Cond.classLink RL 13 xIA) (by decide +kernel), hC.1⟩) (by decide) (by decide) (hts (Cond.classLink RL 15 xIS) (by decide +kernel)) (hX.2.2.use (.castable xIS xIS) (by decide +kernel)) hcell hv9 hcl ?_
      refine lv_astore (lv' := [(4, .ref q9), (0, .ref (adr 0)), (1, .int x), (2, .int y), (3, .ref b)]) hx hb dL_order_17 hl (by decide) rfl (fun ls hl => ?_)
      refine lv_iconst (v := 2) hx hb dL_order_19 (by decide) ?_
      rw [hQ0]
      exact e_h (u := (N, adr, w, f)) hx hb hlocks hr dL_order_20 (Nat.le_of_ble_eq_true rfl) (Nat.le_of_ble_eq_true rfl) hM1 hO1 hS (HPo.no (c := 2) hcd (by decide) rfl)
  · obtain ⟨a9, w9⟩ := uq
    have hB : MW D (Abt A b) N2 a9 w9 t.heap := hB
    rw [ht] at hB
    have hO1 : OCel D ac H1 b f := hb9.kept (hk b hbl (fun q => q.2 rfl))
    refine lv_i2l (v := r.toInt64) hx hb dL_order_8 rfl ?_
    refine h_last hx hb hK hB hO1 hAb hS dL_order_9 (fun H1 locs f1 hB hO1 hf1 hS => ?_)
    refine lv_goto (tgt := 21) hx hb dL_order_10 (by decide) ?_
    refine lv_iconst (v := 0) hx hb dL_order_21 (by decide) ?_
    rw [hQ0]
    exact e_h (u := (N2, a9, w9, f1)) hx hb hlocks hr dL_order_22 (Nat.le_of_ble_eq_true rfl) (Nat.le_of_ble_eq_true rfl) hB hO1 hS (Or.inl ⟨rfl, r, ⟨rfl, hp⟩, hf1⟩)
set_option maxHeartbeats 4000000 in
set_option maxRecDepth 100000 in
/-- the law's helper take -/
theorem kL_take (l : Launch) (D : va_G) (ac : Nat → ClassId) (H : Heap) (A : Nat → Prop) (N : Nat) (adr : Nat → Nat) (w : Nat → va_E) (b : Nat) (f : Nat → Int64) (hM : MW D (Abt A b) N adr w H) (hb9 : OCel D ac H b f) (hAb : A b) (P : Int32 → (Nat → va_E) → Prop) (code : Nat) (x : Int32) (fs0 : List Value) (h0 : Cel D H (adr 0) (.inr (7, fs0))) (hC9 : WXi l yX7_take wsX7_take ({ frames := 7, cells := 2, slots := 12, locals := 177 }) [.ref (adr 0), .int x] D ac H (Abt A b) N adr w P (XC2 xIA xIS code) 2 12) : Met l yL_take wsL_take ({ frames := 8, cells := 2, slots := 12, locals := 200 }) (LPre D ac H A [.ref (adr 0), .int x, .ref b]) (va_Qi (HPo code (fun v N9 a9 w9 => N9 = N ∧ a9 = adr ∧ P v w9) N adr w f) (HB D ac A b) A) 2 12 A := by
  refine va_MetW (cc := cL_take) (maxL := 4) (ret := (some .int)) (hh := [(0, 9, 12, 13), (0, 9, 15, 15)]) (by decide) rfl ?_
  intro p e s m args below meth c s₁ B hml hv
  obtain ⟨hargs, hsz, hK, hX, hC⟩ := hv
  have hx := B.exec
  have hb := B.bytes
  have hr := B.returns
  have hts := atoms_spec (ws := wsL_take) B.pre
  have hown : s.vm.findClass RL = some m.cls := findClass_of_methodNamed B.named
  have hlocks := B.notSynchronized
  have htb := vx_table (x := yL_take) B (hts _ List.mem_cons_self)
  subst hsz
  have hS : va_S A s.heap s.heap [] := va_S.rf
  have hX1 : XQ (Abt A b) s s.heap := hX.narrow (fun q h => h.1)
  have hbl : b < s.heap.size := hb9.lt
  have hl := lv_entry ([.ref (adr 0), .int x, .ref b]) (n := 4) (Nat.le_of_ble_eq_true rfl)
  have hen := lg_entry_eq m [.ref (adr 0), .int x, .ref b] 4
  rw [← hargs] at hen
  rw [hen]
  generalize (lg_sl ([.ref (adr 0), .int x, .ref b]) ++ List.replicate (4 - (lg_sl ([.ref (adr 0), .int x, .ref b])).length) Slot.unset).toArray = ls at hl ⊢
  have hl : lv_has ls 4 [(0, .ref (adr 0)), (1, .int x), (2, .ref b)] := hl
  obtain ⟨Q0, hQ0⟩ : ∃ z, z = MQ below (va_Qi (HPo code (fun v N9 a9 w9 => N9 = N ∧ a9 = adr ∧ P v w9) N adr w f) (HB D ac A b) A) args s 2 12 A := ⟨_, rfl⟩
  rw [← hQ0]
  refine lv_aload_n hx hb dL_take_0 rfl (lv_at hl 2 rfl) ?_
  refine lv_iconst (v := 0) hx hb dL_take_1 (by decide) ?_
  refine lv_aload_n hx hb dL_take_2 rfl (lv_at hl 0 rfl) ?_
  refine lv_iload_n hx hb dL_take_3 rfl (lv_at hl 1 rfl) ?_
  refine vx_calli (vx_runV (As := [.int x]) (rest := [.int 0, .ref b]) ⟨hx, hb, hml, hown, hts⟩ hC9 (cwV 1 hts gL_take_X7_take rfl rfl rfl (by decide +kernel) ⟨(Nat.le_of_ble_eq_true rfl), (Nat.le_of_ble_eq_true rfl)⟩) (pVX hK hX1 (ci := 7) rfl h0) rfl rfl hl.1 rfl (lv_room (Nat.le_of_ble_eq_true rfl)) dL_take_4 ⟨(Nat.le_of_ble_eq_true rfl), (Nat.le_of_ble_eq_true rfl)⟩) hS (fun q _ h => h.1) (fun q h => h.1) (fun q _ h => h.1) (fun E ce q9 uq t H1 locs ht hvm _ hB hz hk hS hcell hv9 hcl => ?_) (fun r uq t H1 locs ht hvm hp hB hz hk hS => ?_)
  · obtain ⟨hE, hM1⟩ := hB
    rw [ht] at hM1
    have hO1 : OCel D ac H1 b f := hb9.kept (hk b hbl (fun q => q.2 rfl))
    rcases hE with ⟨rfl, hcd⟩ | ⟨rfl, hcd⟩
    · refine vx_catch (own := RL) (name := xIA) hown [] ⟨0, 9, 12, 13⟩ [⟨0, 9, 15, 15⟩] (by rw [htb]; rfl) (by intro z hz; cases hz) (by decide) (by decide) (hts (Cond.classLink RL 13 xIA) (by decide +kernel)) (hX.2.2.use (.castable xIA xIA) (by decide +kernel)) hcell hv9 hcl ?_
      refine lv_astore_n (lv' := [(3, .ref q9), (0, .ref (adr 0)), (1, .int x), (2, .ref b)]) hx hb dL_take_12 rfl hl (by decide) rfl (fun ls hl => ?_)
      refine lv_iconst (v := 1) hx hb dL_take_13 (by decide) ?_
      rw [hQ0]
      exact e_h (u := (N, adr, w, f)) hx hb hlocks hr dL_take_14 (Nat.le_of_ble_eq_true rfl) (Nat.le_of_ble_eq_true rfl) hM1 hO1 hS (HPo.no (c := 1) hcd (by decide) rfl)
    · refine vx_catch (own := RL) (name := xIS) hown [⟨0, 9, 12, 13⟩] ⟨0, 9, 15, 15⟩ [] (by rw [htb]; rfl) (by intro z hz; simp only [List.mem_cons, List.not_mem_nil, or_false] at hz; rcases hz with rfl <;> first | exact Or.inr ⟨by decide, xIA, hts (Cond.classLink RL 13 xIA) (by decide +kernel), hC.1⟩) (by decide) (by decide) (hts (Cond.classLink RL 15 xIS) (by decide +kernel)) (hX.2.2.use (.castable xIS xIS) (by decide +kernel)) hcell hv9 hcl ?_
      refine lv_astore_n (lv' := [(3, .ref q9), (0, .ref (adr 0)), (1, .int x), (2, .ref b)]) hx hb dL_take_15 rfl hl (by decide) rfl (fun ls hl => ?_)
      refine lv_iconst (v := 2) hx hb dL_take_16 (by decide) ?_
      rw [hQ0]
      exact e_h (u := (N, adr, w, f)) hx hb hlocks hr dL_take_17 (Nat.le_of_ble_eq_true rfl) (Nat.le_of_ble_eq_true rfl) hM1 hO1 hS (HPo.no (c := 2) hcd (by decide) rfl)
  · rw [ht] at hB
    have hO1 : OCel D ac H1 b f := hb9.kept (hk b hbl (fun q => q.2 rfl))
    refine lv_i2l (v := r.toInt64) hx hb dL_take_7 rfl ?_
    refine h_last hx hb hK hB hO1 hAb hS dL_take_8 (fun H1 locs f1 hB hO1 hf1 hS => ?_)
    refine lv_goto (tgt := 18) hx hb dL_take_9 (by decide) ?_
    refine lv_iconst (v := 0) hx hb dL_take_18 (by decide) ?_
    rw [hQ0]
    exact e_h (u := (N, adr, uq, f1)) hx hb hlocks hr dL_take_19 (Nat.le_of_ble_eq_true rfl) (Nat.le_of_ble_eq_true rfl) hB hO1 hS (Or.inl ⟨rfl, r, ⟨rfl, rfl, hp⟩, hf1⟩)
set_option maxHeartbeats 4000000 in
set_option maxRecDepth 100000 in
/-- the law's helper giveBack -/
theorem kL_giveBack (l : Launch) (D : va_G) (ac : Nat → ClassId) (H : Heap) (A : Nat → Prop) (N : Nat) (adr : Nat → Nat) (w : Nat → va_E) (b : Nat) (f : Nat → Int64) (hM : MW D (Abt A b) N adr w H) (hb9 : OCel D ac H b f) (hAb : A b) (P : Int32 → (Nat → va_E) → Prop) (code : Nat) (x : Int32) (fs0 : List Value) (h0 : Cel D H (adr 0) (.inr (7, fs0))) (hC9 : WXi l yX7_giveBack wsX7_giveBack ({ frames := 8, cells := 2, slots := 12, locals := 131 }) [.ref (adr 0), .int x] D ac H (Abt A b) N adr w P (XC2 xIA xIS code) 2 12) : Met l yL_giveBack wsL_giveBack ({ frames := 9, cells := 2, slots := 12, locals := 153 }) (LPre D ac H A [.ref (adr 0), .int x, .ref b]) (va_Qi (HPo code (fun v N9 a9 w9 => N9 = N ∧ a9 = adr ∧ P v w9) N adr w f) (HB D ac A b) A) 2 12 A := by
  refine va_MetW (cc := cL_giveBack) (maxL := 4) (ret := (some .int)) (hh := [(0, 9, 12, 13), (0, 9, 15, 15)]) (by decide) rfl ?_
  intro p e s m args below meth c s₁ B hml hv
  obtain ⟨hargs, hsz, hK, hX, hC⟩ := hv
  have hx := B.exec
  have hb := B.bytes
  have hr := B.returns
  have hts := atoms_spec (ws := wsL_giveBack) B.pre
  have hown : s.vm.findClass RL = some m.cls := findClass_of_methodNamed B.named
  have hlocks := B.notSynchronized
  have htb := vx_table (x := yL_giveBack) B (hts _ List.mem_cons_self)
  subst hsz
  have hS : va_S A s.heap s.heap [] := va_S.rf
  have hX1 : XQ (Abt A b) s s.heap := hX.narrow (fun q h => h.1)
  have hbl : b < s.heap.size := hb9.lt
  have hl := lv_entry ([.ref (adr 0), .int x, .ref b]) (n := 4) (Nat.le_of_ble_eq_true rfl)
  have hen := lg_entry_eq m [.ref (adr 0), .int x, .ref b] 4
  rw [← hargs] at hen
  rw [hen]
  generalize (lg_sl ([.ref (adr 0), .int x, .ref b]) ++ List.replicate (4 - (lg_sl ([.ref (adr 0), .int x, .ref b])).length) Slot.unset).toArray = ls at hl ⊢
  have hl : lv_has ls 4 [(0, .ref (adr 0)), (1, .int x), (2, .ref b)] := hl
  obtain ⟨Q0, hQ0⟩ : ∃ z, z = MQ below (va_Qi (HPo code (fun v N9 a9 w9 => N9 = N ∧ a9 = adr ∧ P v w9) N adr w f) (HB D ac A b) A) args s 2 12 A := ⟨_, rfl⟩
  rw [← hQ0]
  refine lv_aload_n hx hb dL_giveBack_0 rfl (lv_at hl 2 rfl) ?_
  refine lv_iconst (v := 0) hx hb dL_giveBack_1 (by decide) ?_
  refine lv_aload_n hx hb dL_giveBack_2 rfl (lv_at hl 0 rfl) ?_
  refine lv_iload_n hx hb dL_giveBack_3 rfl (lv_at hl 1 rfl) ?_
  refine vx_calli (vx_runV (As := [.int x]) (rest := [.int 0, .ref b]) ⟨hx, hb, hml, hown, hts⟩ hC9 (cwV 1 hts gL_giveBack_X7_giveBack rfl rfl rfl (by decide +kernel) ⟨(Nat.le_of_ble_eq_true rfl), (Nat.le_of_ble_eq_true rfl)⟩) (pVX hK hX1 (ci := 7) rfl h0) rfl rfl hl.1 rfl (lv_room (Nat.le_of_ble_eq_true rfl)) dL_giveBack_4 ⟨(Nat.le_of_ble_eq_true rfl), (Nat.le_of_ble_eq_true rfl)⟩) hS (fun q _ h => h.1) (fun q h => h.1) (fun q _ h => h.1) (fun E ce q9 uq t H1 locs ht hvm _ hB hz hk hS hcell hv9 hcl => ?_) (fun r uq t H1 locs ht hvm hp hB hz hk hS => ?_)
  · obtain ⟨hE, hM1⟩ := hB
    rw [ht] at hM1
    have hO1 : OCel D ac H1 b f := hb9.kept (hk b hbl (fun q => q.2 rfl))
    rcases hE with ⟨rfl, hcd⟩ | ⟨rfl, hcd⟩
    · refine vx_catch (own := RL) (name := xIA) hown [] ⟨0, 9, 12, 13⟩ [⟨0, 9, 15, 15⟩] (by rw [htb]; rfl) (by intro z hz; cases hz) (by decide) (by decide) (hts (Cond.classLink RL 13 xIA) (by decide +kernel)) (hX.2.2.use (.castable xIA xIA) (by decide +kernel)) hcell hv9 hcl ?_
      refine lv_astore_n (lv' := [(3, .ref q9), (0, .ref (adr 0)), (1, .int x), (2, .ref b)]) hx hb dL_giveBack_12 rfl hl (by decide) rfl (fun ls hl => ?_)
      refine lv_iconst (v := 1) hx hb dL_giveBack_13 (by decide) ?_
      rw [hQ0]
      exact e_h (u := (N, adr, w, f)) hx hb hlocks hr dL_giveBack_14 (Nat.le_of_ble_eq_true rfl) (Nat.le_of_ble_eq_true rfl) hM1 hO1 hS (HPo.no (c := 1) hcd (by decide) rfl)
    · refine vx_catch (own := RL) (name := xIS) hown [⟨0, 9, 12, 13⟩] ⟨0, 9, 15, 15⟩ [] (by rw [htb]; rfl) (by intro z hz; simp only [List.mem_cons, List.not_mem_nil, or_false] at hz; rcases hz with rfl <;> first | exact Or.inr ⟨by decide, xIA, hts (Cond.classLink RL 13 xIA) (by decide +kernel), hC.1⟩) (by decide) (by decide) (hts (Cond.classLink RL 15 xIS) (by decide +kernel)) (hX.2.2.use (.castable xIS xIS) (by decide +kernel)) hcell hv9 hcl ?_
      refine lv_astore_n (lv' := [(3, .ref q9), (0, .ref (adr 0)), (1, .int x), (2, .ref b)]) hx hb dL_giveBack_15 rfl hl (by decide) rfl (fun ls hl => ?_)
      refine lv_iconst (v := 2) hx hb dL_giveBack_16 (by decide) ?_
      rw [hQ0]
      exact e_h (u := (N, adr, w, f)) hx hb hlocks hr dL_giveBack_17 (Nat.le_of_ble_eq_true rfl) (Nat.le_of_ble_eq_true rfl) hM1 hO1 hS (HPo.no (c := 2) hcd (by decide) rfl)
  · rw [ht] at hB
    have hO1 : OCel D ac H1 b f := hb9.kept (hk b hbl (fun q => q.2 rfl))
    refine lv_i2l (v := r.toInt64) hx hb dL_giveBack_7 rfl ?_
    refine h_last hx hb hK hB hO1 hAb hS dL_giveBack_8 (fun H1 locs f1 hB hO1 hf1 hS => ?_)
    refine lv_goto (tgt := 18) hx hb dL_giveBack_9 (by decide) ?_
    refine lv_iconst (v := 0) hx hb dL_giveBack_18 (by decide) ?_
    rw [hQ0]
    exact e_h (u := (N, adr, uq, f1)) hx hb hlocks hr dL_giveBack_19 (Nat.le_of_ble_eq_true rfl) (Nat.le_of_ble_eq_true rfl) hB hO1 hS (Or.inl ⟨rfl, r, ⟨rfl, rfl, hp⟩, hf1⟩)
set_option maxHeartbeats 4000000 in
set_option maxRecDepth 100000 in
/-- the law's helper translate -/
theorem kL_translate (l : Launch) (D : va_G) (ac : Nat → ClassId) (H : Heap) (A : Nat → Prop) (N : Nat) (adr : Nat → Nat) (w : Nat → va_E) (b : Nat) (f : Nat → Int64) (hM : MW D (Abt A b) N adr w H) (hb9 : OCel D ac H b f) (hAb : A b) (P : Int32 → (Nat → va_E) → Prop) (code : Nat) (x y z : Int32) (fs0 : List Value) (h0 : Cel D H (adr 0) (.inr (7, fs0))) (hC9 : WXi l yX7_translate wsX7_translate ({ frames := 8, cells := 3, slots := 18, locals := 131 }) [.ref (adr 0), .int x, .int y, .int z] D ac H (Abt A b) N adr w P (XC3 xIA xIS xIO code) 3 18) : Met l yL_translate wsL_translate ({ frames := 9, cells := 3, slots := 18, locals := 155 }) (LPre D ac H A [.ref (adr 0), .int x, .int y, .int z, .ref b]) (va_Qi (HPo code (fun v N9 a9 w9 => N9 = N ∧ a9 = adr ∧ P v w9) N adr w f) (HB D ac A b) A) 3 18 A := by
  refine va_MetW (cc := cL_translate) (maxL := 6) (ret := (some .int)) (hh := [(0, 12, 15, 13), (0, 12, 19, 15), (0, 12, 23, 20)]) (by decide) rfl ?_
  intro p e s m args below meth c s₁ B hml hv
  obtain ⟨hargs, hsz, hK, hX, hC⟩ := hv
  have hx := B.exec
  have hb := B.bytes
  have hr := B.returns
  have hts := atoms_spec (ws := wsL_translate) B.pre
  have hown : s.vm.findClass RL = some m.cls := findClass_of_methodNamed B.named
  have hlocks := B.notSynchronized
  have htb := vx_table (x := yL_translate) B (hts _ List.mem_cons_self)
  subst hsz
  have hS : va_S A s.heap s.heap [] := va_S.rf
  have hX1 : XQ (Abt A b) s s.heap := hX.narrow (fun q h => h.1)
  have hbl : b < s.heap.size := hb9.lt
  have hl := lv_entry ([.ref (adr 0), .int x, .int y, .int z, .ref b]) (n := 6) (Nat.le_of_ble_eq_true rfl)
  have hen := lg_entry_eq m [.ref (adr 0), .int x, .int y, .int z, .ref b] 6
  rw [← hargs] at hen
  rw [hen]
  generalize (lg_sl ([.ref (adr 0), .int x, .int y, .int z, .ref b]) ++ List.replicate (6 - (lg_sl ([.ref (adr 0), .int x, .int y, .int z, .ref b])).length) Slot.unset).toArray = ls at hl ⊢
  have hl : lv_has ls 6 [(0, .ref (adr 0)), (1, .int x), (2, .int y), (3, .int z), (4, .ref b)] := hl
  obtain ⟨Q0, hQ0⟩ : ∃ z, z = MQ below (va_Qi (HPo code (fun v N9 a9 w9 => N9 = N ∧ a9 = adr ∧ P v w9) N adr w f) (HB D ac A b) A) args s 3 18 A := ⟨_, rfl⟩
  rw [← hQ0]
  refine lv_aload hx hb dL_translate_0 (lv_at hl 4 rfl) ?_
  refine lv_iconst (v := 0) hx hb dL_translate_2 (by decide) ?_
  refine lv_aload_n hx hb dL_translate_3 rfl (lv_at hl 0 rfl) ?_
  refine lv_iload_n hx hb dL_translate_4 rfl (lv_at hl 1 rfl) ?_
  refine lv_iload_n hx hb dL_translate_5 rfl (lv_at hl 2 rfl) ?_
  refine lv_iload_n hx hb dL_translate_6 rfl (lv_at hl 3 rfl) ?_
  refine vx_calli (vx_runV (As := [.int x, .int y, .int z]) (rest := [.int 0, .ref b]) ⟨hx, hb, hml, hown, hts⟩ hC9 (cwV 3 hts gL_translate_X7_translate rfl rfl rfl (by decide +kernel) ⟨(Nat.le_of_ble_eq_true rfl), (Nat.le_of_ble_eq_true rfl)⟩) (pVX hK hX1 (ci := 7) rfl h0) rfl rfl hl.1 rfl (lv_room (Nat.le_of_ble_eq_true rfl)) dL_translate_7 ⟨(Nat.le_of_ble_eq_true rfl), (Nat.le_of_ble_eq_true rfl)⟩) hS (fun q _ h => h.1) (fun q h => h.1) (fun q _ h => h.1) (fun E ce q9 uq t H1 locs ht hvm _ hB hz hk hS hcell hv9 hcl => ?_) (fun r uq t H1 locs ht hvm hp hB hz hk hS => ?_)
  · obtain ⟨hE, hM1⟩ := hB
    rw [ht] at hM1
    have hO1 : OCel D ac H1 b f := hb9.kept (hk b hbl (fun q => q.2 rfl))
    rcases hE with ⟨rfl, hcd⟩ | ⟨rfl, hcd⟩ | ⟨rfl, hcd⟩
    · refine vx_catch (own := RL) (name := xIA) hown [] ⟨0, 12, 15, 13⟩ [⟨0, 12, 19, 15⟩, ⟨0, 12, 23, 20⟩] (by rw [htb]; rfl) (by intro z hz; cases hz) (by decide) (by decide) (hts (Cond.classLink RL 13 xIA) (by decide +kernel)) (hX.2.2.use (.castable xIA xIA) (by decide +kernel)) hcell hv9 hcl ?_
      refine lv_astore (lv' := [(5, .ref q9), (0, .ref (adr 0)), (1, .int x), (2, .int y), (3, .int z), (4, .ref b)]) hx hb dL_translate_15 hl (by decide) rfl (fun ls hl => ?_)
      refine lv_iconst (v := 1) hx hb dL_translate_17 (by decide) ?_
      rw [hQ0]
      exact e_h (u := (N, adr, w, f)) hx hb hlocks hr dL_translate_18 (Nat.le_of_ble_eq_true rfl) (Nat.le_of_ble_eq_true rfl) hM1 hO1 hS (HPo.no (c := 1) hcd (by decide) rfl)
    · refine vx_catch (own := RL) (name := xIS) hown [⟨0, 12, 15, 13⟩] ⟨0, 12, 19, 15⟩ [⟨0, 12, 23, 20⟩] (by rw [htb]; rfl) (by intro z hz; simp only [List.mem_cons, List.not_mem_nil, or_false] at hz; rcases hz with rfl <;> first | exact Or.inr ⟨by decide, xIA, hts (Cond.classLink RL 13 xIA) (by decide +kernel), hC.1⟩) (by decide) (by decide) (hts (Cond.classLink RL 15 xIS) (by decide +kernel)) (hX.2.2.use (.castable xIS xIS) (by decide +kernel)) hcell hv9 hcl ?_
      refine lv_astore (lv' := [(5, .ref q9), (0, .ref (adr 0)), (1, .int x), (2, .int y), (3, .int z), (4, .ref b)]) hx hb dL_translate_19 hl (by decide) rfl (fun ls hl => ?_)
      refine lv_iconst (v := 2) hx hb dL_translate_21 (by decide) ?_
      rw [hQ0]
      exact e_h (u := (N, adr, w, f)) hx hb hlocks hr dL_translate_22 (Nat.le_of_ble_eq_true rfl) (Nat.le_of_ble_eq_true rfl) hM1 hO1 hS (HPo.no (c := 2) hcd (by decide) rfl)
    · refine vx_catch (own := RL) (name := xIO) hown [⟨0, 12, 15, 13⟩, ⟨0, 12, 19, 15⟩] ⟨0, 12, 23, 20⟩ [] (by rw [htb]; rfl) (by intro z hz; simp only [List.mem_cons, List.not_mem_nil, or_false] at hz; rcases hz with rfl | rfl <;> first | exact Or.inr ⟨by decide, xIA, hts (Cond.classLink RL 13 xIA) (by decide +kernel), hC.2.2.1⟩ | exact Or.inr ⟨by decide, xIS, hts (Cond.classLink RL 15 xIS) (by decide +kernel), hC.2.2.2⟩) (by decide) (by decide) (hts (Cond.classLink RL 20 xIO) (by decide +kernel)) (hX.2.2.use (.castable xIO xIO) (by decide +kernel)) hcell hv9 hcl ?_
      refine lv_astore (lv' := [(5, .ref q9), (0, .ref (adr 0)), (1, .int x), (2, .int y), (3, .int z), (4, .ref b)]) hx hb dL_translate_23 hl (by decide) rfl (fun ls hl => ?_)
      refine lv_iconst (v := 3) hx hb dL_translate_25 (by decide) ?_
      rw [hQ0]
      exact e_h (u := (N, adr, w, f)) hx hb hlocks hr dL_translate_26 (Nat.le_of_ble_eq_true rfl) (Nat.le_of_ble_eq_true rfl) hM1 hO1 hS (HPo.no (c := 3) hcd (by decide) rfl)
  · rw [ht] at hB
    have hO1 : OCel D ac H1 b f := hb9.kept (hk b hbl (fun q => q.2 rfl))
    refine lv_i2l (v := r.toInt64) hx hb dL_translate_10 rfl ?_
    refine h_last hx hb hK hB hO1 hAb hS dL_translate_11 (fun H1 locs f1 hB hO1 hf1 hS => ?_)
    refine lv_goto (tgt := 27) hx hb dL_translate_12 (by decide) ?_
    refine lv_iconst (v := 0) hx hb dL_translate_27 (by decide) ?_
    rw [hQ0]
    exact e_h (u := (N, adr, uq, f1)) hx hb hlocks hr dL_translate_28 (Nat.le_of_ble_eq_true rfl) (Nat.le_of_ble_eq_true rfl) hB hO1 hS (Or.inl ⟨rfl, r, ⟨rfl, rfl, hp⟩, hf1⟩)
set_option maxHeartbeats 4000000 in
set_option maxRecDepth 100000 in
/-- the law's helper deliver -/
theorem kL_deliver (l : Launch) (D : va_G) (ac : Nat → ClassId) (H : Heap) (A : Nat → Prop) (N : Nat) (adr : Nat → Nat) (w : Nat → va_E) (b : Nat) (f : Nat → Int64) (hM : MW D (Abt A b) N adr w H) (hb9 : OCel D ac H b f) (hAb : A b) (P : Int32 → (Nat → va_E) → Prop) (code : Nat) (x : Int32) (fs0 : List Value) (h0 : Cel D H (adr 0) (.inr (7, fs0))) (hC9 : WXi l yX7_deliver wsX7_deliver ({ frames := 8, cells := 3, slots := 18, locals := 132 }) [.ref (adr 0), .int x] D ac H (Abt A b) N adr w P (XC2 xIA xIS code) 3 18) : Met l yL_deliver wsL_deliver ({ frames := 9, cells := 3, slots := 18, locals := 155 }) (LPre D ac H A [.ref (adr 0), .int x, .ref b]) (va_Qi (HPo code (fun v N9 a9 w9 => N9 = N ∧ a9 = adr ∧ P v w9) N adr w f) (HB D ac A b) A) 3 18 A := by
  refine va_MetW (cc := cL_deliver) (maxL := 4) (ret := (some .int)) (hh := [(0, 9, 12, 13), (0, 9, 15, 15)]) (by decide) rfl ?_
  intro p e s m args below meth c s₁ B hml hv
  obtain ⟨hargs, hsz, hK, hX, hC⟩ := hv
  have hx := B.exec
  have hb := B.bytes
  have hr := B.returns
  have hts := atoms_spec (ws := wsL_deliver) B.pre
  have hown : s.vm.findClass RL = some m.cls := findClass_of_methodNamed B.named
  have hlocks := B.notSynchronized
  have htb := vx_table (x := yL_deliver) B (hts _ List.mem_cons_self)
  subst hsz
  have hS : va_S A s.heap s.heap [] := va_S.rf
  have hX1 : XQ (Abt A b) s s.heap := hX.narrow (fun q h => h.1)
  have hbl : b < s.heap.size := hb9.lt
  have hl := lv_entry ([.ref (adr 0), .int x, .ref b]) (n := 4) (Nat.le_of_ble_eq_true rfl)
  have hen := lg_entry_eq m [.ref (adr 0), .int x, .ref b] 4
  rw [← hargs] at hen
  rw [hen]
  generalize (lg_sl ([.ref (adr 0), .int x, .ref b]) ++ List.replicate (4 - (lg_sl ([.ref (adr 0), .int x, .ref b])).length) Slot.unset).toArray = ls at hl ⊢
  have hl : lv_has ls 4 [(0, .ref (adr 0)), (1, .int x), (2, .ref b)] := hl
  obtain ⟨Q0, hQ0⟩ : ∃ z, z = MQ below (va_Qi (HPo code (fun v N9 a9 w9 => N9 = N ∧ a9 = adr ∧ P v w9) N adr w f) (HB D ac A b) A) args s 3 18 A := ⟨_, rfl⟩
  rw [← hQ0]
  refine lv_aload_n hx hb dL_deliver_0 rfl (lv_at hl 2 rfl) ?_
  refine lv_iconst (v := 0) hx hb dL_deliver_1 (by decide) ?_
  refine lv_aload_n hx hb dL_deliver_2 rfl (lv_at hl 0 rfl) ?_
  refine lv_iload_n hx hb dL_deliver_3 rfl (lv_at hl 1 rfl) ?_
  refine vx_calli (vx_runV (As := [.int x]) (rest := [.int 0, .ref b]) ⟨hx, hb, hml, hown, hts⟩ hC9 (cwV 1 hts gL_deliver_X7_deliver rfl rfl rfl (by decide +kernel) ⟨(Nat.le_of_ble_eq_true rfl), (Nat.le_of_ble_eq_true rfl)⟩) (pVX hK hX1 (ci := 7) rfl h0) rfl rfl hl.1 rfl (lv_room (Nat.le_of_ble_eq_true rfl)) dL_deliver_4 ⟨(Nat.le_of_ble_eq_true rfl), (Nat.le_of_ble_eq_true rfl)⟩) hS (fun q _ h => h.1) (fun q h => h.1) (fun q _ h => h.1) (fun E ce q9 uq t H1 locs ht hvm _ hB hz hk hS hcell hv9 hcl => ?_) (fun r uq t H1 locs ht hvm hp hB hz hk hS => ?_)
  · obtain ⟨hE, hM1⟩ := hB
    rw [ht] at hM1
    have hO1 : OCel D ac H1 b f := hb9.kept (hk b hbl (fun q => q.2 rfl))
    rcases hE with ⟨rfl, hcd⟩ | ⟨rfl, hcd⟩
    · refine vx_catch (own := RL) (name := xIA) hown [] ⟨0, 9, 12, 13⟩ [⟨0, 9, 15, 15⟩] (by rw [htb]; rfl) (by intro z hz; cases hz) (by decide) (by decide) (hts (Cond.classLink RL 13 xIA) (by decide +kernel)) (hX.2.2.use (.castable xIA xIA) (by decide +kernel)) hcell hv9 hcl ?_
      refine lv_astore_n (lv' := [(3, .ref q9), (0, .ref (adr 0)), (1, .int x), (2, .ref b)]) hx hb dL_deliver_12 rfl hl (by decide) rfl (fun ls hl => ?_)
      refine lv_iconst (v := 1) hx hb dL_deliver_13 (by decide) ?_
      rw [hQ0]
      exact e_h (u := (N, adr, w, f)) hx hb hlocks hr dL_deliver_14 (Nat.le_of_ble_eq_true rfl) (Nat.le_of_ble_eq_true rfl) hM1 hO1 hS (HPo.no (c := 1) hcd (by decide) rfl)
    · refine vx_catch (own := RL) (name := xIS) hown [⟨0, 9, 12, 13⟩] ⟨0, 9, 15, 15⟩ [] (by rw [htb]; rfl) (by intro z hz; simp only [List.mem_cons, List.not_mem_nil, or_false] at hz; rcases hz with rfl <;> first | exact Or.inr ⟨by decide, xIA, hts (Cond.classLink RL 13 xIA) (by decide +kernel), hC.1⟩) (by decide) (by decide) (hts (Cond.classLink RL 15 xIS) (by decide +kernel)) (hX.2.2.use (.castable xIS xIS) (by decide +kernel)) hcell hv9 hcl ?_
      refine lv_astore_n (lv' := [(3, .ref q9), (0, .ref (adr 0)), (1, .int x), (2, .ref b)]) hx hb dL_deliver_15 rfl hl (by decide) rfl (fun ls hl => ?_)
      refine lv_iconst (v := 2) hx hb dL_deliver_16 (by decide) ?_
      rw [hQ0]
      exact e_h (u := (N, adr, w, f)) hx hb hlocks hr dL_deliver_17 (Nat.le_of_ble_eq_true rfl) (Nat.le_of_ble_eq_true rfl) hM1 hO1 hS (HPo.no (c := 2) hcd (by decide) rfl)
  · rw [ht] at hB
    have hO1 : OCel D ac H1 b f := hb9.kept (hk b hbl (fun q => q.2 rfl))
    refine lv_i2l (v := r.toInt64) hx hb dL_deliver_7 rfl ?_
    refine h_last hx hb hK hB hO1 hAb hS dL_deliver_8 (fun H1 locs f1 hB hO1 hf1 hS => ?_)
    refine lv_goto (tgt := 18) hx hb dL_deliver_9 (by decide) ?_
    refine lv_iconst (v := 0) hx hb dL_deliver_18 (by decide) ?_
    rw [hQ0]
    exact e_h (u := (N, adr, uq, f1)) hx hb hlocks hr dL_deliver_19 (Nat.le_of_ble_eq_true rfl) (Nat.le_of_ble_eq_true rfl) hB hO1 hS (Or.inl ⟨rfl, r, ⟨rfl, rfl, hp⟩, hf1⟩)
set_option maxHeartbeats 4000000 in
set_option maxRecDepth 100000 in
/-- the law's helper why -/
theorem kL_why (l : Launch) (D : va_G) (ac : Nat → ClassId) (H : Heap) (A : Nat → Prop) (N : Nat) (adr : Nat → Nat) (w : Nat → va_E) (b : Nat) (f : Nat → Int64) (hM : MW D (Abt A b) N adr w H) (hb9 : OCel D ac H b f) (hAb : A b) (P : Int32 → (Nat → va_E) → Prop) (code : Nat) (x : Int32) (fs0 : List Value) (h0 : Cel D H (adr 0) (.inr (7, fs0))) (hC9 : WXi l yX7_why wsX7_why ({ frames := 8, cells := 2, slots := 12, locals := 132 }) [.ref (adr 0), .int x] D ac H (Abt A b) N adr w P (XC2 xIA xIS code) 2 12) : Met l yL_why wsL_why ({ frames := 9, cells := 2, slots := 12, locals := 153 }) (LPre D ac H A [.ref (adr 0), .int x, .ref b]) (va_Qi (HPo code (fun v N9 a9 w9 => N9 = N ∧ a9 = adr ∧ P v w9) N adr w f) (HB D ac A b) A) 2 12 A := by
  refine va_MetW (cc := cL_why) (maxL := 4) (ret := (some .int)) (hh := [(0, 9, 12, 13), (0, 9, 15, 15)]) (by decide) rfl ?_
  intro p e s m args below meth c s₁ B hml hv
  obtain ⟨hargs, hsz, hK, hX, hC⟩ := hv
  have hx := B.exec
  have hb := B.bytes
  have hr := B.returns
  have hts := atoms_spec (ws := wsL_why) B.pre
  have hown : s.vm.findClass RL = some m.cls := findClass_of_methodNamed B.named
  have hlocks := B.notSynchronized
  have htb := vx_table (x := yL_why) B (hts _ List.mem_cons_self)
  subst hsz
  have hS : va_S A s.heap s.heap [] := va_S.rf
  have hX1 : XQ (Abt A b) s s.heap := hX.narrow (fun q h => h.1)
  have hbl : b < s.heap.size := hb9.lt
  have hl := lv_entry ([.ref (adr 0), .int x, .ref b]) (n := 4) (Nat.le_of_ble_eq_true rfl)
  have hen := lg_entry_eq m [.ref (adr 0), .int x, .ref b] 4
  rw [← hargs] at hen
  rw [hen]
  generalize (lg_sl ([.ref (adr 0), .int x, .ref b]) ++ List.replicate (4 - (lg_sl ([.ref (adr 0), .int x, .ref b])).length) Slot.unset).toArray = ls at hl ⊢
  have hl : lv_has ls 4 [(0, .ref (adr 0)), (1, .int x), (2, .ref b)] := hl
  obtain ⟨Q0, hQ0⟩ : ∃ z, z = MQ below (va_Qi (HPo code (fun v N9 a9 w9 => N9 = N ∧ a9 = adr ∧ P v w9) N adr w f) (HB D ac A b) A) args s 2 12 A := ⟨_, rfl⟩
  rw [← hQ0]
  refine lv_aload_n hx hb dL_why_0 rfl (lv_at hl 2 rfl) ?_
  refine lv_iconst (v := 0) hx hb dL_why_1 (by decide) ?_
  refine lv_aload_n hx hb dL_why_2 rfl (lv_at hl 0 rfl) ?_
  refine lv_iload_n hx hb dL_why_3 rfl (lv_at hl 1 rfl) ?_
  refine vx_calli (vx_runV (As := [.int x]) (rest := [.int 0, .ref b]) ⟨hx, hb, hml, hown, hts⟩ hC9 (cwV 1 hts gL_why_X7_why rfl rfl rfl (by decide +kernel) ⟨(Nat.le_of_ble_eq_true rfl), (Nat.le_of_ble_eq_true rfl)⟩) (pVX hK hX1 (ci := 7) rfl h0) rfl rfl hl.1 rfl (lv_room (Nat.le_of_ble_eq_true rfl)) dL_why_4 ⟨(Nat.le_of_ble_eq_true rfl), (Nat.le_of_ble_eq_true rfl)⟩) hS (fun q _ h => h.1) (fun q h => h.1) (fun q _ h => h.1) (fun E ce q9 uq t H1 locs ht hvm _ hB hz hk hS hcell hv9 hcl => ?_) (fun r uq t H1 locs ht hvm hp hB hz hk hS => ?_)
  · obtain ⟨hE, hM1⟩ := hB
    rw [ht] at hM1
    have hO1 : OCel D ac H1 b f := hb9.kept (hk b hbl (fun q => q.2 rfl))
    rcases hE with ⟨rfl, hcd⟩ | ⟨rfl, hcd⟩
    · refine vx_catch (own := RL) (name := xIA) hown [] ⟨0, 9, 12, 13⟩ [⟨0, 9, 15, 15⟩] (by rw [htb]; rfl) (by intro z hz; cases hz) (by decide) (by decide) (hts (Cond.classLink RL 13 xIA) (by decide +kernel)) (hX.2.2.use (.castable xIA xIA) (by decide +kernel)) hcell hv9 hcl ?_
      refine lv_astore_n (lv' := [(3, .ref q9), (0, .ref (adr 0)), (1, .int x), (2, .ref b)]) hx hb dL_why_12 rfl hl (by decide) rfl (fun ls hl => ?_)
      refine lv_iconst (v := 1) hx hb dL_why_13 (by decide) ?_
      rw [hQ0]
      exact e_h (u := (N, adr, w, f)) hx hb hlocks hr dL_why_14 (Nat.le_of_ble_eq_true rfl) (Nat.le_of_ble_eq_true rfl) hM1 hO1 hS (HPo.no (c := 1) hcd (by decide) rfl)
    · refine vx_catch (own := RL) (name := xIS) hown [⟨0, 9, 12, 13⟩] ⟨0, 9, 15, 15⟩ [] (by rw [htb]; rfl) (by intro z hz; simp only [List.mem_cons, List.not_mem_nil, or_false] at hz; rcases hz with rfl <;> first | exact Or.inr ⟨by decide, xIA, hts (Cond.classLink RL 13 xIA) (by decide +kernel), hC.1⟩) (by decide) (by decide) (hts (Cond.classLink RL 15 xIS) (by decide +kernel)) (hX.2.2.use (.castable xIS xIS) (by decide +kernel)) hcell hv9 hcl ?_
      refine lv_astore_n (lv' := [(3, .ref q9), (0, .ref (adr 0)), (1, .int x), (2, .ref b)]) hx hb dL_why_15 rfl hl (by decide) rfl (fun ls hl => ?_)
      refine lv_iconst (v := 2) hx hb dL_why_16 (by decide) ?_
      rw [hQ0]
      exact e_h (u := (N, adr, w, f)) hx hb hlocks hr dL_why_17 (Nat.le_of_ble_eq_true rfl) (Nat.le_of_ble_eq_true rfl) hM1 hO1 hS (HPo.no (c := 2) hcd (by decide) rfl)
  · rw [ht] at hB
    have hO1 : OCel D ac H1 b f := hb9.kept (hk b hbl (fun q => q.2 rfl))
    refine lv_i2l (v := r.toInt64) hx hb dL_why_7 rfl ?_
    refine h_last hx hb hK hB hO1 hAb hS dL_why_8 (fun H1 locs f1 hB hO1 hf1 hS => ?_)
    refine lv_goto (tgt := 18) hx hb dL_why_9 (by decide) ?_
    refine lv_iconst (v := 0) hx hb dL_why_18 (by decide) ?_
    rw [hQ0]
    exact e_h (u := (N, adr, uq, f1)) hx hb hlocks hr dL_why_19 (Nat.le_of_ble_eq_true rfl) (Nat.le_of_ble_eq_true rfl) hB hO1 hS (Or.inl ⟨rfl, r, ⟨rfl, rfl, hp⟩, hf1⟩)
set_option maxHeartbeats 4000000 in
set_option maxRecDepth 100000 in
/-- the law's helper wherefore -/
theorem kL_wherefore (l : Launch) (D : va_G) (ac : Nat → ClassId) (H : Heap) (A : Nat → Prop) (N : Nat) (adr : Nat → Nat) (w : Nat → va_E) (b : Nat) (f : Nat → Int64) (hM : MW D (Abt A b) N adr w H) (hb9 : OCel D ac H b f) (hAb : A b) (P : Int32 → (Nat → va_E) → Prop) (code : Nat) (x : Int32) (fs0 : List Value) (h0 : Cel D H (adr 0) (.inr (7, fs0))) (hC9 : WXi l yX7_wherefore wsX7_wherefore ({ frames := 8, cells := 2, slots := 12, locals := 133 }) [.ref (adr 0), .int x] D ac H (Abt A b) N adr w P (XC2 xIA xIS code) 2 12) : Met l yL_wherefore wsL_wherefore ({ frames := 9, cells := 2, slots := 12, locals := 154 }) (LPre D ac H A [.ref (adr 0), .int x, .ref b]) (va_Qi (HPo code (fun v N9 a9 w9 => N9 = N ∧ a9 = adr ∧ P v w9) N adr w f) (HB D ac A b) A) 2 12 A := by
  refine va_MetW (cc := cL_wherefore) (maxL := 4) (ret := (some .int)) (hh := [(0, 9, 12, 13), (0, 9, 15, 15)]) (by decide) rfl ?_
  intro p e s m args below meth c s₁ B hml hv
  obtain ⟨hargs, hsz, hK, hX, hC⟩ := hv
  have hx := B.exec
  have hb := B.bytes
  have hr := B.returns
  have hts := atoms_spec (ws := wsL_wherefore) B.pre
  have hown : s.vm.findClass RL = some m.cls := findClass_of_methodNamed B.named
  have hlocks := B.notSynchronized
  have htb := vx_table (x := yL_wherefore) B (hts _ List.mem_cons_self)
  subst hsz
  have hS : va_S A s.heap s.heap [] := va_S.rf
  have hX1 : XQ (Abt A b) s s.heap := hX.narrow (fun q h => h.1)
  have hbl : b < s.heap.size := hb9.lt
  have hl := lv_entry ([.ref (adr 0), .int x, .ref b]) (n := 4) (Nat.le_of_ble_eq_true rfl)
  have hen := lg_entry_eq m [.ref (adr 0), .int x, .ref b] 4
  rw [← hargs] at hen
  rw [hen]
  generalize (lg_sl ([.ref (adr 0), .int x, .ref b]) ++ List.replicate (4 - (lg_sl ([.ref (adr 0), .int x, .ref b])).length) Slot.unset).toArray = ls at hl ⊢
  have hl : lv_has ls 4 [(0, .ref (adr 0)), (1, .int x), (2, .ref b)] := hl
  obtain ⟨Q0, hQ0⟩ : ∃ z, z = MQ below (va_Qi (HPo code (fun v N9 a9 w9 => N9 = N ∧ a9 = adr ∧ P v w9) N adr w f) (HB D ac A b) A) args s 2 12 A := ⟨_, rfl⟩
  rw [← hQ0]
  refine lv_aload_n hx hb dL_wherefore_0 rfl (lv_at hl 2 rfl) ?_
  refine lv_iconst (v := 0) hx hb dL_wherefore_1 (by decide) ?_
  refine lv_aload_n hx hb dL_wherefore_2 rfl (lv_at hl 0 rfl) ?_
  refine lv_iload_n hx hb dL_wherefore_3 rfl (lv_at hl 1 rfl) ?_
  refine vx_calli (vx_runV (As := [.int x]) (rest := [.int 0, .ref b]) ⟨hx, hb, hml, hown, hts⟩ hC9 (cwV 1 hts gL_wherefore_X7_wherefore rfl rfl rfl (by decide +kernel) ⟨(Nat.le_of_ble_eq_true rfl), (Nat.le_of_ble_eq_true rfl)⟩) (pVX hK hX1 (ci := 7) rfl h0) rfl rfl hl.1 rfl (lv_room (Nat.le_of_ble_eq_true rfl)) dL_wherefore_4 ⟨(Nat.le_of_ble_eq_true rfl), (Nat.le_of_ble_eq_true rfl)⟩) hS (fun q _ h => h.1) (fun q h => h.1) (fun q _ h => h.1) (fun E ce q9 uq t H1 locs ht hvm _ hB hz hk hS hcell hv9 hcl => ?_) (fun r uq t H1 locs ht hvm hp hB hz hk hS => ?_)
  · obtain ⟨hE, hM1⟩ := hB
    rw [ht] at hM1
    have hO1 : OCel D ac H1 b f := hb9.kept (hk b hbl (fun q => q.2 rfl))
    rcases hE with ⟨rfl, hcd⟩ | ⟨rfl, hcd⟩
    · refine vx_catch (own := RL) (name := xIA) hown [] ⟨0, 9, 12, 13⟩ [⟨0, 9, 15, 15⟩] (by rw [htb]; rfl) (by intro z hz; cases hz) (by decide) (by decide) (hts (Cond.classLink RL 13 xIA) (by decide +kernel)) (hX.2.2.use (.castable xIA xIA) (by decide +kernel)) hcell hv9 hcl ?_
      refine lv_astore_n (lv' := [(3, .ref q9), (0, .ref (adr 0)), (1, .int x), (2, .ref b)]) hx hb dL_wherefore_12 rfl hl (by decide) rfl (fun ls hl => ?_)
      refine lv_iconst (v := 1) hx hb dL_wherefore_13 (by decide) ?_
      rw [hQ0]
      exact e_h (u := (N, adr, w, f)) hx hb hlocks hr dL_wherefore_14 (Nat.le_of_ble_eq_true rfl) (Nat.le_of_ble_eq_true rfl) hM1 hO1 hS (HPo.no (c := 1) hcd (by decide) rfl)
    · refine vx_catch (own := RL) (name := xIS) hown [⟨0, 9, 12, 13⟩] ⟨0, 9, 15, 15⟩ [] (by rw [htb]; rfl) (by intro z hz; simp only [List.mem_cons, List.not_mem_nil, or_false] at hz; rcases hz with rfl <;> first | exact Or.inr ⟨by decide, xIA, hts (Cond.classLink RL 13 xIA) (by decide +kernel), hC.1⟩) (by decide) (by decide) (hts (Cond.classLink RL 15 xIS) (by decide +kernel)) (hX.2.2.use (.castable xIS xIS) (by decide +kernel)) hcell hv9 hcl ?_
      refine lv_astore_n (lv' := [(3, .ref q9), (0, .ref (adr 0)), (1, .int x), (2, .ref b)]) hx hb dL_wherefore_15 rfl hl (by decide) rfl (fun ls hl => ?_)
      refine lv_iconst (v := 2) hx hb dL_wherefore_16 (by decide) ?_
      rw [hQ0]
      exact e_h (u := (N, adr, w, f)) hx hb hlocks hr dL_wherefore_17 (Nat.le_of_ble_eq_true rfl) (Nat.le_of_ble_eq_true rfl) hM1 hO1 hS (HPo.no (c := 2) hcd (by decide) rfl)
  · rw [ht] at hB
    have hO1 : OCel D ac H1 b f := hb9.kept (hk b hbl (fun q => q.2 rfl))
    refine lv_i2l (v := r.toInt64) hx hb dL_wherefore_7 rfl ?_
    refine h_last hx hb hK hB hO1 hAb hS dL_wherefore_8 (fun H1 locs f1 hB hO1 hf1 hS => ?_)
    refine lv_goto (tgt := 18) hx hb dL_wherefore_9 (by decide) ?_
    refine lv_iconst (v := 0) hx hb dL_wherefore_18 (by decide) ?_
    rw [hQ0]
    exact e_h (u := (N, adr, uq, f1)) hx hb hlocks hr dL_wherefore_19 (Nat.le_of_ble_eq_true rfl) (Nat.le_of_ble_eq_true rfl) hB hO1 hS (Or.inl ⟨rfl, r, ⟨rfl, rfl, hp⟩, hf1⟩)
set_option maxHeartbeats 4000000 in
set_option maxRecDepth 100000 in
/-- the law's helper became -/
theorem kL_became (l : Launch) (D : va_G) (ac : Nat → ClassId) (H : Heap) (A : Nat → Prop) (N : Nat) (adr : Nat → Nat) (w : Nat → va_E) (b : Nat) (f : Nat → Int64) (hM : MW D (Abt A b) N adr w H) (hb9 : OCel D ac H b f) (hAb : A b) (P : Int32 → (Nat → va_E) → Prop) (code : Nat) (x y : Int32) (fs0 : List Value) (h0 : Cel D H (adr 0) (.inr (7, fs0))) (hC9 : WXi l yX7_became wsX7_became ({ frames := 8, cells := 3, slots := 18, locals := 131 }) [.ref (adr 0), .int x, .int y] D ac H (Abt A b) N adr w P (XC3 xIA xIS xIO code) 3 18) : Met l yL_became wsL_became ({ frames := 9, cells := 3, slots := 18, locals := 154 }) (LPre D ac H A [.ref (adr 0), .int x, .int y, .ref b]) (va_Qi (HPo code (fun v N9 a9 w9 => N9 = N ∧ a9 = adr ∧ P v w9) N adr w f) (HB D ac A b) A) 3 18 A := by
  refine va_MetW (cc := cL_became) (maxL := 5) (ret := (some .int)) (hh := [(0, 10, 13, 13), (0, 10, 17, 15), (0, 10, 21, 20)]) (by decide) rfl ?_
  intro p e s m args below meth c s₁ B hml hv
  obtain ⟨hargs, hsz, hK, hX, hC⟩ := hv
  have hx := B.exec
  have hb := B.bytes
  have hr := B.returns
  have hts := atoms_spec (ws := wsL_became) B.pre
  have hown : s.vm.findClass RL = some m.cls := findClass_of_methodNamed B.named
  have hlocks := B.notSynchronized
  have htb := vx_table (x := yL_became) B (hts _ List.mem_cons_self)
  subst hsz
  have hS : va_S A s.heap s.heap [] := va_S.rf
  have hX1 : XQ (Abt A b) s s.heap := hX.narrow (fun q h => h.1)
  have hbl : b < s.heap.size := hb9.lt
  have hl := lv_entry ([.ref (adr 0), .int x, .int y, .ref b]) (n := 5) (Nat.le_of_ble_eq_true rfl)
  have hen := lg_entry_eq m [.ref (adr 0), .int x, .int y, .ref b] 5
  rw [← hargs] at hen
  rw [hen]
  generalize (lg_sl ([.ref (adr 0), .int x, .int y, .ref b]) ++ List.replicate (5 - (lg_sl ([.ref (adr 0), .int x, .int y, .ref b])).length) Slot.unset).toArray = ls at hl ⊢
  have hl : lv_has ls 5 [(0, .ref (adr 0)), (1, .int x), (2, .int y), (3, .ref b)] := hl
  obtain ⟨Q0, hQ0⟩ : ∃ z, z = MQ below (va_Qi (HPo code (fun v N9 a9 w9 => N9 = N ∧ a9 = adr ∧ P v w9) N adr w f) (HB D ac A b) A) args s 3 18 A := ⟨_, rfl⟩
  rw [← hQ0]
  refine lv_aload_n hx hb dL_became_0 rfl (lv_at hl 3 rfl) ?_
  refine lv_iconst (v := 0) hx hb dL_became_1 (by decide) ?_
  refine lv_aload_n hx hb dL_became_2 rfl (lv_at hl 0 rfl) ?_
  refine lv_iload_n hx hb dL_became_3 rfl (lv_at hl 1 rfl) ?_
  refine lv_iload_n hx hb dL_became_4 rfl (lv_at hl 2 rfl) ?_
  refine vx_calli (vx_runV (As := [.int x, .int y]) (rest := [.int 0, .ref b]) ⟨hx, hb, hml, hown, hts⟩ hC9 (cwV 2 hts gL_became_X7_became rfl rfl rfl (by decide +kernel) ⟨(Nat.le_of_ble_eq_true rfl), (Nat.le_of_ble_eq_true rfl)⟩) (pVX hK hX1 (ci := 7) rfl h0) rfl rfl hl.1 rfl (lv_room (Nat.le_of_ble_eq_true rfl)) dL_became_5 ⟨(Nat.le_of_ble_eq_true rfl), (Nat.le_of_ble_eq_true rfl)⟩) hS (fun q _ h => h.1) (fun q h => h.1) (fun q _ h => h.1) (fun E ce q9 uq t H1 locs ht hvm _ hB hz hk hS hcell hv9 hcl => ?_) (fun r uq t H1 locs ht hvm hp hB hz hk hS => ?_)
  · obtain ⟨hE, hM1⟩ := hB
    rw [ht] at hM1
    have hO1 : OCel D ac H1 b f := hb9.kept (hk b hbl (fun q => q.2 rfl))
    rcases hE with ⟨rfl, hcd⟩ | ⟨rfl, hcd⟩ | ⟨rfl, hcd⟩
    · refine vx_catch (own := RL) (name := xIA) hown [] ⟨0, 10, 13, 13⟩ [⟨0, 10, 17, 15⟩, ⟨0, 10, 21, 20⟩] (by rw [htb]; rfl) (by intro z hz; cases hz) (by decide) (by decide) (hts (Cond.classLink RL 13 xIA) (by decide +kernel)) (hX.2.2.use (.castable xIA xIA) (by decide +kernel)) hcell hv9 hcl ?_
      refine lv_astore (lv' := [(4, .ref q9), (0, .ref (adr 0)), (1, .int x), (2, .int y), (3, .ref b)]) hx hb dL_became_13 hl (by decide) rfl (fun ls hl => ?_)
      refine lv_iconst (v := 1) hx hb dL_became_15 (by decide) ?_
      rw [hQ0]
      exact e_h (u := (N, adr, w, f)) hx hb hlocks hr dL_became_16 (Nat.le_of_ble_eq_true rfl) (Nat.le_of_ble_eq_true rfl) hM1 hO1 hS (HPo.no (c := 1) hcd (by decide) rfl)
    · refine vx_catch (own := RL) (name := xIS) hown [⟨0, 10, 13, 13⟩] ⟨0, 10, 17, 15⟩ [⟨0, 10, 21, 20⟩] (by rw [htb]; rfl) (by intro z hz; simp only [List.mem_cons, List.not_mem_nil, or_false] at hz; rcases hz with rfl <;> first | exact Or.inr ⟨by decide, xIA, hts (Cond.classLink RL 13 xIA) (by decide +kernel), hC.1⟩) (by decide) (by decide) (hts (Cond.classLink RL 15 xIS) (by decide +kernel)) (hX.2.2.use (.castable xIS xIS) (by decide +kernel)) hcell hv9 hcl ?_
      refine lv_astore (lv' := [(4, .ref q9), (0, .ref (adr 0)), (1, .int x), (2, .int y), (3, .ref b)]) hx hb dL_became_17 hl (by decide) rfl (fun ls hl => ?_)
      refine lv_iconst (v := 2) hx hb dL_became_19 (by decide) ?_
      rw [hQ0]
      exact e_h (u := (N, adr, w, f)) hx hb hlocks hr dL_became_20 (Nat.le_of_ble_eq_true rfl) (Nat.le_of_ble_eq_true rfl) hM1 hO1 hS (HPo.no (c := 2) hcd (by decide) rfl)
    · refine vx_catch (own := RL) (name := xIO) hown [⟨0, 10, 13, 13⟩, ⟨0, 10, 17, 15⟩] ⟨0, 10, 21, 20⟩ [] (by rw [htb]; rfl) (by intro z hz; simp only [List.mem_cons, List.not_mem_nil, or_false] at hz; rcases hz with rfl | rfl <;> first | exact Or.inr ⟨by decide, xIA, hts (Cond.classLink RL 13 xIA) (by decide +kernel), hC.2.2.1⟩ | exact Or.inr ⟨by decide, xIS, hts (Cond.classLink RL 15 xIS) (by decide +kernel), hC.2.2.2⟩) (by decide) (by decide) (hts (Cond.classLink RL 20 xIO) (by decide +kernel)) (hX.2.2.use (.castable xIO xIO) (by decide +kernel)) hcell hv9 hcl ?_
      refine lv_astore (lv' := [(4, .ref q9), (0, .ref (adr 0)), (1, .int x), (2, .int y), (3, .ref b)]) hx hb dL_became_21 hl (by decide) rfl (fun ls hl => ?_)
      refine lv_iconst (v := 3) hx hb dL_became_23 (by decide) ?_
      rw [hQ0]
      exact e_h (u := (N, adr, w, f)) hx hb hlocks hr dL_became_24 (Nat.le_of_ble_eq_true rfl) (Nat.le_of_ble_eq_true rfl) hM1 hO1 hS (HPo.no (c := 3) hcd (by decide) rfl)
  · rw [ht] at hB
    have hO1 : OCel D ac H1 b f := hb9.kept (hk b hbl (fun q => q.2 rfl))
    refine lv_i2l (v := r.toInt64) hx hb dL_became_8 rfl ?_
    refine h_last hx hb hK hB hO1 hAb hS dL_became_9 (fun H1 locs f1 hB hO1 hf1 hS => ?_)
    refine lv_goto (tgt := 25) hx hb dL_became_10 (by decide) ?_
    refine lv_iconst (v := 0) hx hb dL_became_25 (by decide) ?_
    rw [hQ0]
    exact e_h (u := (N, adr, uq, f1)) hx hb hlocks hr dL_became_26 (Nat.le_of_ble_eq_true rfl) (Nat.le_of_ble_eq_true rfl) hB hO1 hS (Or.inl ⟨rfl, r, ⟨rfl, rfl, hp⟩, hf1⟩)
set_option maxHeartbeats 4000000 in
set_option maxRecDepth 100000 in
/-- the law's helper match -/
theorem kL_match (l : Launch) (D : va_G) (ac : Nat → ClassId) (H : Heap) (A : Nat → Prop) (N : Nat) (adr : Nat → Nat) (w : Nat → va_E) (b : Nat) (f : Nat → Int64) (hM : MW D (Abt A b) N adr w H) (hb9 : OCel D ac H b f) (hAb : A b) (P : Int32 → (Nat → va_E) → Prop) (code : Nat) (x : Int32) (fs0 : List Value) (h0 : Cel D H (adr 0) (.inr (7, fs0))) (hC9 : WXi l yX7_match wsX7_match ({ frames := 8, cells := 2, slots := 12, locals := 131 }) [.ref (adr 0), .int x] D ac H (Abt A b) N adr w P (XC2 xIA xIS code) 2 12) : Met l yL_match wsL_match ({ frames := 9, cells := 2, slots := 12, locals := 152 }) (LPre D ac H A [.ref (adr 0), .int x, .ref b]) (va_Qi (HPo code (fun v N9 a9 w9 => N9 = N ∧ a9 = adr ∧ P v w9) N adr w f) (HB D ac A b) A) 2 12 A := by
  refine va_MetW (cc := cL_match) (maxL := 4) (ret := (some .int)) (hh := [(0, 9, 12, 13), (0, 9, 15, 15)]) (by decide) rfl ?_
  intro p e s m args below meth c s₁ B hml hv
  obtain ⟨hargs, hsz, hK, hX, hC⟩ := hv
  have hx := B.exec
  have hb := B.bytes
  have hr := B.returns
  have hts := atoms_spec (ws := wsL_match) B.pre
  have hown : s.vm.findClass RL = some m.cls := findClass_of_methodNamed B.named
  have hlocks := B.notSynchronized
  have htb := vx_table (x := yL_match) B (hts _ List.mem_cons_self)
  subst hsz
  have hS : va_S A s.heap s.heap [] := va_S.rf
  have hX1 : XQ (Abt A b) s s.heap := hX.narrow (fun q h => h.1)
  have hbl : b < s.heap.size := hb9.lt
  have hl := lv_entry ([.ref (adr 0), .int x, .ref b]) (n := 4) (Nat.le_of_ble_eq_true rfl)
  have hen := lg_entry_eq m [.ref (adr 0), .int x, .ref b] 4
  rw [← hargs] at hen
  rw [hen]
  generalize (lg_sl ([.ref (adr 0), .int x, .ref b]) ++ List.replicate (4 - (lg_sl ([.ref (adr 0), .int x, .ref b])).length) Slot.unset).toArray = ls at hl ⊢
  have hl : lv_has ls 4 [(0, .ref (adr 0)), (1, .int x), (2, .ref b)] := hl
  obtain ⟨Q0, hQ0⟩ : ∃ z, z = MQ below (va_Qi (HPo code (fun v N9 a9 w9 => N9 = N ∧ a9 = adr ∧ P v w9) N adr w f) (HB D ac A b) A) args s 2 12 A := ⟨_, rfl⟩
  rw [← hQ0]
  refine lv_aload_n hx hb dL_match_0 rfl (lv_at hl 2 rfl) ?_
  refine lv_iconst (v := 0) hx hb dL_match_1 (by decide) ?_
  refine lv_aload_n hx hb dL_match_2 rfl (lv_at hl 0 rfl) ?_
  refine lv_iload_n hx hb dL_match_3 rfl (lv_at hl 1 rfl) ?_
  refine vx_calli (vx_runV (As := [.int x]) (rest := [.int 0, .ref b]) ⟨hx, hb, hml, hown, hts⟩ hC9 (cwV 1 hts gL_match_X7_match rfl rfl rfl (by decide +kernel) ⟨(Nat.le_of_ble_eq_true rfl), (Nat.le_of_ble_eq_true rfl)⟩) (pVX hK hX1 (ci := 7) rfl h0) rfl rfl hl.1 rfl (lv_room (Nat.le_of_ble_eq_true rfl)) dL_match_4 ⟨(Nat.le_of_ble_eq_true rfl), (Nat.le_of_ble_eq_true rfl)⟩) hS (fun q _ h => h.1) (fun q h => h.1) (fun q _ h => h.1) (fun E ce q9 uq t H1 locs ht hvm _ hB hz hk hS hcell hv9 hcl => ?_) (fun r uq t H1 locs ht hvm hp hB hz hk hS => ?_)
  · obtain ⟨hE, hM1⟩ := hB
    rw [ht] at hM1
    have hO1 : OCel D ac H1 b f := hb9.kept (hk b hbl (fun q => q.2 rfl))
    rcases hE with ⟨rfl, hcd⟩ | ⟨rfl, hcd⟩
    · refine vx_catch (own := RL) (name := xIA) hown [] ⟨0, 9, 12, 13⟩ [⟨0, 9, 15, 15⟩] (by rw [htb]; rfl) (by intro z hz; cases hz) (by decide) (by decide) (hts (Cond.classLink RL 13 xIA) (by decide +kernel)) (hX.2.2.use (.castable xIA xIA) (by decide +kernel)) hcell hv9 hcl ?_
      refine lv_astore_n (lv' := [(3, .ref q9), (0, .ref (adr 0)), (1, .int x), (2, .ref b)]) hx hb dL_match_12 rfl hl (by decide) rfl (fun ls hl => ?_)
      refine lv_iconst (v := 1) hx hb dL_match_13 (by decide) ?_
      rw [hQ0]
      exact e_h (u := (N, adr, w, f)) hx hb hlocks hr dL_match_14 (Nat.le_of_ble_eq_true rfl) (Nat.le_of_ble_eq_true rfl) hM1 hO1 hS (HPo.no (c := 1) hcd (by decide) rfl)
    · refine vx_catch (own := RL) (name := xIS) hown [⟨0, 9, 12, 13⟩] ⟨0, 9, 15, 15⟩ [] (by rw [htb]; rfl) (by intro z hz; simp only [List.mem_cons, List.not_mem_nil, or_false] at hz; rcases hz with rfl <;> first | exact Or.inr ⟨by decide, xIA, hts (Cond.classLink RL 13 xIA) (by decide +kernel), hC.1⟩) (by decide) (by decide) (hts (Cond.classLink RL 15 xIS) (by decide +kernel)) (hX.2.2.use (.castable xIS xIS) (by decide +kernel)) hcell hv9 hcl ?_
      refine lv_astore_n (lv' := [(3, .ref q9), (0, .ref (adr 0)), (1, .int x), (2, .ref b)]) hx hb dL_match_15 rfl hl (by decide) rfl (fun ls hl => ?_)
      refine lv_iconst (v := 2) hx hb dL_match_16 (by decide) ?_
      rw [hQ0]
      exact e_h (u := (N, adr, w, f)) hx hb hlocks hr dL_match_17 (Nat.le_of_ble_eq_true rfl) (Nat.le_of_ble_eq_true rfl) hM1 hO1 hS (HPo.no (c := 2) hcd (by decide) rfl)
  · rw [ht] at hB
    have hO1 : OCel D ac H1 b f := hb9.kept (hk b hbl (fun q => q.2 rfl))
    refine lv_i2l (v := r.toInt64) hx hb dL_match_7 rfl ?_
    refine h_last hx hb hK hB hO1 hAb hS dL_match_8 (fun H1 locs f1 hB hO1 hf1 hS => ?_)
    refine lv_goto (tgt := 18) hx hb dL_match_9 (by decide) ?_
    refine lv_iconst (v := 0) hx hb dL_match_18 (by decide) ?_
    rw [hQ0]
    exact e_h (u := (N, adr, uq, f1)) hx hb hlocks hr dL_match_19 (Nat.le_of_ble_eq_true rfl) (Nat.le_of_ble_eq_true rfl) hB hO1 hS (Or.inl ⟨rfl, r, ⟨rfl, rfl, hp⟩, hf1⟩)
set_option maxHeartbeats 4000000 in
set_option maxRecDepth 100000 in
/-- the law's helper orderAt -/
theorem kL_orderAt (l : Launch) (D : va_G) (ac : Nat → ClassId) (H : Heap) (A : Nat → Prop) (N : Nat) (adr : Nat → Nat) (w : Nat → va_E) (b : Nat) (f : Nat → Int64) (hM : MW D (Abt A b) N adr w H) (hb9 : OCel D ac H b f) (hAb : A b) (P : Int32 → (Nat → va_E) → Prop) (code : Nat) (x : Int32) (fs0 : List Value) (h0 : Cel D H (adr 0) (.inr (7, fs0))) (hC9 : WXi l yX7_orderAt wsX7_orderAt ({ frames := 6, cells := 1, slots := 6, locals := 89 }) [.ref (adr 0), .int x] D ac H (Abt A b) N adr w P (XC1 xIO code) 1 6) : Met l yL_orderAt wsL_orderAt ({ frames := 7, cells := 1, slots := 6, locals := 111 }) (LPre D ac H A [.ref (adr 0), .int x, .ref b]) (va_Qi (HPo code (fun v N9 a9 w9 => N9 = N ∧ a9 = adr ∧ P v w9) N adr w f) (HB D ac A b) A) 1 6 A := by
  refine va_MetW (cc := cL_orderAt) (maxL := 4) (ret := (some .int)) (hh := [(0, 9, 12, 20)]) (by decide) rfl ?_
  intro p e s m args below meth c s₁ B hml hv
  obtain ⟨hargs, hsz, hK, hX, hC⟩ := hv
  have hx := B.exec
  have hb := B.bytes
  have hr := B.returns
  have hts := atoms_spec (ws := wsL_orderAt) B.pre
  have hown : s.vm.findClass RL = some m.cls := findClass_of_methodNamed B.named
  have hlocks := B.notSynchronized
  have htb := vx_table (x := yL_orderAt) B (hts _ List.mem_cons_self)
  subst hsz
  have hS : va_S A s.heap s.heap [] := va_S.rf
  have hX1 : XQ (Abt A b) s s.heap := hX.narrow (fun q h => h.1)
  have hbl : b < s.heap.size := hb9.lt
  have hl := lv_entry ([.ref (adr 0), .int x, .ref b]) (n := 4) (Nat.le_of_ble_eq_true rfl)
  have hen := lg_entry_eq m [.ref (adr 0), .int x, .ref b] 4
  rw [← hargs] at hen
  rw [hen]
  generalize (lg_sl ([.ref (adr 0), .int x, .ref b]) ++ List.replicate (4 - (lg_sl ([.ref (adr 0), .int x, .ref b])).length) Slot.unset).toArray = ls at hl ⊢
  have hl : lv_has ls 4 [(0, .ref (adr 0)), (1, .int x), (2, .ref b)] := hl
  obtain ⟨Q0, hQ0⟩ : ∃ z, z = MQ below (va_Qi (HPo code (fun v N9 a9 w9 => N9 = N ∧ a9 = adr ∧ P v w9) N adr w f) (HB D ac A b) A) args s 1 6 A := ⟨_, rfl⟩
  rw [← hQ0]
  refine lv_aload_n hx hb dL_orderAt_0 rfl (lv_at hl 2 rfl) ?_
  refine lv_iconst (v := 0) hx hb dL_orderAt_1 (by decide) ?_
  refine lv_aload_n hx hb dL_orderAt_2 rfl (lv_at hl 0 rfl) ?_
  refine lv_iload_n hx hb dL_orderAt_3 rfl (lv_at hl 1 rfl) ?_
  refine vx_calli (vx_runV (As := [.int x]) (rest := [.int 0, .ref b]) ⟨hx, hb, hml, hown, hts⟩ hC9 (cwV 1 hts gL_orderAt_X7_orderAt rfl rfl rfl (by decide +kernel) ⟨(Nat.le_of_ble_eq_true rfl), (Nat.le_of_ble_eq_true rfl)⟩) (pVX hK hX1 (ci := 7) rfl h0) rfl rfl hl.1 rfl (lv_room (Nat.le_of_ble_eq_true rfl)) dL_orderAt_4 ⟨(Nat.le_of_ble_eq_true rfl), (Nat.le_of_ble_eq_true rfl)⟩) hS (fun q _ h => h.1) (fun q h => h.1) (fun q _ h => h.1) (fun E ce q9 uq t H1 locs ht hvm _ hB hz hk hS hcell hv9 hcl => ?_) (fun r uq t H1 locs ht hvm hp hB hz hk hS => ?_)
  · obtain ⟨hE, hM1⟩ := hB
    rw [ht] at hM1
    have hO1 : OCel D ac H1 b f := hb9.kept (hk b hbl (fun q => q.2 rfl))
    obtain ⟨rfl, hcd⟩ := hE
    refine vx_catch (own := RL) (name := xIO) hown [] ⟨0, 9, 12, 20⟩ [] (by rw [htb]; rfl) (by intro z hz; cases hz) (by decide) (by decide) (hts (Cond.classLink RL 20 xIO) (by decide +kernel)) (hX.2.2.use (.castable xIO xIO) (by decide +kernel)) hcell hv9 hcl ?_
    refine lv_astore_n (lv' := [(3, .ref q9), (0, .ref (adr 0)), (1, .int x), (2, .ref b)]) hx hb dL_orderAt_12 rfl hl (by decide) rfl (fun ls hl => ?_)
    refine lv_iconst (v := 1) hx hb dL_orderAt_13 (by decide) ?_
    rw [hQ0]
    exact e_h (u := (N, adr, w, f)) hx hb hlocks hr dL_orderAt_14 (Nat.le_of_ble_eq_true rfl) (Nat.le_of_ble_eq_true rfl) hM1 hO1 hS (HPo.no (c := 1) hcd (by decide) rfl)
  · rw [ht] at hB
    have hO1 : OCel D ac H1 b f := hb9.kept (hk b hbl (fun q => q.2 rfl))
    refine lv_i2l (v := r.toInt64) hx hb dL_orderAt_7 rfl ?_
    refine h_last hx hb hK hB hO1 hAb hS dL_orderAt_8 (fun H1 locs f1 hB hO1 hf1 hS => ?_)
    refine lv_goto (tgt := 15) hx hb dL_orderAt_9 (by decide) ?_
    refine lv_iconst (v := 0) hx hb dL_orderAt_15 (by decide) ?_
    rw [hQ0]
    exact e_h (u := (N, adr, uq, f1)) hx hb hlocks hr dL_orderAt_16 (Nat.le_of_ble_eq_true rfl) (Nat.le_of_ble_eq_true rfl) hB hO1 hS (Or.inl ⟨rfl, r, ⟨rfl, rfl, hp⟩, hf1⟩)
set_option maxHeartbeats 4000000 in
set_option maxRecDepth 100000 in
/-- the law's helper say -/
theorem kL_say (l : Launch) (D : va_G) (ac : Nat → ClassId) (H : Heap) (A : Nat → Prop) (N : Nat) (adr : Nat → Nat) (w : Nat → va_E) (b : Nat) (f : Nat → Int64) (hM : MW D (Abt A b) N adr w H) (hb9 : OCel D ac H b f) (hAb : A b) (P : Int32 → (Nat → va_E) → Prop) (code : Nat) (x y z u : Int32) (fs0 : List Value) (h0 : Cel D H (adr 0) (.inr (7, fs0))) (hC9 : WXi l yX7_say wsX7_say ({ frames := 8, cells := 3, slots := 18, locals := 130 }) [.ref (adr 0), .int x, .int y, .int z, .int u] D ac H (Abt A b) N adr w P (XC1 xIA code) 3 18) : Met l yL_say wsL_say ({ frames := 9, cells := 3, slots := 18, locals := 154 }) (LPre D ac H A [.ref (adr 0), .int x, .int y, .int z, .int u, .ref b]) (va_Qi (HPo code (fun v N9 a9 w9 => N9 = N ∧ a9 = adr ∧ P v w9) N adr w f) (HB D ac A b) A) 3 18 A := by
  refine va_MetW (cc := cL_say) (maxL := 7) (ret := (some .int)) (hh := [(0, 14, 17, 13)]) (by decide) rfl ?_
  intro p e s m args below meth c s₁ B hml hv
  obtain ⟨hargs, hsz, hK, hX, hC⟩ := hv
  have hx := B.exec
  have hb := B.bytes
  have hr := B.returns
  have hts := atoms_spec (ws := wsL_say) B.pre
  have hown : s.vm.findClass RL = some m.cls := findClass_of_methodNamed B.named
  have hlocks := B.notSynchronized
  have htb := vx_table (x := yL_say) B (hts _ List.mem_cons_self)
  subst hsz
  have hS : va_S A s.heap s.heap [] := va_S.rf
  have hX1 : XQ (Abt A b) s s.heap := hX.narrow (fun q h => h.1)
  have hbl : b < s.heap.size := hb9.lt
  have hl := lv_entry ([.ref (adr 0), .int x, .int y, .int z, .int u, .ref b]) (n := 7) (Nat.le_of_ble_eq_true rfl)
  have hen := lg_entry_eq m [.ref (adr 0), .int x, .int y, .int z, .int u, .ref b] 7
  rw [← hargs] at hen
  rw [hen]
  generalize (lg_sl ([.ref (adr 0), .int x, .int y, .int z, .int u, .ref b]) ++ List.replicate (7 - (lg_sl ([.ref (adr 0), .int x, .int y, .int z, .int u, .ref b])).length) Slot.unset).toArray = ls at hl ⊢
  have hl : lv_has ls 7 [(0, .ref (adr 0)), (1, .int x), (2, .int y), (3, .int z), (4, .int u), (5, .ref b)] := hl
  obtain ⟨Q0, hQ0⟩ : ∃ z, z = MQ below (va_Qi (HPo code (fun v N9 a9 w9 => N9 = N ∧ a9 = adr ∧ P v w9) N adr w f) (HB D ac A b) A) args s 3 18 A := ⟨_, rfl⟩
  rw [← hQ0]
  refine lv_aload hx hb dL_say_0 (lv_at hl 5 rfl) ?_
  refine lv_iconst (v := 0) hx hb dL_say_2 (by decide) ?_
  refine lv_aload_n hx hb dL_say_3 rfl (lv_at hl 0 rfl) ?_
  refine lv_iload_n hx hb dL_say_4 rfl (lv_at hl 1 rfl) ?_
  refine lv_iload_n hx hb dL_say_5 rfl (lv_at hl 2 rfl) ?_
  refine lv_iload_n hx hb dL_say_6 rfl (lv_at hl 3 rfl) ?_
  refine lv_iload hx hb dL_say_7 (lv_at hl 4 rfl) ?_
  refine vx_calli (vx_runV (As := [.int x, .int y, .int z, .int u]) (rest := [.int 0, .ref b]) ⟨hx, hb, hml, hown, hts⟩ hC9 (cwV 4 hts gL_say_X7_say rfl rfl rfl (by decide +kernel) ⟨(Nat.le_of_ble_eq_true rfl), (Nat.le_of_ble_eq_true rfl)⟩) (pVX hK hX1 (ci := 7) rfl h0) rfl rfl hl.1 rfl (lv_room (Nat.le_of_ble_eq_true rfl)) dL_say_9 ⟨(Nat.le_of_ble_eq_true rfl), (Nat.le_of_ble_eq_true rfl)⟩) hS (fun q _ h => h.1) (fun q h => h.1) (fun q _ h => h.1) (fun E ce q9 uq t H1 locs ht hvm _ hB hz hk hS hcell hv9 hcl => ?_) (fun r uq t H1 locs ht hvm hp hB hz hk hS => ?_)
  · obtain ⟨hE, hM1⟩ := hB
    rw [ht] at hM1
    have hO1 : OCel D ac H1 b f := hb9.kept (hk b hbl (fun q => q.2 rfl))
    obtain ⟨rfl, hcd⟩ := hE
    refine vx_catch (own := RL) (name := xIA) hown [] ⟨0, 14, 17, 13⟩ [] (by rw [htb]; rfl) (by intro z hz; cases hz) (by decide) (by decide) (hts (Cond.classLink RL 13 xIA) (by decide +kernel)) (hX.2.2.use (.castable xIA xIA) (by decide +kernel)) hcell hv9 hcl ?_
    refine lv_astore (lv' := [(6, .ref q9), (0, .ref (adr 0)), (1, .int x), (2, .int y), (3, .int z), (4, .int u), (5, .ref b)]) hx hb dL_say_17 hl (by decide) rfl (fun ls hl => ?_)
    refine lv_iconst (v := 1) hx hb dL_say_19 (by decide) ?_
    rw [hQ0]
    exact e_h (u := (N, adr, w, f)) hx hb hlocks hr dL_say_20 (Nat.le_of_ble_eq_true rfl) (Nat.le_of_ble_eq_true rfl) hM1 hO1 hS (HPo.no (c := 1) hcd (by decide) rfl)
  · rw [ht] at hB
    have hO1 : OCel D ac H1 b f := hb9.kept (hk b hbl (fun q => q.2 rfl))
    refine lv_i2l (v := r.toInt64) hx hb dL_say_12 rfl ?_
    refine h_last hx hb hK hB hO1 hAb hS dL_say_13 (fun H1 locs f1 hB hO1 hf1 hS => ?_)
    refine lv_goto (tgt := 21) hx hb dL_say_14 (by decide) ?_
    refine lv_iconst (v := 0) hx hb dL_say_21 (by decide) ?_
    rw [hQ0]
    exact e_h (u := (N, adr, uq, f1)) hx hb hlocks hr dL_say_22 (Nat.le_of_ble_eq_true rfl) (Nat.le_of_ble_eq_true rfl) hB hO1 hS (Or.inl ⟨rfl, r, ⟨rfl, rfl, hp⟩, hf1⟩)
set_option maxHeartbeats 4000000 in
set_option maxRecDepth 100000 in
/-- the law's helper ruling -/
theorem kL_ruling (l : Launch) (D : va_G) (ac : Nat → ClassId) (H : Heap) (A : Nat → Prop) (N : Nat) (adr : Nat → Nat) (w : Nat → va_E) (b : Nat) (f : Nat → Int64) (hM : MW D (Abt A b) N adr w H) (hb9 : OCel D ac H b f) (hAb : A b) (P : Int32 → (Nat → va_E) → Prop) (code : Nat) (x y : Int32) (fs0 : List Value) (h0 : Cel D H (adr 0) (.inr (7, fs0))) (hC9 : WXi l yX7_ruling wsX7_ruling ({ frames := 8, cells := 2, slots := 12, locals := 130 }) [.ref (adr 0), .int x, .int y] D ac H (Abt A b) N adr w P (XC1 xIA code) 2 12) : Met l yL_ruling wsL_ruling ({ frames := 9, cells := 2, slots := 12, locals := 152 }) (LPre D ac H A [.ref (adr 0), .int x, .int y, .ref b]) (va_Qi (HPo code (fun v N9 a9 w9 => N9 = N ∧ a9 = adr ∧ P v w9) N adr w f) (HB D ac A b) A) 2 12 A := by
  refine va_MetW (cc := cL_ruling) (maxL := 5) (ret := (some .int)) (hh := [(0, 10, 13, 13)]) (by decide) rfl ?_
  intro p e s m args below meth c s₁ B hml hv
  obtain ⟨hargs, hsz, hK, hX, hC⟩ := hv
  have hx := B.exec
  have hb := B.bytes
  have hr := B.returns
  have hts := atoms_spec (ws := wsL_ruling) B.pre
  have hown : s.vm.findClass RL = some m.cls := findClass_of_methodNamed B.named
  have hlocks := B.notSynchronized
  have htb := vx_table (x := yL_ruling) B (hts _ List.mem_cons_self)
  subst hsz
  have hS : va_S A s.heap s.heap [] := va_S.rf
  have hX1 : XQ (Abt A b) s s.heap := hX.narrow (fun q h => h.1)
  have hbl : b < s.heap.size := hb9.lt
  have hl := lv_entry ([.ref (adr 0), .int x, .int y, .ref b]) (n := 5) (Nat.le_of_ble_eq_true rfl)
  have hen := lg_entry_eq m [.ref (adr 0), .int x, .int y, .ref b] 5
  rw [← hargs] at hen
  rw [hen]
  generalize (lg_sl ([.ref (adr 0), .int x, .int y, .ref b]) ++ List.replicate (5 - (lg_sl ([.ref (adr 0), .int x, .int y, .ref b])).length) Slot.unset).toArray = ls at hl ⊢
  have hl : lv_has ls 5 [(0, .ref (adr 0)), (1, .int x), (2, .int y), (3, .ref b)] := hl
  obtain ⟨Q0, hQ0⟩ : ∃ z, z = MQ below (va_Qi (HPo code (fun v N9 a9 w9 => N9 = N ∧ a9 = adr ∧ P v w9) N adr w f) (HB D ac A b) A) args s 2 12 A := ⟨_, rfl⟩
  rw [← hQ0]
  refine lv_aload_n hx hb dL_ruling_0 rfl (lv_at hl 3 rfl) ?_
  refine lv_iconst (v := 0) hx hb dL_ruling_1 (by decide) ?_
  refine lv_aload_n hx hb dL_ruling_2 rfl (lv_at hl 0 rfl) ?_
  refine lv_iload_n hx hb dL_ruling_3 rfl (lv_at hl 1 rfl) ?_
  refine lv_iload_n hx hb dL_ruling_4 rfl (lv_at hl 2 rfl) ?_
  refine vx_calli (vx_runV (As := [.int x, .int y]) (rest := [.int 0, .ref b]) ⟨hx, hb, hml, hown, hts⟩ hC9 (cwV 2 hts gL_ruling_X7_ruling rfl rfl rfl (by decide +kernel) ⟨(Nat.le_of_ble_eq_true rfl), (Nat.le_of_ble_eq_true rfl)⟩) (pVX hK hX1 (ci := 7) rfl h0) rfl rfl hl.1 rfl (lv_room (Nat.le_of_ble_eq_true rfl)) dL_ruling_5 ⟨(Nat.le_of_ble_eq_true rfl), (Nat.le_of_ble_eq_true rfl)⟩) hS (fun q _ h => h.1) (fun q h => h.1) (fun q _ h => h.1) (fun E ce q9 uq t H1 locs ht hvm _ hB hz hk hS hcell hv9 hcl => ?_) (fun r uq t H1 locs ht hvm hp hB hz hk hS => ?_)
  · obtain ⟨hE, hM1⟩ := hB
    rw [ht] at hM1
    have hO1 : OCel D ac H1 b f := hb9.kept (hk b hbl (fun q => q.2 rfl))
    obtain ⟨rfl, hcd⟩ := hE
    refine vx_catch (own := RL) (name := xIA) hown [] ⟨0, 10, 13, 13⟩ [] (by rw [htb]; rfl) (by intro z hz; cases hz) (by decide) (by decide) (hts (Cond.classLink RL 13 xIA) (by decide +kernel)) (hX.2.2.use (.castable xIA xIA) (by decide +kernel)) hcell hv9 hcl ?_
    refine lv_astore (lv' := [(4, .ref q9), (0, .ref (adr 0)), (1, .int x), (2, .int y), (3, .ref b)]) hx hb dL_ruling_13 hl (by decide) rfl (fun ls hl => ?_)
    refine lv_iconst (v := 1) hx hb dL_ruling_15 (by decide) ?_
    rw [hQ0]
    exact e_h (u := (N, adr, w, f)) hx hb hlocks hr dL_ruling_16 (Nat.le_of_ble_eq_true rfl) (Nat.le_of_ble_eq_true rfl) hM1 hO1 hS (HPo.no (c := 1) hcd (by decide) rfl)
  · rw [ht] at hB
    have hO1 : OCel D ac H1 b f := hb9.kept (hk b hbl (fun q => q.2 rfl))
    refine lv_i2l (v := r.toInt64) hx hb dL_ruling_8 rfl ?_
    refine h_last hx hb hK hB hO1 hAb hS dL_ruling_9 (fun H1 locs f1 hB hO1 hf1 hS => ?_)
    refine lv_goto (tgt := 17) hx hb dL_ruling_10 (by decide) ?_
    refine lv_iconst (v := 0) hx hb dL_ruling_17 (by decide) ?_
    rw [hQ0]
    exact e_h (u := (N, adr, uq, f1)) hx hb hlocks hr dL_ruling_18 (Nat.le_of_ble_eq_true rfl) (Nat.le_of_ble_eq_true rfl) hB hO1 hS (Or.inl ⟨rfl, r, ⟨rfl, rfl, hp⟩, hf1⟩)
set_option maxHeartbeats 4000000 in
set_option maxRecDepth 100000 in
/-- the law's helper clientOf -/
theorem kL_clientOf (l : Launch) (D : va_G) (ac : Nat → ClassId) (H : Heap) (A : Nat → Prop) (N : Nat) (adr : Nat → Nat) (w : Nat → va_E) (b : Nat) (f : Nat → Int64) (hM : MW D (Abt A b) N adr w H) (hb9 : OCel D ac H b f) (hAb : A b) (P : Int32 → (Nat → va_E) → Prop) (code : Nat) (x : Int32) (fs0 : List Value) (h0 : Cel D H (adr 0) (.inr (7, fs0))) (hC9 : WXi l yX7_clientOf wsX7_clientOf ({ frames := 7, cells := 1, slots := 6, locals := 111 }) [.ref (adr 0), .int x] D ac H (Abt A b) N adr w P (XC1 xIO code) 1 6) : Met l yL_clientOf wsL_clientOf ({ frames := 8, cells := 1, slots := 6, locals := 132 }) (LPre D ac H A [.ref (adr 0), .int x, .ref b]) (va_Qi (HPo code (fun v N9 a9 w9 => N9 = N ∧ a9 = adr ∧ P v w9) N adr w f) (HB D ac A b) A) 1 6 A := by
  refine va_MetW (cc := cL_clientOf) (maxL := 4) (ret := (some .int)) (hh := [(0, 9, 12, 20)]) (by decide) rfl ?_
  intro p e s m args below meth c s₁ B hml hv
  obtain ⟨hargs, hsz, hK, hX, hC⟩ := hv
  have hx := B.exec
  have hb := B.bytes
  have hr := B.returns
  have hts := atoms_spec (ws := wsL_clientOf) B.pre
  have hown : s.vm.findClass RL = some m.cls := findClass_of_methodNamed B.named
  have hlocks := B.notSynchronized
  have htb := vx_table (x := yL_clientOf) B (hts _ List.mem_cons_self)
  subst hsz
  have hS : va_S A s.heap s.heap [] := va_S.rf
  have hX1 : XQ (Abt A b) s s.heap := hX.narrow (fun q h => h.1)
  have hbl : b < s.heap.size := hb9.lt
  have hl := lv_entry ([.ref (adr 0), .int x, .ref b]) (n := 4) (Nat.le_of_ble_eq_true rfl)
  have hen := lg_entry_eq m [.ref (adr 0), .int x, .ref b] 4
  rw [← hargs] at hen
  rw [hen]
  generalize (lg_sl ([.ref (adr 0), .int x, .ref b]) ++ List.replicate (4 - (lg_sl ([.ref (adr 0), .int x, .ref b])).length) Slot.unset).toArray = ls at hl ⊢
  have hl : lv_has ls 4 [(0, .ref (adr 0)), (1, .int x), (2, .ref b)] := hl
  obtain ⟨Q0, hQ0⟩ : ∃ z, z = MQ below (va_Qi (HPo code (fun v N9 a9 w9 => N9 = N ∧ a9 = adr ∧ P v w9) N adr w f) (HB D ac A b) A) args s 1 6 A := ⟨_, rfl⟩
  rw [← hQ0]
  refine lv_aload_n hx hb dL_clientOf_0 rfl (lv_at hl 2 rfl) ?_
  refine lv_iconst (v := 0) hx hb dL_clientOf_1 (by decide) ?_
  refine lv_aload_n hx hb dL_clientOf_2 rfl (lv_at hl 0 rfl) ?_
  refine lv_iload_n hx hb dL_clientOf_3 rfl (lv_at hl 1 rfl) ?_
  refine vx_calli (vx_runV (As := [.int x]) (rest := [.int 0, .ref b]) ⟨hx, hb, hml, hown, hts⟩ hC9 (cwV 1 hts gL_clientOf_X7_clientOf rfl rfl rfl (by decide +kernel) ⟨(Nat.le_of_ble_eq_true rfl), (Nat.le_of_ble_eq_true rfl)⟩) (pVX hK hX1 (ci := 7) rfl h0) rfl rfl hl.1 rfl (lv_room (Nat.le_of_ble_eq_true rfl)) dL_clientOf_4 ⟨(Nat.le_of_ble_eq_true rfl), (Nat.le_of_ble_eq_true rfl)⟩) hS (fun q _ h => h.1) (fun q h => h.1) (fun q _ h => h.1) (fun E ce q9 uq t H1 locs ht hvm _ hB hz hk hS hcell hv9 hcl => ?_) (fun r uq t H1 locs ht hvm hp hB hz hk hS => ?_)
  · obtain ⟨hE, hM1⟩ := hB
    rw [ht] at hM1
    have hO1 : OCel D ac H1 b f := hb9.kept (hk b hbl (fun q => q.2 rfl))
    obtain ⟨rfl, hcd⟩ := hE
    refine vx_catch (own := RL) (name := xIO) hown [] ⟨0, 9, 12, 20⟩ [] (by rw [htb]; rfl) (by intro z hz; cases hz) (by decide) (by decide) (hts (Cond.classLink RL 20 xIO) (by decide +kernel)) (hX.2.2.use (.castable xIO xIO) (by decide +kernel)) hcell hv9 hcl ?_
    refine lv_astore_n (lv' := [(3, .ref q9), (0, .ref (adr 0)), (1, .int x), (2, .ref b)]) hx hb dL_clientOf_12 rfl hl (by decide) rfl (fun ls hl => ?_)
    refine lv_iconst (v := 1) hx hb dL_clientOf_13 (by decide) ?_
    rw [hQ0]
    exact e_h (u := (N, adr, w, f)) hx hb hlocks hr dL_clientOf_14 (Nat.le_of_ble_eq_true rfl) (Nat.le_of_ble_eq_true rfl) hM1 hO1 hS (HPo.no (c := 1) hcd (by decide) rfl)
  · rw [ht] at hB
    have hO1 : OCel D ac H1 b f := hb9.kept (hk b hbl (fun q => q.2 rfl))
    refine lv_i2l (v := r.toInt64) hx hb dL_clientOf_7 rfl ?_
    refine h_last hx hb hK hB hO1 hAb hS dL_clientOf_8 (fun H1 locs f1 hB hO1 hf1 hS => ?_)
    refine lv_goto (tgt := 15) hx hb dL_clientOf_9 (by decide) ?_
    refine lv_iconst (v := 0) hx hb dL_clientOf_15 (by decide) ?_
    rw [hQ0]
    exact e_h (u := (N, adr, uq, f1)) hx hb hlocks hr dL_clientOf_16 (Nat.le_of_ble_eq_true rfl) (Nat.le_of_ble_eq_true rfl) hB hO1 hS (Or.inl ⟨rfl, r, ⟨rfl, rfl, hp⟩, hf1⟩)
set_option maxHeartbeats 4000000 in
set_option maxRecDepth 100000 in
/-- the law's helper wordOf -/
theorem kL_wordOf (l : Launch) (D : va_G) (ac : Nat → ClassId) (H : Heap) (A : Nat → Prop) (N : Nat) (adr : Nat → Nat) (w : Nat → va_E) (b : Nat) (f : Nat → Int64) (hM : MW D (Abt A b) N adr w H) (hb9 : OCel D ac H b f) (hAb : A b) (P : Int32 → (Nat → va_E) → Prop) (code : Nat) (x y : Int32) (fs0 : List Value) (h0 : Cel D H (adr 0) (.inr (7, fs0))) (hC9 : WXi l yX7_wordOf wsX7_wordOf ({ frames := 7, cells := 2, slots := 12, locals := 111 }) [.ref (adr 0), .int x, .int y] D ac H (Abt A b) N adr w P (XC1 xIO code) 2 12) : Met l yL_wordOf wsL_wordOf ({ frames := 8, cells := 2, slots := 12, locals := 134 }) (LPre D ac H A [.ref (adr 0), .int x, .int y, .ref b]) (va_Qi (HPo code (fun v N9 a9 w9 => N9 = N ∧ a9 = adr ∧ P v w9) N adr w f) (HB D ac A b) A) 2 12 A := by
  refine va_MetW (cc := cL_wordOf) (maxL := 5) (ret := (some .int)) (hh := [(0, 10, 13, 20)]) (by decide) rfl ?_
  intro p e s m args below meth c s₁ B hml hv
  obtain ⟨hargs, hsz, hK, hX, hC⟩ := hv
  have hx := B.exec
  have hb := B.bytes
  have hr := B.returns
  have hts := atoms_spec (ws := wsL_wordOf) B.pre
  have hown : s.vm.findClass RL = some m.cls := findClass_of_methodNamed B.named
  have hlocks := B.notSynchronized
  have htb := vx_table (x := yL_wordOf) B (hts _ List.mem_cons_self)
  subst hsz
  have hS : va_S A s.heap s.heap [] := va_S.rf
  have hX1 : XQ (Abt A b) s s.heap := hX.narrow (fun q h => h.1)
  have hbl : b < s.heap.size := hb9.lt
  have hl := lv_entry ([.ref (adr 0), .int x, .int y, .ref b]) (n := 5) (Nat.le_of_ble_eq_true rfl)
  have hen := lg_entry_eq m [.ref (adr 0), .int x, .int y, .ref b] 5
  rw [← hargs] at hen
  rw [hen]
  generalize (lg_sl ([.ref (adr 0), .int x, .int y, .ref b]) ++ List.replicate (5 - (lg_sl ([.ref (adr 0), .int x, .int y, .ref b])).length) Slot.unset).toArray = ls at hl ⊢
  have hl : lv_has ls 5 [(0, .ref (adr 0)), (1, .int x), (2, .int y), (3, .ref b)] := hl
  obtain ⟨Q0, hQ0⟩ : ∃ z, z = MQ below (va_Qi (HPo code (fun v N9 a9 w9 => N9 = N ∧ a9 = adr ∧ P v w9) N adr w f) (HB D ac A b) A) args s 2 12 A := ⟨_, rfl⟩
  rw [← hQ0]
  refine lv_aload_n hx hb dL_wordOf_0 rfl (lv_at hl 3 rfl) ?_
  refine lv_iconst (v := 0) hx hb dL_wordOf_1 (by decide) ?_
  refine lv_aload_n hx hb dL_wordOf_2 rfl (lv_at hl 0 rfl) ?_
  refine lv_iload_n hx hb dL_wordOf_3 rfl (lv_at hl 1 rfl) ?_
  refine lv_iload_n hx hb dL_wordOf_4 rfl (lv_at hl 2 rfl) ?_
  refine vx_calli (vx_runV (As := [.int x, .int y]) (rest := [.int 0, .ref b]) ⟨hx, hb, hml, hown, hts⟩ hC9 (cwV 2 hts gL_wordOf_X7_wordOf rfl rfl rfl (by decide +kernel) ⟨(Nat.le_of_ble_eq_true rfl), (Nat.le_of_ble_eq_true rfl)⟩) (pVX hK hX1 (ci := 7) rfl h0) rfl rfl hl.1 rfl (lv_room (Nat.le_of_ble_eq_true rfl)) dL_wordOf_5 ⟨(Nat.le_of_ble_eq_true rfl), (Nat.le_of_ble_eq_true rfl)⟩) hS (fun q _ h => h.1) (fun q h => h.1) (fun q _ h => h.1) (fun E ce q9 uq t H1 locs ht hvm _ hB hz hk hS hcell hv9 hcl => ?_) (fun r uq t H1 locs ht hvm hp hB hz hk hS => ?_)
  · obtain ⟨hE, hM1⟩ := hB
    rw [ht] at hM1
    have hO1 : OCel D ac H1 b f := hb9.kept (hk b hbl (fun q => q.2 rfl))
    obtain ⟨rfl, hcd⟩ := hE
    refine vx_catch (own := RL) (name := xIO) hown [] ⟨0, 10, 13, 20⟩ [] (by rw [htb]; rfl) (by intro z hz; cases hz) (by decide) (by decide) (hts (Cond.classLink RL 20 xIO) (by decide +kernel)) (hX.2.2.use (.castable xIO xIO) (by decide +kernel)) hcell hv9 hcl ?_
    refine lv_astore (lv' := [(4, .ref q9), (0, .ref (adr 0)), (1, .int x), (2, .int y), (3, .ref b)]) hx hb dL_wordOf_13 hl (by decide) rfl (fun ls hl => ?_)
    refine lv_iconst (v := 1) hx hb dL_wordOf_15 (by decide) ?_
    rw [hQ0]
    exact e_h (u := (N, adr, w, f)) hx hb hlocks hr dL_wordOf_16 (Nat.le_of_ble_eq_true rfl) (Nat.le_of_ble_eq_true rfl) hM1 hO1 hS (HPo.no (c := 1) hcd (by decide) rfl)
  · rw [ht] at hB
    have hO1 : OCel D ac H1 b f := hb9.kept (hk b hbl (fun q => q.2 rfl))
    refine lv_i2l (v := r.toInt64) hx hb dL_wordOf_8 rfl ?_
    refine h_last hx hb hK hB hO1 hAb hS dL_wordOf_9 (fun H1 locs f1 hB hO1 hf1 hS => ?_)
    refine lv_goto (tgt := 17) hx hb dL_wordOf_10 (by decide) ?_
    refine lv_iconst (v := 0) hx hb dL_wordOf_17 (by decide) ?_
    rw [hQ0]
    exact e_h (u := (N, adr, uq, f1)) hx hb hlocks hr dL_wordOf_18 (Nat.le_of_ble_eq_true rfl) (Nat.le_of_ble_eq_true rfl) hB hO1 hS (Or.inl ⟨rfl, r, ⟨rfl, rfl, hp⟩, hf1⟩)
set_option maxHeartbeats 4000000 in
set_option maxRecDepth 100000 in
/-- the law's helper becameOf -/
theorem kL_becameOf (l : Launch) (D : va_G) (ac : Nat → ClassId) (H : Heap) (A : Nat → Prop) (N : Nat) (adr : Nat → Nat) (w : Nat → va_E) (b : Nat) (f : Nat → Int64) (hM : MW D (Abt A b) N adr w H) (hb9 : OCel D ac H b f) (hAb : A b) (P : Int32 → (Nat → va_E) → Prop) (code : Nat) (x y : Int32) (fs0 : List Value) (h0 : Cel D H (adr 0) (.inr (7, fs0))) (hC9 : WXi l yX7_becameOf wsX7_becameOf ({ frames := 7, cells := 2, slots := 12, locals := 111 }) [.ref (adr 0), .int x, .int y] D ac H (Abt A b) N adr w P (XC1 xIO code) 2 12) : Met l yL_becameOf wsL_becameOf ({ frames := 8, cells := 2, slots := 12, locals := 134 }) (LPre D ac H A [.ref (adr 0), .int x, .int y, .ref b]) (va_Qi (HPo code (fun v N9 a9 w9 => N9 = N ∧ a9 = adr ∧ P v w9) N adr w f) (HB D ac A b) A) 2 12 A := by
  refine va_MetW (cc := cL_becameOf) (maxL := 5) (ret := (some .int)) (hh := [(0, 10, 13, 20)]) (by decide) rfl ?_
  intro p e s m args below meth c s₁ B hml hv
  obtain ⟨hargs, hsz, hK, hX, hC⟩ := hv
  have hx := B.exec
  have hb := B.bytes
  have hr := B.returns
  have hts := atoms_spec (ws := wsL_becameOf) B.pre
  have hown : s.vm.findClass RL = some m.cls := findClass_of_methodNamed B.named
  have hlocks := B.notSynchronized
  have htb := vx_table (x := yL_becameOf) B (hts _ List.mem_cons_self)
  subst hsz
  have hS : va_S A s.heap s.heap [] := va_S.rf
  have hX1 : XQ (Abt A b) s s.heap := hX.narrow (fun q h => h.1)
  have hbl : b < s.heap.size := hb9.lt
  have hl := lv_entry ([.ref (adr 0), .int x, .int y, .ref b]) (n := 5) (Nat.le_of_ble_eq_true rfl)
  have hen := lg_entry_eq m [.ref (adr 0), .int x, .int y, .ref b] 5
  rw [← hargs] at hen
  rw [hen]
  generalize (lg_sl ([.ref (adr 0), .int x, .int y, .ref b]) ++ List.replicate (5 - (lg_sl ([.ref (adr 0), .int x, .int y, .ref b])).length) Slot.unset).toArray = ls at hl ⊢
  have hl : lv_has ls 5 [(0, .ref (adr 0)), (1, .int x), (2, .int y), (3, .ref b)] := hl
  obtain ⟨Q0, hQ0⟩ : ∃ z, z = MQ below (va_Qi (HPo code (fun v N9 a9 w9 => N9 = N ∧ a9 = adr ∧ P v w9) N adr w f) (HB D ac A b) A) args s 2 12 A := ⟨_, rfl⟩
  rw [← hQ0]
  refine lv_aload_n hx hb dL_becameOf_0 rfl (lv_at hl 3 rfl) ?_
  refine lv_iconst (v := 0) hx hb dL_becameOf_1 (by decide) ?_
  refine lv_aload_n hx hb dL_becameOf_2 rfl (lv_at hl 0 rfl) ?_
  refine lv_iload_n hx hb dL_becameOf_3 rfl (lv_at hl 1 rfl) ?_
  refine lv_iload_n hx hb dL_becameOf_4 rfl (lv_at hl 2 rfl) ?_
  refine vx_calli (vx_runV (As := [.int x, .int y]) (rest := [.int 0, .ref b]) ⟨hx, hb, hml, hown, hts⟩ hC9 (cwV 2 hts gL_becameOf_X7_becameOf rfl rfl rfl (by decide +kernel) ⟨(Nat.le_of_ble_eq_true rfl), (Nat.le_of_ble_eq_true rfl)⟩) (pVX hK hX1 (ci := 7) rfl h0) rfl rfl hl.1 rfl (lv_room (Nat.le_of_ble_eq_true rfl)) dL_becameOf_5 ⟨(Nat.le_of_ble_eq_true rfl), (Nat.le_of_ble_eq_true rfl)⟩) hS (fun q _ h => h.1) (fun q h => h.1) (fun q _ h => h.1) (fun E ce q9 uq t H1 locs ht hvm _ hB hz hk hS hcell hv9 hcl => ?_) (fun r uq t H1 locs ht hvm hp hB hz hk hS => ?_)
  · obtain ⟨hE, hM1⟩ := hB
    rw [ht] at hM1
    have hO1 : OCel D ac H1 b f := hb9.kept (hk b hbl (fun q => q.2 rfl))
    obtain ⟨rfl, hcd⟩ := hE
    refine vx_catch (own := RL) (name := xIO) hown [] ⟨0, 10, 13, 20⟩ [] (by rw [htb]; rfl) (by intro z hz; cases hz) (by decide) (by decide) (hts (Cond.classLink RL 20 xIO) (by decide +kernel)) (hX.2.2.use (.castable xIO xIO) (by decide +kernel)) hcell hv9 hcl ?_
    refine lv_astore (lv' := [(4, .ref q9), (0, .ref (adr 0)), (1, .int x), (2, .int y), (3, .ref b)]) hx hb dL_becameOf_13 hl (by decide) rfl (fun ls hl => ?_)
    refine lv_iconst (v := 1) hx hb dL_becameOf_15 (by decide) ?_
    rw [hQ0]
    exact e_h (u := (N, adr, w, f)) hx hb hlocks hr dL_becameOf_16 (Nat.le_of_ble_eq_true rfl) (Nat.le_of_ble_eq_true rfl) hM1 hO1 hS (HPo.no (c := 1) hcd (by decide) rfl)
  · rw [ht] at hB
    have hO1 : OCel D ac H1 b f := hb9.kept (hk b hbl (fun q => q.2 rfl))
    refine lv_i2l (v := r.toInt64) hx hb dL_becameOf_8 rfl ?_
    refine h_last hx hb hK hB hO1 hAb hS dL_becameOf_9 (fun H1 locs f1 hB hO1 hf1 hS => ?_)
    refine lv_goto (tgt := 17) hx hb dL_becameOf_10 (by decide) ?_
    refine lv_iconst (v := 0) hx hb dL_becameOf_17 (by decide) ?_
    rw [hQ0]
    exact e_h (u := (N, adr, uq, f1)) hx hb hlocks hr dL_becameOf_18 (Nat.le_of_ble_eq_true rfl) (Nat.le_of_ble_eq_true rfl) hB hO1 hS (Or.inl ⟨rfl, r, ⟨rfl, rfl, hp⟩, hf1⟩)
set_option maxHeartbeats 4000000 in
set_option maxRecDepth 100000 in
/-- the law's helper isDue -/
theorem kL_isDue (l : Launch) (D : va_G) (ac : Nat → ClassId) (H : Heap) (A : Nat → Prop) (N : Nat) (adr : Nat → Nat) (w : Nat → va_E) (b : Nat) (f : Nat → Int64) (hM : MW D (Abt A b) N adr w H) (hb9 : OCel D ac H b f) (hAb : A b) (P : Int32 → (Nat → va_E) → Prop) (code : Nat) (x : Int32) (fs0 : List Value) (h0 : Cel D H (adr 0) (.inr (7, fs0))) (hC9 : WXi l yX7_isDue wsX7_isDue ({ frames := 7, cells := 1, slots := 6, locals := 111 }) [.ref (adr 0), .int x] D ac H (Abt A b) N adr w P (XC1 xIO code) 1 6) (hP01 : ∀ v w, P v w → v = 0 ∨ v = 1) : Met l yL_isDue wsL_isDue ({ frames := 8, cells := 1, slots := 6, locals := 132 }) (LPre D ac H A [.ref (adr 0), .int x, .ref b]) (va_Qi (HPo code (fun v N9 a9 w9 => N9 = N ∧ a9 = adr ∧ P v w9) N adr w f) (HB D ac A b) A) 1 6 A := by
  refine va_MetW (cc := cL_isDue) (maxL := 4) (ret := (some .int)) (hh := [(0, 16, 19, 20)]) (by decide) rfl ?_
  intro p e s m args below meth c s₁ B hml hv
  obtain ⟨hargs, hsz, hK, hX, hC⟩ := hv
  have hx := B.exec
  have hb := B.bytes
  have hr := B.returns
  have hts := atoms_spec (ws := wsL_isDue) B.pre
  have hown : s.vm.findClass RL = some m.cls := findClass_of_methodNamed B.named
  have hlocks := B.notSynchronized
  have htb := vx_table (x := yL_isDue) B (hts _ List.mem_cons_self)
  subst hsz
  have hS : va_S A s.heap s.heap [] := va_S.rf
  have hX1 : XQ (Abt A b) s s.heap := hX.narrow (fun q h => h.1)
  have hbl : b < s.heap.size := hb9.lt
  have hl := lv_entry ([.ref (adr 0), .int x, .ref b]) (n := 4) (Nat.le_of_ble_eq_true rfl)
  have hen := lg_entry_eq m [.ref (adr 0), .int x, .ref b] 4
  rw [← hargs] at hen
  rw [hen]
  generalize (lg_sl ([.ref (adr 0), .int x, .ref b]) ++ List.replicate (4 - (lg_sl ([.ref (adr 0), .int x, .ref b])).length) Slot.unset).toArray = ls at hl ⊢
  have hl : lv_has ls 4 [(0, .ref (adr 0)), (1, .int x), (2, .ref b)] := hl
  obtain ⟨Q0, hQ0⟩ : ∃ z, z = MQ below (va_Qi (HPo code (fun v N9 a9 w9 => N9 = N ∧ a9 = adr ∧ P v w9) N adr w f) (HB D ac A b) A) args s 1 6 A := ⟨_, rfl⟩
  rw [← hQ0]
  refine lv_aload_n hx hb dL_isDue_0 rfl (lv_at hl 2 rfl) ?_
  refine lv_iconst (v := 0) hx hb dL_isDue_1 (by decide) ?_
  refine lv_aload_n hx hb dL_isDue_2 rfl (lv_at hl 0 rfl) ?_
  refine lv_iload_n hx hb dL_isDue_3 rfl (lv_at hl 1 rfl) ?_
  refine vx_calli (vx_runV (As := [.int x]) (rest := [.int 0, .ref b]) ⟨hx, hb, hml, hown, hts⟩ hC9 (cwV 1 hts gL_isDue_X7_isDue rfl rfl rfl (by decide +kernel) ⟨(Nat.le_of_ble_eq_true rfl), (Nat.le_of_ble_eq_true rfl)⟩) (pVX hK hX1 (ci := 7) rfl h0) rfl rfl hl.1 rfl (lv_room (Nat.le_of_ble_eq_true rfl)) dL_isDue_4 ⟨(Nat.le_of_ble_eq_true rfl), (Nat.le_of_ble_eq_true rfl)⟩) hS (fun q _ h => h.1) (fun q h => h.1) (fun q _ h => h.1) (fun E ce q9 uq t H1 locs ht hvm _ hB hz hk hS hcell hv9 hcl => ?_) (fun r uq t H1 locs ht hvm hp hB hz hk hS => ?_)
  · obtain ⟨hE, hM1⟩ := hB
    rw [ht] at hM1
    have hO1 : OCel D ac H1 b f := hb9.kept (hk b hbl (fun q => q.2 rfl))
    obtain ⟨rfl, hcd⟩ := hE
    refine vx_catch (own := RL) (name := xIO) hown [] ⟨0, 16, 19, 20⟩ [] (by rw [htb]; rfl) (by intro z hz; cases hz) (by decide) (by decide) (hts (Cond.classLink RL 20 xIO) (by decide +kernel)) (hX.2.2.use (.castable xIO xIO) (by decide +kernel)) hcell hv9 hcl ?_
    refine lv_astore_n (lv' := [(3, .ref q9), (0, .ref (adr 0)), (1, .int x), (2, .ref b)]) hx hb dL_isDue_19 rfl hl (by decide) rfl (fun ls hl => ?_)
    refine lv_iconst (v := 1) hx hb dL_isDue_20 (by decide) ?_
    rw [hQ0]
    exact e_h (u := (N, adr, w, f)) hx hb hlocks hr dL_isDue_21 (Nat.le_of_ble_eq_true rfl) (Nat.le_of_ble_eq_true rfl) hM1 hO1 hS (HPo.no (c := 1) hcd (by decide) rfl)
  · rw [ht] at hB
    have hO1 : OCel D ac H1 b f := hb9.kept (hk b hbl (fun q => q.2 rfl))
    refine lv_if_eq (tgt := 14) hx hb dL_isDue_7 (by decide) (fun c7 => ?_) (fun c7 => ?_)
    · refine lv_lconst (v := 0) hx hb dL_isDue_14 (by decide) ?_
      refine h_last hx hb hK hB hO1 hAb hS dL_isDue_15 (fun H1 locs f1 hB hO1 hf1 hS => ?_)
      refine lv_goto (tgt := 22) hx hb dL_isDue_16 (by decide) ?_
      refine lv_iconst (v := 0) hx hb dL_isDue_22 (by decide) ?_
      rw [hQ0]
      exact e_h (u := (N, adr, uq, f1)) hx hb hlocks hr dL_isDue_23 (Nat.le_of_ble_eq_true rfl) (Nat.le_of_ble_eq_true rfl) hB hO1 hS (Or.inl ⟨rfl, r, ⟨rfl, rfl, hp⟩, by show f1 0 = r.toInt64; rw [hf1, c7]; rfl⟩)
    · refine lv_lconst (v := 1) hx hb dL_isDue_10 (by decide) ?_
      refine lv_goto (tgt := 15) hx hb dL_isDue_11 (by decide) ?_
      refine h_last hx hb hK hB hO1 hAb hS dL_isDue_15 (fun H1 locs f1 hB hO1 hf1 hS => ?_)
      refine lv_goto (tgt := 22) hx hb dL_isDue_16 (by decide) ?_
      refine lv_iconst (v := 0) hx hb dL_isDue_22 (by decide) ?_
      rw [hQ0]
      exact e_h (u := (N, adr, uq, f1)) hx hb hlocks hr dL_isDue_23 (Nat.le_of_ble_eq_true rfl) (Nat.le_of_ble_eq_true rfl) hB hO1 hS (Or.inl ⟨rfl, r, ⟨rfl, rfl, hp⟩, by show f1 0 = r.toInt64; rcases hP01 r uq hp with z | z; exact absurd z c7; rw [hf1, z]; rfl⟩)
set_option maxHeartbeats 4000000 in
set_option maxRecDepth 100000 in
/-- the law's helper dueAt -/
theorem kL_dueAt (l : Launch) (D : va_G) (ac : Nat → ClassId) (H : Heap) (A : Nat → Prop) (N : Nat) (adr : Nat → Nat) (w : Nat → va_E) (b : Nat) (f : Nat → Int64) (hM : MW D (Abt A b) N adr w H) (hb9 : OCel D ac H b f) (hAb : A b) (P : Int32 → (Nat → va_E) → Prop) (code : Nat) (x : Int32) (fs0 : List Value) (h0 : Cel D H (adr 0) (.inr (7, fs0))) (hC9 : WXi l yX7_dueAt wsX7_dueAt ({ frames := 6, cells := 1, slots := 6, locals := 89 }) [.ref (adr 0), .int x] D ac H (Abt A b) N adr w P (XC1 xIO code) 1 6) : Met l yL_dueAt wsL_dueAt ({ frames := 7, cells := 1, slots := 6, locals := 110 }) (LPre D ac H A [.ref (adr 0), .int x, .ref b]) (va_Qi (HPo code (fun v N9 a9 w9 => N9 = N ∧ a9 = adr ∧ P v w9) N adr w f) (HB D ac A b) A) 1 6 A := by
  refine va_MetW (cc := cL_dueAt) (maxL := 4) (ret := (some .int)) (hh := [(0, 9, 12, 20)]) (by decide) rfl ?_
  intro p e s m args below meth c s₁ B hml hv
  obtain ⟨hargs, hsz, hK, hX, hC⟩ := hv
  have hx := B.exec
  have hb := B.bytes
  have hr := B.returns
  have hts := atoms_spec (ws := wsL_dueAt) B.pre
  have hown : s.vm.findClass RL = some m.cls := findClass_of_methodNamed B.named
  have hlocks := B.notSynchronized
  have htb := vx_table (x := yL_dueAt) B (hts _ List.mem_cons_self)
  subst hsz
  have hS : va_S A s.heap s.heap [] := va_S.rf
  have hX1 : XQ (Abt A b) s s.heap := hX.narrow (fun q h => h.1)
  have hbl : b < s.heap.size := hb9.lt
  have hl := lv_entry ([.ref (adr 0), .int x, .ref b]) (n := 4) (Nat.le_of_ble_eq_true rfl)
  have hen := lg_entry_eq m [.ref (adr 0), .int x, .ref b] 4
  rw [← hargs] at hen
  rw [hen]
  generalize (lg_sl ([.ref (adr 0), .int x, .ref b]) ++ List.replicate (4 - (lg_sl ([.ref (adr 0), .int x, .ref b])).length) Slot.unset).toArray = ls at hl ⊢
  have hl : lv_has ls 4 [(0, .ref (adr 0)), (1, .int x), (2, .ref b)] := hl
  obtain ⟨Q0, hQ0⟩ : ∃ z, z = MQ below (va_Qi (HPo code (fun v N9 a9 w9 => N9 = N ∧ a9 = adr ∧ P v w9) N adr w f) (HB D ac A b) A) args s 1 6 A := ⟨_, rfl⟩
  rw [← hQ0]
  refine lv_aload_n hx hb dL_dueAt_0 rfl (lv_at hl 2 rfl) ?_
  refine lv_iconst (v := 0) hx hb dL_dueAt_1 (by decide) ?_
  refine lv_aload_n hx hb dL_dueAt_2 rfl (lv_at hl 0 rfl) ?_
  refine lv_iload_n hx hb dL_dueAt_3 rfl (lv_at hl 1 rfl) ?_
  refine vx_calli (vx_runV (As := [.int x]) (rest := [.int 0, .ref b]) ⟨hx, hb, hml, hown, hts⟩ hC9 (cwV 1 hts gL_dueAt_X7_dueAt rfl rfl rfl (by decide +kernel) ⟨(Nat.le_of_ble_eq_true rfl), (Nat.le_of_ble_eq_true rfl)⟩) (pVX hK hX1 (ci := 7) rfl h0) rfl rfl hl.1 rfl (lv_room (Nat.le_of_ble_eq_true rfl)) dL_dueAt_4 ⟨(Nat.le_of_ble_eq_true rfl), (Nat.le_of_ble_eq_true rfl)⟩) hS (fun q _ h => h.1) (fun q h => h.1) (fun q _ h => h.1) (fun E ce q9 uq t H1 locs ht hvm _ hB hz hk hS hcell hv9 hcl => ?_) (fun r uq t H1 locs ht hvm hp hB hz hk hS => ?_)
  · obtain ⟨hE, hM1⟩ := hB
    rw [ht] at hM1
    have hO1 : OCel D ac H1 b f := hb9.kept (hk b hbl (fun q => q.2 rfl))
    obtain ⟨rfl, hcd⟩ := hE
    refine vx_catch (own := RL) (name := xIO) hown [] ⟨0, 9, 12, 20⟩ [] (by rw [htb]; rfl) (by intro z hz; cases hz) (by decide) (by decide) (hts (Cond.classLink RL 20 xIO) (by decide +kernel)) (hX.2.2.use (.castable xIO xIO) (by decide +kernel)) hcell hv9 hcl ?_
    refine lv_astore_n (lv' := [(3, .ref q9), (0, .ref (adr 0)), (1, .int x), (2, .ref b)]) hx hb dL_dueAt_12 rfl hl (by decide) rfl (fun ls hl => ?_)
    refine lv_iconst (v := 1) hx hb dL_dueAt_13 (by decide) ?_
    rw [hQ0]
    exact e_h (u := (N, adr, w, f)) hx hb hlocks hr dL_dueAt_14 (Nat.le_of_ble_eq_true rfl) (Nat.le_of_ble_eq_true rfl) hM1 hO1 hS (HPo.no (c := 1) hcd (by decide) rfl)
  · rw [ht] at hB
    have hO1 : OCel D ac H1 b f := hb9.kept (hk b hbl (fun q => q.2 rfl))
    refine lv_i2l (v := r.toInt64) hx hb dL_dueAt_7 rfl ?_
    refine h_last hx hb hK hB hO1 hAb hS dL_dueAt_8 (fun H1 locs f1 hB hO1 hf1 hS => ?_)
    refine lv_goto (tgt := 15) hx hb dL_dueAt_9 (by decide) ?_
    refine lv_iconst (v := 0) hx hb dL_dueAt_15 (by decide) ?_
    rw [hQ0]
    exact e_h (u := (N, adr, uq, f1)) hx hb hlocks hr dL_dueAt_16 (Nat.le_of_ble_eq_true rfl) (Nat.le_of_ble_eq_true rfl) hB hO1 hS (Or.inl ⟨rfl, r, ⟨rfl, rfl, hp⟩, hf1⟩)
set_option maxHeartbeats 4000000 in
set_option maxRecDepth 100000 in
/-- the law's helper mend -/
theorem kL_mend (l : Launch) (D : va_G) (ac : Nat → ClassId) (H : Heap) (A : Nat → Prop) (N : Nat) (adr : Nat → Nat) (w : Nat → va_E) (b : Nat) (f : Nat → Int64) (hM : MW D (Abt A b) N adr w H) (hb9 : OCel D ac H b f) (hAb : A b) (P : Int32 → (Nat → va_E) → Prop) (code : Nat) (x : Int32) (fs0 : List Value) (h0 : Cel D H (adr 0) (.inr (7, fs0))) (hC9 : WXi l yX7_mend wsX7_mend ({ frames := 7, cells := 2, slots := 12, locals := 113 }) [.ref (adr 0), .int x] D ac H (Abt A b) N adr w P (XC2 xIO xIS code) 2 12) : Met l yL_mend wsL_mend ({ frames := 8, cells := 2, slots := 12, locals := 137 }) (LPre D ac H A [.ref (adr 0), .int x, .ref b]) (va_Qi (HPo code (fun v N9 a9 w9 => N9 = N ∧ a9 = adr ∧ P v w9) N adr w f) (HB D ac A b) A) 2 12 A := by
  refine va_MetW (cc := cL_mend) (maxL := 4) (ret := (some .int)) (hh := [(0, 9, 12, 20), (0, 9, 15, 15)]) (by decide) rfl ?_
  intro p e s m args below meth c s₁ B hml hv
  obtain ⟨hargs, hsz, hK, hX, hC⟩ := hv
  have hx := B.exec
  have hb := B.bytes
  have hr := B.returns
  have hts := atoms_spec (ws := wsL_mend) B.pre
  have hown : s.vm.findClass RL = some m.cls := findClass_of_methodNamed B.named
  have hlocks := B.notSynchronized
  have htb := vx_table (x := yL_mend) B (hts _ List.mem_cons_self)
  subst hsz
  have hS : va_S A s.heap s.heap [] := va_S.rf
  have hX1 : XQ (Abt A b) s s.heap := hX.narrow (fun q h => h.1)
  have hbl : b < s.heap.size := hb9.lt
  have hl := lv_entry ([.ref (adr 0), .int x, .ref b]) (n := 4) (Nat.le_of_ble_eq_true rfl)
  have hen := lg_entry_eq m [.ref (adr 0), .int x, .ref b] 4
  rw [← hargs] at hen
  rw [hen]
  generalize (lg_sl ([.ref (adr 0), .int x, .ref b]) ++ List.replicate (4 - (lg_sl ([.ref (adr 0), .int x, .ref b])).length) Slot.unset).toArray = ls at hl ⊢
  have hl : lv_has ls 4 [(0, .ref (adr 0)), (1, .int x), (2, .ref b)] := hl
  obtain ⟨Q0, hQ0⟩ : ∃ z, z = MQ below (va_Qi (HPo code (fun v N9 a9 w9 => N9 = N ∧ a9 = adr ∧ P v w9) N adr w f) (HB D ac A b) A) args s 2 12 A := ⟨_, rfl⟩
  rw [← hQ0]
  refine lv_aload_n hx hb dL_mend_0 rfl (lv_at hl 2 rfl) ?_
  refine lv_iconst (v := 0) hx hb dL_mend_1 (by decide) ?_
  refine lv_aload_n hx hb dL_mend_2 rfl (lv_at hl 0 rfl) ?_
  refine lv_iload_n hx hb dL_mend_3 rfl (lv_at hl 1 rfl) ?_
  refine vx_calli (vx_runV (As := [.int x]) (rest := [.int 0, .ref b]) ⟨hx, hb, hml, hown, hts⟩ hC9 (cwV 1 hts gL_mend_X7_mend rfl rfl rfl (by decide +kernel) ⟨(Nat.le_of_ble_eq_true rfl), (Nat.le_of_ble_eq_true rfl)⟩) (pVX hK hX1 (ci := 7) rfl h0) rfl rfl hl.1 rfl (lv_room (Nat.le_of_ble_eq_true rfl)) dL_mend_4 ⟨(Nat.le_of_ble_eq_true rfl), (Nat.le_of_ble_eq_true rfl)⟩) hS (fun q _ h => h.1) (fun q h => h.1) (fun q _ h => h.1) (fun E ce q9 uq t H1 locs ht hvm _ hB hz hk hS hcell hv9 hcl => ?_) (fun r uq t H1 locs ht hvm hp hB hz hk hS => ?_)
  · obtain ⟨hE, hM1⟩ := hB
    rw [ht] at hM1
    have hO1 : OCel D ac H1 b f := hb9.kept (hk b hbl (fun q => q.2 rfl))
    rcases hE with ⟨rfl, hcd⟩ | ⟨rfl, hcd⟩
    · refine vx_catch (own := RL) (name := xIO) hown [] ⟨0, 9, 12, 20⟩ [⟨0, 9, 15, 15⟩] (by rw [htb]; rfl) (by intro z hz; cases hz) (by decide) (by decide) (hts (Cond.classLink RL 20 xIO) (by decide +kernel)) (hX.2.2.use (.castable xIO xIO) (by decide +kernel)) hcell hv9 hcl ?_
      refine lv_astore_n (lv' := [(3, .ref q9), (0, .ref (adr 0)), (1, .int x), (2, .ref b)]) hx hb dL_mend_12 rfl hl (by decide) rfl (fun ls hl => ?_)
      refine lv_iconst (v := 1) hx hb dL_mend_13 (by decide) ?_
      rw [hQ0]
      exact e_h (u := (N, adr, w, f)) hx hb hlocks hr dL_mend_14 (Nat.le_of_ble_eq_true rfl) (Nat.le_of_ble_eq_true rfl) hM1 hO1 hS (HPo.no (c := 1) hcd (by decide) rfl)
    · refine vx_catch (own := RL) (name := xIS) hown [⟨0, 9, 12, 20⟩] ⟨0, 9, 15, 15⟩ [] (by rw [htb]; rfl) (by intro z hz; simp only [List.mem_cons, List.not_mem_nil, or_false] at hz; rcases hz with rfl <;> first | exact Or.inr ⟨by decide, xIO, hts (Cond.classLink RL 20 xIO) (by decide +kernel), hC.2.1⟩) (by decide) (by decide) (hts (Cond.classLink RL 15 xIS) (by decide +kernel)) (hX.2.2.use (.castable xIS xIS) (by decide +kernel)) hcell hv9 hcl ?_
      refine lv_astore_n (lv' := [(3, .ref q9), (0, .ref (adr 0)), (1, .int x), (2, .ref b)]) hx hb dL_mend_15 rfl hl (by decide) rfl (fun ls hl => ?_)
      refine lv_iconst (v := 2) hx hb dL_mend_16 (by decide) ?_
      rw [hQ0]
      exact e_h (u := (N, adr, w, f)) hx hb hlocks hr dL_mend_17 (Nat.le_of_ble_eq_true rfl) (Nat.le_of_ble_eq_true rfl) hM1 hO1 hS (HPo.no (c := 2) hcd (by decide) rfl)
  · rw [ht] at hB
    have hO1 : OCel D ac H1 b f := hb9.kept (hk b hbl (fun q => q.2 rfl))
    refine lv_i2l (v := r.toInt64) hx hb dL_mend_7 rfl ?_
    refine h_last hx hb hK hB hO1 hAb hS dL_mend_8 (fun H1 locs f1 hB hO1 hf1 hS => ?_)
    refine lv_goto (tgt := 18) hx hb dL_mend_9 (by decide) ?_
    refine lv_iconst (v := 0) hx hb dL_mend_18 (by decide) ?_
    rw [hQ0]
    exact e_h (u := (N, adr, uq, f1)) hx hb hlocks hr dL_mend_19 (Nat.le_of_ble_eq_true rfl) (Nat.le_of_ble_eq_true rfl) hB hO1 hS (Or.inl ⟨rfl, r, ⟨rfl, rfl, hp⟩, hf1⟩)
set_option maxHeartbeats 4000000 in
set_option maxRecDepth 100000 in
/-- the law's helper setPrices -/
theorem kL_setPrices (l : Launch) (D : va_G) (ac : Nat → ClassId) (H : Heap) (A : Nat → Prop) (N : Nat) (adr : Nat → Nat) (w : Nat → va_E) (b : Nat) (f : Nat → Int64) (hM : MW D (Abt A b) N adr w H) (hb9 : OCel D ac H b f) (hAb : A b) (P : (Nat → va_E) → Prop) (code : Nat) (x y z : Int32) (fs0 : List Value) (h0 : Cel D H (adr 0) (.inr (7, fs0))) (hC9 : WXv l yX7_setPrices wsX7_setPrices ({ frames := 6, cells := 1, slots := 6, locals := 89 }) [.ref (adr 0), .int x, .int y, .int z] D ac H (Abt A b) N adr w P (XC1 xIA code) 1 6) : Met l yL_setPrices wsL_setPrices ({ frames := 7, cells := 1, slots := 6, locals := 112 }) (LPre D ac H A [.ref (adr 0), .int x, .int y, .int z]) (va_Qi (HPv code P N adr w f) (HB D ac A b) A) 1 6 A := by
  refine va_MetW (cc := cL_setPrices) (maxL := 5) (ret := (some .int)) (hh := [(0, 7, 10, 13)]) (by decide) rfl ?_
  intro p e s m args below meth c s₁ B hml hv
  obtain ⟨hargs, hsz, hK, hX, hC⟩ := hv
  have hx := B.exec
  have hb := B.bytes
  have hr := B.returns
  have hts := atoms_spec (ws := wsL_setPrices) B.pre
  have hown : s.vm.findClass RL = some m.cls := findClass_of_methodNamed B.named
  have hlocks := B.notSynchronized
  have htb := vx_table (x := yL_setPrices) B (hts _ List.mem_cons_self)
  subst hsz
  have hS : va_S A s.heap s.heap [] := va_S.rf
  have hX1 : XQ (Abt A b) s s.heap := hX.narrow (fun q h => h.1)
  have hbl : b < s.heap.size := hb9.lt
  have hl := lv_entry ([.ref (adr 0), .int x, .int y, .int z]) (n := 5) (Nat.le_of_ble_eq_true rfl)
  have hen := lg_entry_eq m [.ref (adr 0), .int x, .int y, .int z] 5
  rw [← hargs] at hen
  rw [hen]
  generalize (lg_sl ([.ref (adr 0), .int x, .int y, .int z]) ++ List.replicate (5 - (lg_sl ([.ref (adr 0), .int x, .int y, .int z])).length) Slot.unset).toArray = ls at hl ⊢
  have hl : lv_has ls 5 [(0, .ref (adr 0)), (1, .int x), (2, .int y), (3, .int z)] := hl
  obtain ⟨Q0, hQ0⟩ : ∃ z, z = MQ below (va_Qi (HPv code P N adr w f) (HB D ac A b) A) args s 1 6 A := ⟨_, rfl⟩
  rw [← hQ0]
  refine lv_aload_n hx hb dL_setPrices_0 rfl (lv_at hl 0 rfl) ?_
  refine lv_iload_n hx hb dL_setPrices_1 rfl (lv_at hl 1 rfl) ?_
  refine lv_iload_n hx hb dL_setPrices_2 rfl (lv_at hl 2 rfl) ?_
  refine lv_iload_n hx hb dL_setPrices_3 rfl (lv_at hl 3 rfl) ?_
  refine vx_callv (vx_runV (As := [.int x, .int y, .int z]) (rest := []) ⟨hx, hb, hml, hown, hts⟩ hC9 (cwV 3 hts gL_setPrices_X7_setPrices rfl rfl rfl (by decide +kernel) ⟨(Nat.le_of_ble_eq_true rfl), (Nat.le_of_ble_eq_true rfl)⟩) (pVX hK hX1 (ci := 7) rfl h0) rfl rfl hl.1 rfl (lv_room (Nat.le_of_ble_eq_true rfl)) dL_setPrices_4 ⟨(Nat.le_of_ble_eq_true rfl), (Nat.le_of_ble_eq_true rfl)⟩) hS (fun q _ h => h.1) (fun q h => h.1) (fun q _ h => h.1) (fun E ce q9 uq t H1 locs ht hvm _ hB hz hk hS hcell hv9 hcl => ?_) (fun uq t H1 locs ht hvm hp hB hz hk hS => ?_)
  · obtain ⟨hE, hM1⟩ := hB
    rw [ht] at hM1
    have hO1 : OCel D ac H1 b f := hb9.kept (hk b hbl (fun q => q.2 rfl))
    obtain ⟨rfl, hcd⟩ := hE
    refine vx_catch (own := RL) (name := xIA) hown [] ⟨0, 7, 10, 13⟩ [] (by rw [htb]; rfl) (by intro z hz; cases hz) (by decide) (by decide) (hts (Cond.classLink RL 13 xIA) (by decide +kernel)) (hX.2.2.use (.castable xIA xIA) (by decide +kernel)) hcell hv9 hcl ?_
    refine lv_astore (lv' := [(4, .ref q9), (0, .ref (adr 0)), (1, .int x), (2, .int y), (3, .int z)]) hx hb dL_setPrices_10 hl (by decide) rfl (fun ls hl => ?_)
    refine lv_iconst (v := 1) hx hb dL_setPrices_12 (by decide) ?_
    rw [hQ0]
    exact e_h (u := (N, adr, w, f)) hx hb hlocks hr dL_setPrices_13 (Nat.le_of_ble_eq_true rfl) (Nat.le_of_ble_eq_true rfl) hM1 hO1 hS (HPv.no (c := 1) hcd (by decide) rfl)
  · rw [ht] at hB
    have hO1 : OCel D ac H1 b f := hb9.kept (hk b hbl (fun q => q.2 rfl))
    refine lv_goto (tgt := 14) hx hb dL_setPrices_7 (by decide) ?_
    refine lv_iconst (v := 0) hx hb dL_setPrices_14 (by decide) ?_
    rw [hQ0]
    exact e_h (u := (N, adr, uq, f)) hx hb hlocks hr dL_setPrices_15 (Nat.le_of_ble_eq_true rfl) (Nat.le_of_ble_eq_true rfl) hB hO1 hS (Or.inl ⟨rfl, rfl, rfl, hp⟩)
set_option maxHeartbeats 4000000 in
set_option maxRecDepth 100000 in
/-- the law's helper paid -/
theorem kL_paid (l : Launch) (D : va_G) (ac : Nat → ClassId) (H : Heap) (A : Nat → Prop) (N : Nat) (adr : Nat → Nat) (w : Nat → va_E) (b : Nat) (f : Nat → Int64) (hM : MW D (Abt A b) N adr w H) (hb9 : OCel D ac H b f) (hAb : A b) (P : Int32 → (Nat → va_E) → Prop) (code : Nat) (x : Int32) (fs0 : List Value) (h0 : Cel D H (adr 0) (.inr (7, fs0))) (hC9 : WXi l yX7_paid wsX7_paid ({ frames := 6, cells := 1, slots := 6, locals := 89 }) [.ref (adr 0), .int x] D ac H (Abt A b) N adr w P (XC1 xIA code) 1 6) : Met l yL_paid wsL_paid ({ frames := 7, cells := 1, slots := 6, locals := 110 }) (LPre D ac H A [.ref (adr 0), .int x, .ref b]) (va_Qi (HPo code (fun v N9 a9 w9 => N9 = N ∧ a9 = adr ∧ P v w9) N adr w f) (HB D ac A b) A) 1 6 A := by
  refine va_MetW (cc := cL_paid) (maxL := 4) (ret := (some .int)) (hh := [(0, 9, 12, 13)]) (by decide) rfl ?_
  intro p e s m args below meth c s₁ B hml hv
  obtain ⟨hargs, hsz, hK, hX, hC⟩ := hv
  have hx := B.exec
  have hb := B.bytes
  have hr := B.returns
  have hts := atoms_spec (ws := wsL_paid) B.pre
  have hown : s.vm.findClass RL = some m.cls := findClass_of_methodNamed B.named
  have hlocks := B.notSynchronized
  have htb := vx_table (x := yL_paid) B (hts _ List.mem_cons_self)
  subst hsz
  have hS : va_S A s.heap s.heap [] := va_S.rf
  have hX1 : XQ (Abt A b) s s.heap := hX.narrow (fun q h => h.1)
  have hbl : b < s.heap.size := hb9.lt
  have hl := lv_entry ([.ref (adr 0), .int x, .ref b]) (n := 4) (Nat.le_of_ble_eq_true rfl)
  have hen := lg_entry_eq m [.ref (adr 0), .int x, .ref b] 4
  rw [← hargs] at hen
  rw [hen]
  generalize (lg_sl ([.ref (adr 0), .int x, .ref b]) ++ List.replicate (4 - (lg_sl ([.ref (adr 0), .int x, .ref b])).length) Slot.unset).toArray = ls at hl ⊢
  have hl : lv_has ls 4 [(0, .ref (adr 0)), (1, .int x), (2, .ref b)] := hl
  obtain ⟨Q0, hQ0⟩ : ∃ z, z = MQ below (va_Qi (HPo code (fun v N9 a9 w9 => N9 = N ∧ a9 = adr ∧ P v w9) N adr w f) (HB D ac A b) A) args s 1 6 A := ⟨_, rfl⟩
  rw [← hQ0]
  refine lv_aload_n hx hb dL_paid_0 rfl (lv_at hl 2 rfl) ?_
  refine lv_iconst (v := 0) hx hb dL_paid_1 (by decide) ?_
  refine lv_aload_n hx hb dL_paid_2 rfl (lv_at hl 0 rfl) ?_
  refine lv_iload_n hx hb dL_paid_3 rfl (lv_at hl 1 rfl) ?_
  refine vx_calli (vx_runV (As := [.int x]) (rest := [.int 0, .ref b]) ⟨hx, hb, hml, hown, hts⟩ hC9 (cwV 1 hts gL_paid_X7_paid rfl rfl rfl (by decide +kernel) ⟨(Nat.le_of_ble_eq_true rfl), (Nat.le_of_ble_eq_true rfl)⟩) (pVX hK hX1 (ci := 7) rfl h0) rfl rfl hl.1 rfl (lv_room (Nat.le_of_ble_eq_true rfl)) dL_paid_4 ⟨(Nat.le_of_ble_eq_true rfl), (Nat.le_of_ble_eq_true rfl)⟩) hS (fun q _ h => h.1) (fun q h => h.1) (fun q _ h => h.1) (fun E ce q9 uq t H1 locs ht hvm _ hB hz hk hS hcell hv9 hcl => ?_) (fun r uq t H1 locs ht hvm hp hB hz hk hS => ?_)
  · obtain ⟨hE, hM1⟩ := hB
    rw [ht] at hM1
    have hO1 : OCel D ac H1 b f := hb9.kept (hk b hbl (fun q => q.2 rfl))
    obtain ⟨rfl, hcd⟩ := hE
    refine vx_catch (own := RL) (name := xIA) hown [] ⟨0, 9, 12, 13⟩ [] (by rw [htb]; rfl) (by intro z hz; cases hz) (by decide) (by decide) (hts (Cond.classLink RL 13 xIA) (by decide +kernel)) (hX.2.2.use (.castable xIA xIA) (by decide +kernel)) hcell hv9 hcl ?_
    refine lv_astore_n (lv' := [(3, .ref q9), (0, .ref (adr 0)), (1, .int x), (2, .ref b)]) hx hb dL_paid_12 rfl hl (by decide) rfl (fun ls hl => ?_)
    refine lv_iconst (v := 1) hx hb dL_paid_13 (by decide) ?_
    rw [hQ0]
    exact e_h (u := (N, adr, w, f)) hx hb hlocks hr dL_paid_14 (Nat.le_of_ble_eq_true rfl) (Nat.le_of_ble_eq_true rfl) hM1 hO1 hS (HPo.no (c := 1) hcd (by decide) rfl)
  · rw [ht] at hB
    have hO1 : OCel D ac H1 b f := hb9.kept (hk b hbl (fun q => q.2 rfl))
    refine lv_i2l (v := r.toInt64) hx hb dL_paid_7 rfl ?_
    refine h_last hx hb hK hB hO1 hAb hS dL_paid_8 (fun H1 locs f1 hB hO1 hf1 hS => ?_)
    refine lv_goto (tgt := 15) hx hb dL_paid_9 (by decide) ?_
    refine lv_iconst (v := 0) hx hb dL_paid_15 (by decide) ?_
    rw [hQ0]
    exact e_h (u := (N, adr, uq, f1)) hx hb hlocks hr dL_paid_16 (Nat.le_of_ble_eq_true rfl) (Nat.le_of_ble_eq_true rfl) hB hO1 hS (Or.inl ⟨rfl, r, ⟨rfl, rfl, hp⟩, hf1⟩)
set_option maxHeartbeats 4000000 in
set_option maxRecDepth 100000 in
/-- the law's helper earned -/
theorem kL_earned (l : Launch) (D : va_G) (ac : Nat → ClassId) (H : Heap) (A : Nat → Prop) (N : Nat) (adr : Nat → Nat) (w : Nat → va_E) (b : Nat) (f : Nat → Int64) (hM : MW D (Abt A b) N adr w H) (hb9 : OCel D ac H b f) (hAb : A b) (P : Int32 → (Nat → va_E) → Prop) (code : Nat) (x : Int32) (fs0 : List Value) (h0 : Cel D H (adr 0) (.inr (7, fs0))) (hC9 : WXi l yX7_earned wsX7_earned ({ frames := 6, cells := 1, slots := 6, locals := 89 }) [.ref (adr 0), .int x] D ac H (Abt A b) N adr w P (XC1 xIA code) 1 6) : Met l yL_earned wsL_earned ({ frames := 7, cells := 1, slots := 6, locals := 110 }) (LPre D ac H A [.ref (adr 0), .int x, .ref b]) (va_Qi (HPo code (fun v N9 a9 w9 => N9 = N ∧ a9 = adr ∧ P v w9) N adr w f) (HB D ac A b) A) 1 6 A := by
  refine va_MetW (cc := cL_earned) (maxL := 4) (ret := (some .int)) (hh := [(0, 9, 12, 13)]) (by decide) rfl ?_
  intro p e s m args below meth c s₁ B hml hv
  obtain ⟨hargs, hsz, hK, hX, hC⟩ := hv
  have hx := B.exec
  have hb := B.bytes
  have hr := B.returns
  have hts := atoms_spec (ws := wsL_earned) B.pre
  have hown : s.vm.findClass RL = some m.cls := findClass_of_methodNamed B.named
  have hlocks := B.notSynchronized
  have htb := vx_table (x := yL_earned) B (hts _ List.mem_cons_self)
  subst hsz
  have hS : va_S A s.heap s.heap [] := va_S.rf
  have hX1 : XQ (Abt A b) s s.heap := hX.narrow (fun q h => h.1)
  have hbl : b < s.heap.size := hb9.lt
  have hl := lv_entry ([.ref (adr 0), .int x, .ref b]) (n := 4) (Nat.le_of_ble_eq_true rfl)
  have hen := lg_entry_eq m [.ref (adr 0), .int x, .ref b] 4
  rw [← hargs] at hen
  rw [hen]
  generalize (lg_sl ([.ref (adr 0), .int x, .ref b]) ++ List.replicate (4 - (lg_sl ([.ref (adr 0), .int x, .ref b])).length) Slot.unset).toArray = ls at hl ⊢
  have hl : lv_has ls 4 [(0, .ref (adr 0)), (1, .int x), (2, .ref b)] := hl
  obtain ⟨Q0, hQ0⟩ : ∃ z, z = MQ below (va_Qi (HPo code (fun v N9 a9 w9 => N9 = N ∧ a9 = adr ∧ P v w9) N adr w f) (HB D ac A b) A) args s 1 6 A := ⟨_, rfl⟩
  rw [← hQ0]
  refine lv_aload_n hx hb dL_earned_0 rfl (lv_at hl 2 rfl) ?_
  refine lv_iconst (v := 0) hx hb dL_earned_1 (by decide) ?_
  refine lv_aload_n hx hb dL_earned_2 rfl (lv_at hl 0 rfl) ?_
  refine lv_iload_n hx hb dL_earned_3 rfl (lv_at hl 1 rfl) ?_
  refine vx_calli (vx_runV (As := [.int x]) (rest := [.int 0, .ref b]) ⟨hx, hb, hml, hown, hts⟩ hC9 (cwV 1 hts gL_earned_X7_earned rfl rfl rfl (by decide +kernel) ⟨(Nat.le_of_ble_eq_true rfl), (Nat.le_of_ble_eq_true rfl)⟩) (pVX hK hX1 (ci := 7) rfl h0) rfl rfl hl.1 rfl (lv_room (Nat.le_of_ble_eq_true rfl)) dL_earned_4 ⟨(Nat.le_of_ble_eq_true rfl), (Nat.le_of_ble_eq_true rfl)⟩) hS (fun q _ h => h.1) (fun q h => h.1) (fun q _ h => h.1) (fun E ce q9 uq t H1 locs ht hvm _ hB hz hk hS hcell hv9 hcl => ?_) (fun r uq t H1 locs ht hvm hp hB hz hk hS => ?_)
  · obtain ⟨hE, hM1⟩ := hB
    rw [ht] at hM1
    have hO1 : OCel D ac H1 b f := hb9.kept (hk b hbl (fun q => q.2 rfl))
    obtain ⟨rfl, hcd⟩ := hE
    refine vx_catch (own := RL) (name := xIA) hown [] ⟨0, 9, 12, 13⟩ [] (by rw [htb]; rfl) (by intro z hz; cases hz) (by decide) (by decide) (hts (Cond.classLink RL 13 xIA) (by decide +kernel)) (hX.2.2.use (.castable xIA xIA) (by decide +kernel)) hcell hv9 hcl ?_
    refine lv_astore_n (lv' := [(3, .ref q9), (0, .ref (adr 0)), (1, .int x), (2, .ref b)]) hx hb dL_earned_12 rfl hl (by decide) rfl (fun ls hl => ?_)
    refine lv_iconst (v := 1) hx hb dL_earned_13 (by decide) ?_
    rw [hQ0]
    exact e_h (u := (N, adr, w, f)) hx hb hlocks hr dL_earned_14 (Nat.le_of_ble_eq_true rfl) (Nat.le_of_ble_eq_true rfl) hM1 hO1 hS (HPo.no (c := 1) hcd (by decide) rfl)
  · rw [ht] at hB
    have hO1 : OCel D ac H1 b f := hb9.kept (hk b hbl (fun q => q.2 rfl))
    refine lv_i2l (v := r.toInt64) hx hb dL_earned_7 rfl ?_
    refine h_last hx hb hK hB hO1 hAb hS dL_earned_8 (fun H1 locs f1 hB hO1 hf1 hS => ?_)
    refine lv_goto (tgt := 15) hx hb dL_earned_9 (by decide) ?_
    refine lv_iconst (v := 0) hx hb dL_earned_15 (by decide) ?_
    rw [hQ0]
    exact e_h (u := (N, adr, uq, f1)) hx hb hlocks hr dL_earned_16 (Nat.le_of_ble_eq_true rfl) (Nat.le_of_ble_eq_true rfl) hB hO1 hS (Or.inl ⟨rfl, r, ⟨rfl, rfl, hp⟩, hf1⟩)
