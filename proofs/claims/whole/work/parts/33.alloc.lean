-- new cells: the world has one name more
theorem va_RA.cls {U : State} {cA cB : ClassId} {ty : FieldType} (h1 : va_RA U cA ty) (h2 : va_RA U cB ty) : cA = cB := by
  cases ty with
  | object C =>
    obtain ⟨_, _, _, _, _, h1⟩ := h1
    obtain ⟨_, _, _, _, _, h2⟩ := h2
    exact Option.some.inj (h1.symm.trans h2)
  | _ =>
    have h1 : U.vm.findClass _ = some cA := h1
    have h2 : U.vm.findClass _ = some cB := h2
    exact Option.some.inj (h1.symm.trans h2)
theorem MW.rebase {D : va_G} {A : Nat → Prop} {N : Nat} {adr : Nat → Nat} {c : Nat → va_E} {q : Nat} {e : va_E} {H : Heap} (hP : va_P D vwCl (wn N adr c ++ [(q, e)]) H) (hD : va_D A (wn N adr c ++ [(q, e)])) : MW D A (N + 1) (va_up adr N q) (va_up c N e) H := by
  unfold MW
  rw [← wn_push]
  exact ⟨hP, hD⟩
def cvP (post : (Nat → Nat) → (Nat → va_E) → Prop) (u : (Nat → Nat) × (Nat → va_E)) : Prop := post u.1 u.2
/-- a method that makes cells: more names, the old ones as before -/
abbrev WCv (l : Launch) (y : MethodName) (ws : List Cond) (rm : Room) (av : List Value) (D : va_G) (ac : Nat → ClassId) (H : Heap) (A : Nat → Prop) (N2 : Nat) (post : (Nat → Nat) → (Nat → va_E) → Prop) (mc ms : Nat) : Prop := Met l y ws rm (RPre D ac H av) (va_Qv (cvP post) (fun u t => MW D A N2 u.1 u.2 t.heap) A) mc ms A
def AOs (U : State) : Prop := va_AO RX3 U ∧ va_AO RX6 U
theorem AOs.warm {s U : State} (hW : s.WarmedH U.vm) (h : AOs s) : AOs U := ⟨va_AO.moved hW.alike h.1, va_AO.moved hW.alike h.2⟩
theorem AOs.call {U : State} {g : JFrame} {mk : MethodId} {a : Array Value} (h : AOs U) : AOs (U.calling g mk a) := ⟨va_AO.moved (u := U) (U := U.calling g mk a) (Vm.Alike.refl U.vm) h.1, va_AO.moved (u := U) (U := U.calling g mk a) (Vm.Alike.refl U.vm) h.2⟩
abbrev CPre (D : va_G) (ac : Nat → ClassId) (H : Heap) (av : List Value) : Array Value → State → Prop := va_Pc av (fun U => U.heap = H ∧ KN D ac U ∧ AOs U)
theorem CPre.blind {D : va_G} {ac : Nat → ClassId} {H : Heap} {av : List Value} : FrameBlind (CPre D ac H av) := fun a U g mk q => by
  obtain ⟨q0, q1, q2, q3⟩ := q
  exact ⟨q0, q1, q2.call, q3.call⟩
abbrev WCAv (l : Launch) (y : MethodName) (ws : List Cond) (rm : Room) (av : List Value) (D : va_G) (ac : Nat → ClassId) (H : Heap) (A : Nat → Prop) (N2 : Nat) (post : (Nat → Nat) → (Nat → va_E) → Prop) (mc ms : Nat) : Prop := Met l y ws rm (CPre D ac H av) (va_Qv (cvP post) (fun u t => MW D A N2 u.1 u.2 t.heap) A) mc ms A
section AL
variable {p : Program} {l : Launch} {e : Env} {R : Room} {s : State} {m : MethodId} {args : Array Value} {below : List Frame} {meth : Method} {c : Code} {H : Heap} {locs : List Loc} {cells slots : Nat} {Q : State → Prop}
variable {cc : ByteArray} {pc : Nat} {ls : Array Slot} {rest st0 : List Value} {D : va_G} {ac : Nat → ClassId} {a : Nat} {A : Nat → Prop} {H0 : Heap} {N N2 : Nat} {adr adr1 : Nat → Nat} {w w1 : Nat → va_E} {mc ms mc1 ms1 : Nat}
theorem pSA {As : List Value} (hK : KN D ac s) (hO : AOs s) : PreS s H (CPre D ac H As) As := ⟨CPre.blind, fun U hU hW => ⟨rfl, hU, hK.warm hW, hO.warm hW⟩⟩
theorem m_newa (hx : p.tables.exec = Jvm.exec) (hb : c.code = cc) {atype : ArrayType} (harr : (Cond.arrayClass (newarray.typeOf atype)).before args s = true) (hK : KN D ac s) (hM : MW D A N adr w H) (hS : va_S A H0 H locs) (hA : ∀ q, H0.size ≤ q → A q) (t0 : Nat) {ty : FieldType} (hty : newarray.typeOf atype = ty) (ht : (tyL ac)[t0]? = some (ac t0, ty))
    {n : Int32} {N' : Nat} {a0 : vp_A} (ha : ∀ cA : ClassId, vp_cell cA a0 = arrV cA N' (fun _ => defaultValue ty)) (hn : ¬ n < 0) (hN : n.toNatClampNeg = N') (hbytes : N' * componentBytes ty ≤ 536870912) (hcells : cells + 1 ≤ R.cells) (hslots : slots + N' ≤ R.slots) (hdg : decode cc pc = .ok (.newarray atype, 2))
    (kk : ∀ (adr2 : Nat → Nat) (H1 : Heap), (∀ k, k < N → adr k = adr2 k) → MW D A (N + 1) adr2 (va_up w N (.inl (ac t0, a0))) H1 → va_S A H0 H1 locs → W p l e R s m args below meth c H1 locs (cells + 1) (slots + N') Q (F0 m (pc + 2) ls (.ref (adr2 N) :: rest))) : W p l e R s m args below meth c H locs cells slots Q (F0 m pc ls (.int n :: rest)) :=
  va_newa hx hb harr hty hK.1 hM.1 hM.2 hS hA ha hn hN hbytes hcells hslots hdg (fun q cA H1 hK1 h1 h2 h3 => by
    have e9 : cA = ac t0 := ((hK1.2 5 _ rfl).2).cls ((hK.1.2 t0 _ ht).2)
    subst e9
    have h9 := kk (va_up adr N q) H1 (fun k hk => (va_up_ne _ _ (by omega)).symm) (MW.rebase h1 h2) h3
    rwa [va_up_self] at h9)
theorem m_newq (hx : p.tables.exec = Jvm.exec) (hb : c.code = cc) {own C : String} {index : Nat} (hown : s.vm.findClass own = some m.cls) (hcl : (Cond.classLink own index C).before args s = true) (hO : va_AO C s) (hK : KN D ac s) (hM : MW D A N adr w H) (hS : va_S A H0 H locs) (hA : ∀ q, H0.size ≤ q → A q) (t0 : Nat) (ht : (tyL ac)[t0]? = some (ac t0, .object C))
    {n : Int32} {N' : Nat} (hn : ¬ n < 0) (hN : n.toNatClampNeg = N') (hbytes : N' * 4 ≤ 536870912) (hcells : cells + 1 ≤ R.cells) (hslots : slots + N' ≤ R.slots) (hdg : decode cc pc = .ok (.anewarray index, 3))
    (kk : ∀ (adr2 : Nat → Nat) (H1 : Heap), (∀ k, k < N → adr k = adr2 k) → MW D A (N + 1) adr2 (va_up w N (.inl (ac t0, N', .inr (.inr (.inr (.inr (fun _ => none))))))) H1 → va_S A H0 H1 locs → W p l e R s m args below meth c H1 locs (cells + 1) (slots + N') Q (F0 m (pc + 3) ls (.ref (adr2 N) :: rest))) : W p l e R s m args below meth c H locs cells slots Q (F0 m pc ls (.int n :: rest)) :=
  va_newq hx hb hown hcl hO hK.1 hM.1 hM.2 hS hA hn hN hbytes hcells hslots hdg (fun q cA H1 hK1 h1 h2 h3 => by
    have e9 : cA = ac t0 := ((hK1.2 5 _ rfl).2).cls ((hK.1.2 t0 _ ht).2)
    subst e9
    have h9 := kk (va_up adr N q) H1 (fun k hk => (va_up_ne _ _ (by omega)).symm) (MW.rebase h1 h2) h3
    rwa [va_up_self] at h9)
theorem m_new (hx : p.tables.exec = Jvm.exec) (hb : c.code = cc) {own C : String} {T : u_T} {n ci index : Nat} {Ts : List Cond} (hts : ∀ w ∈ Ts, w.before args s = true) (hin : ∀ w ∈ u_ws C T n, w ∈ Ts) (ty : Nat → FieldType) (hty : ∀ k, k < n → parseFieldDescriptor (T k).2.2.1 = some (ty k)) (hown : s.vm.findClass own = some m.cls) (hcl : (Cond.classLink own index C).before args s = true) (hinst : (Cond.instantiable C n).before args s = true) (hini : (Cond.initialized C).before args s = true)
    (hK : KN D ac s) (hM : MW D A N adr w H) (hS : va_S A H0 H locs) (hA : ∀ q, H0.size ≤ q → A q) (hc : vwCl[ci]? = some (C, T, n)) {fs : List Value} (hfs : ∀ j, j < n → defaultValue (ty j) = vp_V fs j) (hcells : cells + 1 ≤ R.cells) (hslots : slots + n ≤ R.slots) (hdg : decode cc pc = .ok (.new index, 3))
    (kk : ∀ (adr2 : Nat → Nat) (H1 : Heap), (∀ k, k < N → adr k = adr2 k) → MW D A (N + 1) adr2 (va_up w N (.inr (ci, fs))) H1 → va_S A H0 H1 locs → W p l e R s m args below meth c H1 locs (cells + 1) (slots + n) Q (F0 m (pc + 3) ls (.ref (adr2 N) :: rest))) : W p l e R s m args below meth c H locs cells slots Q (F0 m pc ls rest) :=
  va_new hx hb hts hin ty hty hown hcl hinst hini hK.1 hM.1 hM.2 hS hA hc hfs hcells hslots hdg (fun q H1 h1 h2 h3 => by
    have h9 := kk (va_up adr N q) H1 (fun k hk => (va_up_ne _ _ (by omega)).symm) (MW.rebase h1 h2) h3
    rwa [va_up_self] at h9)
theorem m_objinit (hx : p.tables.exec = Jvm.exec) (hb : c.code = cc) {own : String} (hown : s.vm.findClass own = some m.cls) {idx : Nat} (hlink : (Cond.methodLink own idx Lib.objectInit).before args s = true) (hinst : (Cond.instanceMethod Lib.objectInit).before args s = true) (hcode : (Cond.code Lib.objectInit ⟨#[0xb1]⟩ 1 none).before args s = true)
    (hsize : ls.size = c.maxLocals) (hd : decode cc pc = .ok (.invokespecial idx, 3)) (hframes : 1 ≤ R.frames) (hlocals : (rest.map fun v => v.category).sum + 12 ≤ R.locals)
    (kk : W p l e R s m args below meth c H locs cells slots Q (F0 m (pc + 3) ls rest)) : W p l e R s m args below meth c H locs cells slots Q (F0 m pc ls (.ref a :: rest)) :=
  W.objInit hx hb hown hlink hinst hcode rfl hsize rfl hd hframes (by show 2 * 0 + _ + 12 ≤ R.locals; omega) kk
theorem c_callv {post : (Nat → Nat) → (Nat → va_E) → Prop} {av : Array Value} (hr : va_Run p l e R s m args below meth c H locs cells slots mc1 ms1 (F0 m pc ls st0) rest (va_Qv (cvP post) (fun u t => MW D A N2 u.1 u.2 t.heap) A av) A) (hS : va_S A H0 H locs)
    (kk : ∀ (adr2 : Nat → Nat) (w1 : Nat → va_E) (H1 : Heap) (locs1 : List Loc), post adr2 w1 → MW D A N2 adr2 w1 H1 → va_S A H0 H1 locs1 → W p l e R s m args below meth c H1 locs1 (cells + mc1) (slots + ms1) Q (F0 m (pc + 3) ls rest)) : W p l e R s m args below meth c H locs cells slots Q (F0 m pc ls st0) :=
  va_callv hr hS (fun _ _ h => h) (fun _ h => h) (fun u t H1 locs1 ht hvm hp hB hz hk hS1 => by
    have hB : MW D A N2 u.1 u.2 t.heap := hB
    rw [ht] at hB
    exact kk u.1 u.2 H1 locs1 hp hB hS1)
theorem e_cv {post : (Nat → Nat) → (Nat → va_E) → Prop} (hx : p.tables.exec = Jvm.exec) (hb : c.code = cc) (hlocks : meth.locks = false) (hr : meth.sig.returnType = none) (hdg : decode cc pc = .ok (.return_, 1)) (hc : cells ≤ mc) (hs : slots ≤ ms) (hM : MW D A N2 adr1 w1 H) (hS : va_S A s.heap H locs) (hp : post adr1 w1) : W p l e R s m args below meth c H locs cells slots (MQ below (va_Qv (cvP post) (fun u t => MW D A N2 u.1 u.2 t.heap) A) args s mc ms A) (F0 m pc ls []) :=
  W.widen hc hs (W.vret hx hb hr (fun t ht hW => ⟨⟨(adr1, w1), rfl, hp, by show MW D A N2 adr1 w1 t.heap; rw [ht]; exact hM⟩, hS.F ht⟩) hS.2.2 hdg hlocks)
end AL
