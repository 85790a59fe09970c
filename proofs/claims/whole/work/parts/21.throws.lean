abbrev xNames : List String := ["java/lang/RuntimeException", "java/lang/Exception"]
abbrev xIA : String := "java/lang/IllegalArgumentException"
abbrev xIS : String := "java/lang/IllegalStateException"
abbrev xIO : String := "java/lang/IndexOutOfBoundsException"
def ngL : List Cond := [.castable xIA xIA, .castable xIS xIS, .castable xIO xIO, .declares (Bundle.init0 "java/lang/RuntimeException"), .declares (Bundle.init0 "java/lang/Exception"), .declares (Bundle.init0 Bundle.tN)]
set_option maxRecDepth 20000 in
theorem ng_IA : ∀ w ∈ (vx_at0 RX7 71 xIA xNames).filter (fun w => !goodWord w), w ∈ ngL := by decide +kernel
set_option maxRecDepth 20000 in
theorem ng_IS : ∀ w ∈ (vx_at0 RX7 77 xIS xNames).filter (fun w => !goodWord w), w ∈ ngL := by decide +kernel
set_option maxRecDepth 20000 in
theorem ng_IO : ∀ w ∈ (vx_at0 RX7 239 xIO xNames).filter (fun w => !goodWord w), w ∈ ngL := by decide +kernel
set_option maxRecDepth 20000 in
theorem ot_IA : ∀ w ∈ Cond.classLink RX7 69 xIA :: Cond.initialized xIA :: vx_at0 RX7 71 xIA xNames, vx_ot w = true := by decide +kernel
set_option maxRecDepth 20000 in
theorem ot_IS : ∀ w ∈ Cond.classLink RX7 75 xIS :: Cond.initialized xIS :: vx_at0 RX7 77 xIS xNames, vx_ot w = true := by decide +kernel
set_option maxRecDepth 20000 in
theorem ot_IO : ∀ w ∈ Cond.classLink RX7 237 xIO :: Cond.initialized xIO :: vx_at0 RX7 239 xIO xNames, vx_ot w = true := by decide +kernel
def NGW (U : State) : Prop := va_Nw (.castable xIA xIA) U ∧ va_Nw (.castable xIS xIS) U ∧ va_Nw (.castable xIO xIO) U ∧ va_Nw (.declares (Bundle.init0 "java/lang/RuntimeException")) U ∧ va_Nw (.declares (Bundle.init0 "java/lang/Exception")) U ∧ va_Nw (.declares (Bundle.init0 Bundle.tN)) U
theorem NGW.warm {s U : State} (hW : s.WarmedH U.vm) (h : NGW s) : NGW U := ⟨va_Nw.warmC hW h.1, va_Nw.warmC hW h.2.1, va_Nw.warmC hW h.2.2.1, va_Nw.warmD hW h.2.2.2.1, va_Nw.warmD hW h.2.2.2.2.1, va_Nw.warmD hW h.2.2.2.2.2⟩
theorem NGW.same {u U : State} (hv : u.vm = U.vm) (h : NGW u) : NGW U := ⟨va_Nw.same rfl hv h.1, va_Nw.same rfl hv h.2.1, va_Nw.same rfl hv h.2.2.1, va_Nw.same rfl hv h.2.2.2.1, va_Nw.same rfl hv h.2.2.2.2.1, va_Nw.same rfl hv h.2.2.2.2.2⟩
theorem NGW.use {s : State} (h : NGW s) {args : Array Value} : ∀ w ∈ ngL, w.before args s = true := by
  intro w hw
  simp only [ngL, List.mem_cons, List.not_mem_nil, or_false] at hw
  rcases hw with rfl | rfl | rfl | rfl | rfl | rfl
  · exact va_Nw.use rfl h.1
  · exact va_Nw.use rfl h.2.1
  · exact va_Nw.use rfl h.2.2.1
  · exact va_Nw.use rfl h.2.2.2.1
  · exact va_Nw.use rfl h.2.2.2.2.1
  · exact va_Nw.use rfl h.2.2.2.2.2
/-- what a throw needs of the state and the heap -/
def XQ (A : Nat → Prop) (U : State) (H : Heap) : Prop := vx_Zq Bundle.tN "UNASSIGNED_STACK" Bundle.steD A U H ∧ vx_Zq Bundle.tN "SUPPRESSED_SENTINEL" Bundle.listD A U H ∧ NGW U
theorem XQ.warm {A : Nat → Prop} {s U : State} {H : Heap} (hW : s.WarmedH U.vm) (h : XQ A s H) : XQ A U H := ⟨vx_Zq.moved hW.alike h.1, vx_Zq.moved hW.alike h.2.1, h.2.2.warm hW⟩
theorem XQ.call {A : Nat → Prop} {U : State} {H : Heap} {g : JFrame} {mk : MethodId} {a : Array Value} (h : XQ A U H) : XQ A (U.calling g mk a) H := ⟨vx_Zq.moved (u := U) (U := U.calling g mk a) (Vm.Alike.refl U.vm) h.1, vx_Zq.moved (u := U) (U := U.calling g mk a) (Vm.Alike.refl U.vm) h.2.1, NGW.same (u := U) rfl h.2.2⟩
theorem XQ.kept {A : Nat → Prop} {U : State} {H H1 : Heap} (h : XQ A U H) (hq : ∀ a : Nat, a < H.size → ¬ A a → H1[a]? = H[a]?) : XQ A U H1 := ⟨h.1.kept hq, h.2.1.kept hq, h.2.2⟩
abbrev XPre (D : va_G) (ac : Nat → ClassId) (H : Heap) (A : Nat → Prop) (av : List Value) : Array Value → State → Prop := va_Pc av (fun U => U.heap = H ∧ KN D ac U ∧ XQ A U H)
theorem XPre.blind {D : va_G} {ac : Nat → ClassId} {H : Heap} {A : Nat → Prop} {av : List Value} : FrameBlind (XPre D ac H A av) := fun a U g mk q => by
  obtain ⟨q0, q1, q2, q3⟩ := q
  exact ⟨q0, q1, q2.call, q3.call⟩
/-- what is said where a call throws: which exception, and that the world is as it was -/
abbrev XOut (D : va_G) (A : Nat → Prop) (N : Nat) (adr : Nat → Nat) (w : Nat → va_E) (xp : String → Prop) : String → State → State → Prop := vx_X (fun _ : Unit => True) (fun E _ t => xp E ∧ MW D A N adr w t.heap) A
abbrev WXi (l : Launch) (y : MethodName) (ws : List Cond) (rm : Room) (av : List Value) (D : va_G) (ac : Nat → ClassId) (H : Heap) (A : Nat → Prop) (N : Nat) (adr : Nat → Nat) (w : Nat → va_E) (post : Int32 → (Nat → va_E) → Prop) (xp : String → Prop) (mc ms : Nat) : Prop := vx_Met l y ws rm (XPre D ac H A av) (va_Qi post (fun c t => MW D A N adr c t.heap) A) (XOut D A N adr w xp) mc ms A
abbrev WXv (l : Launch) (y : MethodName) (ws : List Cond) (rm : Room) (av : List Value) (D : va_G) (ac : Nat → ClassId) (H : Heap) (A : Nat → Prop) (N : Nat) (adr : Nat → Nat) (w : Nat → va_E) (post : (Nat → va_E) → Prop) (xp : String → Prop) (mc ms : Nat) : Prop := vx_Met l y ws rm (XPre D ac H A av) (va_Qv post (fun c t => MW D A N adr c t.heap) A) (XOut D A N adr w xp) mc ms A
/-- a reference, never null -/
abbrev WXr (l : Launch) (y : MethodName) (ws : List Cond) (rm : Room) (av : List Value) (D : va_G) (ac : Nat → ClassId) (H : Heap) (A : Nat → Prop) (N : Nat) (adr : Nat → Nat) (w : Nat → va_E) (post : Option Nat → (Nat → va_E) → Prop) (xp : String → Prop) (mc ms : Nat) : Prop := vx_Met l y ws rm (XPre D ac H A av) (va_Qq post (fun c t => MW D A N adr c t.heap) A) (XOut D A N adr w xp) mc ms A
/-! as in kit/laws/EXCEPTIONS.to-paste (its pool part) -/
section
variable {p : Program} {l : Launch} {e : Env} {R : Room} {s : State} {m : MethodId} {args : Array Value} {below : List Frame} {meth : Method} {c : Code} {H : Heap} {locs : List Loc} {cells slots : Nat} {Q : State → Prop}
variable {mc ms : Nat} {free : Addr → Prop} {A0 A1 : Nat → Prop} {H0 : Heap} {a : Array Value} {pc : Nat} {ls : Array Slot} {st0 rest : List Value}
theorem vx_callq {S SX : Type} {post : Option Nat → S → Prop} {px : SX → Prop} {B : S → State → Prop} {BX : String → SX → State → Prop} {AX : Nat → Prop} (hr : vx_Run p l e R s m args below meth c H locs cells slots mc ms (F0 m pc ls st0) rest (va_Qq post B A1 a) (vx_X px BX AX) free) (hS : va_S A0 H0 H locs) (hA : ∀ q, q < H.size → A1 q → A0 q) (hf : ∀ q, free q → A0 q) (hAX : ∀ q, q < H.size → AX q → A0 q)
    (kx : ∀ (E : String) (ce : Cell) (q9 : Addr) (u : SX) (t : State) (H1 : Heap) (locs1 : List Loc), t.heap = H1 → s.vm.Alike t.vm → px u → BX E u t → H.size ≤ H1.size → (∀ q : Nat, q < H.size → ¬ AX q → H1[q]? = H[q]?) → va_S A0 H0 H1 locs1 → H1[q9]? = some ce → ce.vm = .none → s.vm.findClass E = some ce.cls → vx_W p l e R s m args below meth c H1 locs1 (cells + mc) (slots + ms) Q (F0 m pc ls rest) q9)
    (kk : ∀ (r : Option Nat) (u : S) (t : State) (H1 : Heap) (locs1 : List Loc), t.heap = H1 → s.vm.Alike t.vm → post r u → B u t → H.size ≤ H1.size → (∀ q : Nat, q < H.size → ¬ A1 q → H1[q]? = H[q]?) → va_S A0 H0 H1 locs1 → W p l e R s m args below meth c H1 locs1 (cells + mc) (slots + ms) Q (F0 m (pc + 3) ls (va_rf r :: rest))) : W p l e R s m args below meth c H locs cells slots Q (F0 m pc ls st0) := by
  intro T hT X
  rcases hr T hT X with ⟨v, st₀, t, T', L, h0, X', hL, e1, e2, ⟨⟨r, u, hv, hp, hb⟩, hF⟩, st⟩ | ⟨q, st₀, t, T', L, E, ce, h0, X', hL, e1, e2, ⟨u, hp, hb, hF⟩, hce, hcv, hcl, st⟩
  · cases hv
    obtain ⟨k1, k2, k3⟩ := vx_keep h0 e1 hS hA hf hL hF
    obtain ⟨t2, a1, b1⟩ := kk r u t T'.heap (locs ++ L) e1.symm (by rw [← e2]; exact X'.warmed.alike) hp hb k1 k2 k3 T' rfl X'
    exact ⟨t2, st t2 a1, b1⟩
  · obtain ⟨k1, k2, k3⟩ := vx_keep h0 e1 hS hAX hf hL hF
    obtain ⟨t2, a1, b1⟩ := kx E ce q u t T'.heap (locs ++ L) e1.symm (by rw [← e2]; exact X'.warmed.alike) hp hb k1 k2 k3 (by rw [e1]; exact hce) hcv hcl T' rfl X'
    exact ⟨t2, st.trans a1, b1⟩
end
section XS
variable {s : State} {H H0 : Heap} {D : va_G} {ac : Nat → ClassId} {A : Nat → Prop} {locs : List Loc}
theorem XQ.at (h : XQ A s s.heap) (hS : va_S A s.heap H locs) : XQ A s H := h.kept (fun a h1 h2 => hS.2.1 a h1 h2)
theorem pSX {As : List Value} (hK : KN D ac s) (hX : XQ A s H) : PreS s H (XPre D ac H A As) As := ⟨XPre.blind, fun U hU hW => ⟨rfl, hU, hK.warm hW, hX.warm hW⟩⟩
theorem pVX {As : List Value} {b ci : Nat} {C : String} {T : u_T} {N : Nat} {fs : List Value} (hK : KN D ac s) (hX : XQ A s H) (hc : vwCl[ci]? = some (C, T, N)) (hb : Cel D H b (.inr (ci, fs))) : PreV s H C b (XPre D ac H A (.ref b :: As)) As :=
  ⟨XPre.blind, va_recv hK.1 hb.one (q0 := 0) hc rfl, fun U hU hW => ⟨rfl, hU, hK.warm hW, hX.warm hW⟩⟩
end XS
section XW
variable {p : Program} {l : Launch} {e : Env} {R : Room} {s : State} {m : MethodId} {args : Array Value} {below : List Frame} {meth : Method} {c : Code} {H : Heap} {locs : List Loc} {cells slots : Nat}
variable {cc : ByteArray} {pc : Nat} {ls : Array Slot} {rest st0 : List Value} {D : va_G} {ac : Nat → ClassId} {A : Nat → Prop} {N : Nat} {adr : Nat → Nat} {w : Nat → va_E} {Qc : Array Value → State → Outcome → State → Prop} {xp xq : String → Prop} {mc ms mc1 ms1 : Nat} {av : Array Value}
theorem x_out {E : String} {ce : Cell} {q : Addr} (hlocks : meth.locks = false) (hout : ∀ x ∈ c.exceptionTable.toList, False) (hS : va_S A s.heap H locs) (hB : xq E ∧ MW D A N adr w H) (hcell : H[q]? = some ce) (hv : ce.vm = .none) (hcl : s.vm.findClass E = some ce.cls) (hc : cells ≤ mc) (hs : slots ≤ ms) :
    vx_W p l e R s m args below meth c H locs cells slots (vx_MQ below Qc (XOut D A N adr w xq) args s mc ms A) (F0 m pc ls rest) q :=
  vx_out (fun x hx => (hout x hx).elim) hlocks hcell hv hcl (fun t ht _ => ⟨(), trivial, ⟨hB.1, by rw [ht]; exact hB.2⟩, hS.F ht⟩) hS.2.2 hc hs
theorem x_calli {post : Int32 → (Nat → va_E) → Prop} (hlocks : meth.locks = false) (hout : ∀ x ∈ c.exceptionTable.toList, False) (hr : vx_Run p l e R s m args below meth c H locs cells slots mc1 ms1 (F0 m pc ls st0) rest (va_Qi post (fun c t => MW D A N adr c t.heap) A av) (XOut D A N adr w xp) A) (hS : va_S A s.heap H locs) (hxx : ∀ E, xp E → xq E) (hc : cells + mc1 ≤ mc) (hs : slots + ms1 ≤ ms)
    (kk : ∀ (r : Int32) (w1 : Nat → va_E) (H1 : Heap) (locs1 : List Loc), post r w1 → MW D A N adr w1 H1 → va_S A s.heap H1 locs1 → W p l e R s m args below meth c H1 locs1 (cells + mc1) (slots + ms1) (vx_MQ below Qc (XOut D A N adr w xq) args s mc ms A) (F0 m (pc + 3) ls (.int r :: rest))) : W p l e R s m args below meth c H locs cells slots (vx_MQ below Qc (XOut D A N adr w xq) args s mc ms A) (F0 m pc ls st0) :=
  vx_calli hr hS (fun _ _ h => h) (fun _ h => h) (fun _ _ h => h) (fun E ce q9 u t H1 locs1 ht hvm _ hB hz hk hS1 hce hcv hcl => by
    have hB : xp E ∧ MW D A N adr w t.heap := hB
    rw [ht] at hB
    exact x_out hlocks hout hS1 ⟨hxx E hB.1, hB.2⟩ hce hcv hcl hc hs) (fun r u t H1 locs1 ht hvm hp hB hz hk hS1 => by
    have hB : MW D A N adr u t.heap := hB
    rw [ht] at hB
    exact kk r u H1 locs1 hp hB hS1)
theorem x_callv {post : (Nat → va_E) → Prop} (hlocks : meth.locks = false) (hout : ∀ x ∈ c.exceptionTable.toList, False) (hr : vx_Run p l e R s m args below meth c H locs cells slots mc1 ms1 (F0 m pc ls st0) rest (va_Qv post (fun c t => MW D A N adr c t.heap) A av) (XOut D A N adr w xp) A) (hS : va_S A s.heap H locs) (hxx : ∀ E, xp E → xq E) (hc : cells + mc1 ≤ mc) (hs : slots + ms1 ≤ ms)
    (kk : ∀ (w1 : Nat → va_E) (H1 : Heap) (locs1 : List Loc), post w1 → MW D A N adr w1 H1 → va_S A s.heap H1 locs1 → W p l e R s m args below meth c H1 locs1 (cells + mc1) (slots + ms1) (vx_MQ below Qc (XOut D A N adr w xq) args s mc ms A) (F0 m (pc + 3) ls rest)) : W p l e R s m args below meth c H locs cells slots (vx_MQ below Qc (XOut D A N adr w xq) args s mc ms A) (F0 m pc ls st0) :=
  vx_callv hr hS (fun _ _ h => h) (fun _ h => h) (fun _ _ h => h) (fun E ce q9 u t H1 locs1 ht hvm _ hB hz hk hS1 hce hcv hcl => by
    have hB : xp E ∧ MW D A N adr w t.heap := hB
    rw [ht] at hB
    exact x_out hlocks hout hS1 ⟨hxx E hB.1, hB.2⟩ hce hcv hcl hc hs) (fun u t H1 locs1 ht hvm hp hB hz hk hS1 => by
    have hB : MW D A N adr u t.heap := hB
    rw [ht] at hB
    exact kk u H1 locs1 hp hB hS1)
theorem x_callq {post : Option Nat → (Nat → va_E) → Prop} (hlocks : meth.locks = false) (hout : ∀ x ∈ c.exceptionTable.toList, False) (hr : vx_Run p l e R s m args below meth c H locs cells slots mc1 ms1 (F0 m pc ls st0) rest (va_Qq post (fun c t => MW D A N adr c t.heap) A av) (XOut D A N adr w xp) A) (hS : va_S A s.heap H locs) (hxx : ∀ E, xp E → xq E) (hc : cells + mc1 ≤ mc) (hs : slots + ms1 ≤ ms)
    (kk : ∀ (r : Option Nat) (w1 : Nat → va_E) (H1 : Heap) (locs1 : List Loc), post r w1 → MW D A N adr w1 H1 → va_S A s.heap H1 locs1 → W p l e R s m args below meth c H1 locs1 (cells + mc1) (slots + ms1) (vx_MQ below Qc (XOut D A N adr w xq) args s mc ms A) (F0 m (pc + 3) ls (va_rf r :: rest))) : W p l e R s m args below meth c H locs cells slots (vx_MQ below Qc (XOut D A N adr w xq) args s mc ms A) (F0 m pc ls st0) :=
  vx_callq hr hS (fun _ _ h => h) (fun _ h => h) (fun _ _ h => h) (fun E ce q9 u t H1 locs1 ht hvm _ hB hz hk hS1 hce hcv hcl => by
    have hB : xp E ∧ MW D A N adr w t.heap := hB
    rw [ht] at hB
    exact x_out hlocks hout hS1 ⟨hxx E hB.1, hB.2⟩ hce hcv hcl hc hs) (fun r u t H1 locs1 ht hvm hp hB hz hk hS1 => by
    have hB : MW D A N adr u t.heap := hB
    rw [ht] at hB
    exact kk r u H1 locs1 hp hB hS1)
theorem x_throw {cls : String} {ik ic : Nat} (hx : p.tables.exec = Jvm.exec) (hb : c.code = cc) (hl : l.stackTraces = false) (hlocks : meth.locks = false) (hout : ∀ x ∈ c.exceptionTable.toList, False) (hown : s.vm.findClass RX7 = some m.cls) (hcls : Bundle.fit cls = true) (hk : (Cond.classLink RX7 ik cls).before args s = true) (hini : (Cond.initialized cls).before args s = true)
    (hg : ∀ w ∈ (vx_at0 RX7 ic cls xNames).filter goodWord, w.before args s = true) (hng : ∀ w ∈ (vx_at0 RX7 ic cls xNames).filter (fun w => !goodWord w), w ∈ ngL) (hot : ∀ w ∈ Cond.classLink RX7 ik cls :: Cond.initialized cls :: vx_at0 RX7 ic cls xNames, vx_ot w = true)
    (hX : XQ A s s.heap) (hM : MW D A N adr w H) (hS : va_S A s.heap H locs) (hsize : ls.size = c.maxLocals) (d0 : decode cc pc = .ok (.new ik, 3)) (d3 : decode cc (pc + 3) = .ok (.dup, 1)) (d4 : decode cc (pc + 4) = .ok (.invokespecial ic, 3)) (d7 : decode cc (pc + 7) = .ok (.athrow, 1))
    (hRf : 5 < R.frames) (hRl : (rest.map fun v => v.category).sum + 81 ≤ R.locals) (hRc : cells + 1 ≤ R.cells) (hRs : slots + 6 ≤ R.slots) (hc : cells + 1 ≤ mc) (hs : slots + 6 ≤ ms) (hxq : xq cls) :
    W p l e R s m args below meth c H locs cells slots (vx_MQ below Qc (XOut D A N adr w xq) args s mc ms A) (F0 m pc ls rest) :=
  vx_throw0 hx hb hl (names := xNames) (ik := ik) (ic := ic) (A := A) hown hcls (by decide) hk hini (vx_hat hg hng hX.2.2.use) hot hX.1 hX.2.1 hS hsize d0 d3 d4 d7 (fun x hx => (hout x hx).elim) hRf hRl hRc hRs hlocks
    (fun t hvm hz hk => ⟨(), trivial, ⟨hxq, hM.kept (fun k hk9 => hk _ (hM.lt hk9))⟩, ⟨Nat.le_trans hS.1 hz, fun q h1 h2 => (hk q (Nat.lt_of_lt_of_le h1 hS.1)).trans (hS.2.1 q h1 h2)⟩⟩) hS.2.2 hc hs
-- ends of methods that may throw
theorem ex_i {post : Int32 → (Nat → va_E) → Prop} {XC : String → State → State → Prop} {v : Int32} {w1 : Nat → va_E} (hx : p.tables.exec = Jvm.exec) (hb : c.code = cc) (hlocks : meth.locks = false) (hr : meth.sig.returnType = some .int) (hdg : decode cc pc = .ok (.ireturn, 1)) (hc : cells ≤ mc) (hs : slots ≤ ms) (hM : MW D A N adr w1 H) (hS : va_S A s.heap H locs) (hp : post v w1) : W p l e R s m args below meth c H locs cells slots (vx_MQ below (va_Qi post (fun c t => MW D A N adr c t.heap) A) XC args s mc ms A) (F0 m pc ls [.int v]) :=
  W.widen hc hs (vx_ret (e_wi hx hb hlocks hr hdg hM hS hp))
theorem ex_z {post : Int32 → (Nat → va_E) → Prop} {XC : String → State → State → Prop} {v : Int32} {w1 : Nat → va_E} (hx : p.tables.exec = Jvm.exec) (hb : c.code = cc) (hlocks : meth.locks = false) (hr : meth.sig.returnType = some .boolean) (hdg : decode cc pc = .ok (.ireturn, 1)) (hn : narrow .boolean (.int v) = .int v) (hc : cells ≤ mc) (hs : slots ≤ ms) (hM : MW D A N adr w1 H) (hS : va_S A s.heap H locs) (hp : post v w1) : W p l e R s m args below meth c H locs cells slots (vx_MQ below (va_Qi post (fun c t => MW D A N adr c t.heap) A) XC args s mc ms A) (F0 m pc ls [.int v]) :=
  W.widen hc hs (vx_ret (e_wz hx hb hlocks hr hdg hn hM hS hp))
theorem ex_v {post : (Nat → va_E) → Prop} {XC : String → State → State → Prop} {w1 : Nat → va_E} (hx : p.tables.exec = Jvm.exec) (hb : c.code = cc) (hlocks : meth.locks = false) (hr : meth.sig.returnType = none) (hdg : decode cc pc = .ok (.return_, 1)) (hc : cells ≤ mc) (hs : slots ≤ ms) (hM : MW D A N adr w1 H) (hS : va_S A s.heap H locs) (hp : post w1) : W p l e R s m args below meth c H locs cells slots (vx_MQ below (va_Qv post (fun c t => MW D A N adr c t.heap) A) XC args s mc ms A) (F0 m pc ls []) :=
  W.widen hc hs (vx_ret (e_wv hx hb hlocks hr hdg hM hS hp))
theorem ex_q {post : Option Nat → (Nat → va_E) → Prop} {XC : String → State → State → Prop} {r : Option Nat} {w1 : Nat → va_E} {rt : FieldType} (hx : p.tables.exec = Jvm.exec) (hb : c.code = cc) (hlocks : meth.locks = false) (hr : meth.sig.returnType = some rt) (hrt : (∃ n, rt = .object n) ∨ ∃ t, rt = .array t) (hdg : decode cc pc = .ok (.areturn, 1)) (hc : cells ≤ mc) (hs : slots ≤ ms) (hM : MW D A N adr w1 H) (hS : va_S A s.heap H locs) (hp : post r w1) : W p l e R s m args below meth c H locs cells slots (vx_MQ below (va_Qq post (fun c t => MW D A N adr c t.heap) A) XC args s mc ms A) (F0 m pc ls [va_rf r]) :=
  W.widen hc hs (vx_ret (W.aret hx hb hr hrt (va_rf_or r) (fun t ht hW => ⟨⟨r, w1, rfl, hp, by show MW D A N adr w1 t.heap; rw [ht]; exact hM⟩, hS.F ht⟩) hS.2.2 hdg hlocks))
end XW
