-- worlds by names: the cells 0 .. N-1, each with its address and what it holds
def wn (N : Nat) (adr : Nat → Nat) (c : Nat → va_E) : va_W := (List.range N).map (fun k => (adr k, c k))
theorem wn_get {N : Nat} {adr : Nat → Nat} {c : Nat → va_E} {k : Nat} {e : va_E} (hk : k < N) (he : c k = e) : (wn N adr c)[k]? = some (adr k, e) := by
  subst he
  simp [wn, hk]
theorem wn_len {N : Nat} {adr : Nat → Nat} {c : Nat → va_E} : (wn N adr c).length = N := by simp [wn]
theorem wn_set {N : Nat} {adr : Nat → Nat} {c : Nat → va_E} {k : Nat} {e : va_E} : (wn N adr c).set k (adr k, e) = wn N adr (va_up c k e) := by
  apply List.ext_getElem?
  intro j
  by_cases hj : j = k
  · subst hj
    by_cases h : j < N
    · rw [List.getElem?_set_self (by rw [wn_len]; exact h)]
      exact (wn_get h (va_up_self c j e)).symm
    · rw [List.getElem?_eq_none (by rw [List.length_set, wn_len]; omega), List.getElem?_eq_none (by rw [wn_len]; omega)]
  · rw [List.getElem?_set_ne (Ne.symm hj)]
    by_cases h : j < N
    · rw [wn_get h rfl, wn_get h (va_up_ne c e hj)]
    · rw [List.getElem?_eq_none (by rw [wn_len]; omega), List.getElem?_eq_none (by rw [wn_len]; omega)]
theorem wn_push {N : Nat} {adr : Nat → Nat} {c : Nat → va_E} {q : Nat} {e : va_E} : wn N adr c ++ [(q, e)] = wn (N + 1) (va_up adr N q) (va_up c N e) := by
  apply List.ext_getElem?
  intro j
  by_cases h : j < N
  · rw [List.getElem?_append_left (by rw [wn_len]; exact h), wn_get h rfl, wn_get (show j < N + 1 by omega) (va_up_ne c e (show j ≠ N by omega)), va_up_ne adr q (show j ≠ N by omega)]
  · by_cases h2 : j = N
    · subst h2
      rw [List.getElem?_append_right (by rw [wn_len]; exact Nat.le_refl _), wn_len, Nat.sub_self, wn_get (show j < j + 1 by omega) (va_up_self c j e), va_up_self]
      rfl
    · rw [List.getElem?_eq_none (by rw [List.length_append, wn_len]; show N + 1 ≤ j; omega), List.getElem?_eq_none (by rw [wn_len]; omega)]
def MW (D : va_G) (A : Nat → Prop) (N : Nat) (adr : Nat → Nat) (c : Nat → va_E) (H : Heap) : Prop := va_P D vwCl (wn N adr c) H ∧ va_D A (wn N adr c)
abbrev Cel (D : va_G) (H : Heap) (a : Nat) (e : va_E) : Prop := va_at D vwCl (a, e) H
theorem MW.cel {D : va_G} {A : Nat → Prop} {N : Nat} {adr : Nat → Nat} {c : Nat → va_E} {H : Heap} (h : MW D A N adr c H) {k : Nat} {e : va_E} (hk : k < N) (he : c k = e) : Cel D H (adr k) e := h.1 k _ (wn_get hk he)
theorem MW.inj {D : va_G} {A : Nat → Prop} {N : Nat} {adr : Nat → Nat} {c : Nat → va_E} {H : Heap} (h : MW D A N adr c H) {i j : Nat} (hi : i < N) (hj : j < N) (he : adr i = adr j) : i = j := h.2.1 i j _ _ (wn_get hi rfl) (wn_get hj rfl) he
theorem MW.own {D : va_G} {A : Nat → Prop} {N : Nat} {adr : Nat → Nat} {c : Nat → va_E} {H : Heap} (h : MW D A N adr c H) {k : Nat} (hk : k < N) : A (adr k) := h.2.2 k _ (wn_get hk rfl)
theorem MW.lt {D : va_G} {A : Nat → Prop} {N : Nat} {adr : Nat → Nat} {c : Nat → va_E} {H : Heap} (h : MW D A N adr c H) {k : Nat} (hk : k < N) : adr k < H.size := (h.1 k _ (wn_get hk rfl)).lt
theorem MW.kept {D : va_G} {A : Nat → Prop} {N : Nat} {adr : Nat → Nat} {c : Nat → va_E} {H H1 : Heap} (h : MW D A N adr c H) (hq : ∀ k, k < N → H1[adr k]? = H[adr k]?) : MW D A N adr c H1 :=
  ⟨h.1.kept (fun k q hk => by
    have hl : k < N := by have := (List.getElem?_eq_some_iff.mp hk).1; rwa [wn_len] at this
    rw [wn_get hl rfl] at hk
    cases hk
    exact hq k hl), h.2⟩
theorem MW.weaken {D : va_G} {A B : Nat → Prop} {N : Nat} {adr : Nat → Nat} {c : Nat → va_E} {H : Heap} (h : MW D A N adr c H) (hB : ∀ k, k < N → B (adr k)) : MW D B N adr c H :=
  ⟨h.1, h.2.1, fun k q hk => by
    have hl : k < N := by have := (List.getElem?_eq_some_iff.mp hk).1; rwa [wn_len] at this
    rw [wn_get hl rfl] at hk
    cases hk
    exact hB k hl⟩
theorem MW.congr {D : va_G} {A : Nat → Prop} {N : Nat} {adr adr' : Nat → Nat} {c c' : Nat → va_E} {H : Heap} (h : MW D A N adr c H) (ha : ∀ k, k < N → adr' k = adr k) (hc : ∀ k, k < N → c' k = c k) : MW D A N adr' c' H := by
  have e : wn N adr' c' = wn N adr c := List.map_congr_left (fun k hk => by rw [ha k (List.mem_range.mp hk), hc k (List.mem_range.mp hk)])
  unfold MW
  rw [e]
  exact h
theorem Cel.one {D : va_G} {H : Heap} {a : Nat} {e : va_E} (h : Cel D H a e) : va_P D vwCl [(a, e)] H := by
  intro k q hk
  have hz : k < 1 := (List.getElem?_eq_some_iff.mp hk).1
  rw [show k = 0 by omega] at hk
  cases hk
  exact h
theorem Cel.kept {D : va_G} {H H1 : Heap} {a : Nat} {e : va_E} (h : Cel D H a e) (hq : H1[a]? = H[a]?) : Cel D H1 a e := va_at.kept h hq
-- what the tables say: the classes, the array classes, the links to nest mates
abbrev tyL (ac : Nat → ClassId) : List (ClassId × FieldType) := [(ac 0, .int), (ac 1, .long), (ac 2, .boolean), (ac 3, .object RX3), (ac 4, .object RX6)]
def nestL : List Cond := [.methodLinkNest RX7 9 yX4_init RX7, .fieldLinkNest RX6 25 "TermGate$Row" "length" "I" RX7, .fieldLinkNest RX0 19 "TermGate$Row" "length" "I" RX7, .fieldLinkNest RX7 72 "TermGate$Row" "length" "I" RX7, .fieldLinkNest RX2 43 "TermGate$Row" "length" "I" RX7, .methodLinkNest RX7 25 yX2_init RX7, .methodLinkNest RX2 23 yX1_init RX7, .fieldLinkNest RX2 52 "TermGate$Line" "count" "I" RX7, .fieldLinkNest RX7 145 "TermGate$Line" "count" "I" RX7, .methodLinkNest RX2 30 yX0_init RX7, .fieldLinkNest RX7 251 "TermGate$Memory" "dueList" "LTermGate$Line;" RX7, .fieldLinkNest RX7 89 "TermGate$Memory" "edits" "LTermGate$Edits;" RX7, .fieldLinkNest RX7 211 "TermGate$Memory" "count" "I" RX7, .methodLinkNest RX7 41 yX1_init RX7, .methodLinkNest RX6 11 yX4_init RX7, .fieldLinkNest RX2 77 "TermGate$Sentence" "client" "I" RX7, .fieldLinkNest RX7 212 "TermGate$Sentence" "client" "I" RX7, .fieldLinkNest RX2 39 "TermGate$Sentence" "words" "LTermGate$Row;" RX7, .fieldLinkNest RX7 93 "TermGate$Sentence" "words" "LTermGate$Row;" RX7, .fieldLinkNest RX2 84 "TermGate$Sentence" "became" "LTermGate$Row;" RX7, .fieldLinkNest RX7 196 "TermGate$Sentence" "became" "LTermGate$Row;" RX7, .fieldLinkNest RX7 169 "TermGate$Order" "number" "I" RX7, .fieldLinkNest RX7 185 "TermGate$Order" "isRush" "Z" RX7, .fieldLinkNest RX7 178 "TermGate$Order" "sentence" "LTermGate$Sentence;" RX7, .fieldLinkNest RX7 162 "TermGate$Order" "standing" "I" RX7, .fieldLinkNest RX7 175 "TermGate$Order" "match" "I" RX7, .fieldLinkNest RX7 215 "TermGate$Order" "cost" "I" RX7, .fieldLinkNest RX7 222 "TermGate$Order" "pay" "I" RX7]
theorem nestL_in : ∀ w ∈ nestL, w ∈ tables_1 := by decide +kernel
def isNest (w : Cond) : Bool := match w with
  | .fieldLinkNest .. => true
  | .methodLinkNest .. => true
  | _ => false
theorem nestL_is : ∀ w ∈ nestL, isNest w = true := by decide +kernel
def NW (U : State) : Prop := ∀ w ∈ nestL, va_Nw w U
theorem NW.warm {s U : State} (hW : s.WarmedH U.vm) (h : NW s) : NW U := by
  intro w hw
  have h1 := h w hw
  have h2 := nestL_is w hw
  cases w with
  | fieldLinkNest a i b n d z => exact va_Nw.warmF hW h1
  | methodLinkNest a i x z => exact va_Nw.warmM hW h1
  | _ => simp [isNest] at h2
theorem NW.same {u U : State} (hv : u.vm = U.vm) (h : NW u) : NW U := by
  intro w hw
  have h1 := h w hw
  have h2 := nestL_is w hw
  cases w with
  | fieldLinkNest a i b n d z => exact va_Nw.same rfl hv h1
  | methodLinkNest a i x z => exact va_Nw.same rfl hv h1
  | _ => simp [isNest] at h2
def KN (D : va_G) (ac : Nat → ClassId) (U : State) : Prop := va_K D vwCl (tyL ac) U ∧ NW U
theorem KN.warm {D : va_G} {ac : Nat → ClassId} {s U : State} (hW : s.WarmedH U.vm) (h : KN D ac s) : KN D ac U := ⟨va_K.moved hW.alike h.1, h.2.warm hW⟩
theorem KN.call {D : va_G} {ac : Nat → ClassId} {U : State} {g : JFrame} {mk : MethodId} {a : Array Value} (h : KN D ac U) : KN D ac (U.calling g mk a) := ⟨va_K.moved (u := U) (U := U.calling g mk a) (Vm.Alike.refl U.vm) h.1, NW.same (u := U) rfl h.2⟩
theorem KN.nest {D : va_G} {ac : Nat → ClassId} {s : State} (h : KN D ac s) (i : Nat) {w : Cond} (hw : nestL[i]? = some w) : va_Nw w s := h.2 w (List.mem_of_getElem? hw)
-- contracts that only read: the heap is as before
abbrev RPre (D : va_G) (ac : Nat → ClassId) (H : Heap) (av : List Value) : Array Value → State → Prop := va_Pc av (fun U => U.heap = H ∧ KN D ac U)
abbrev ROi (l : Launch) (y : MethodName) (ws : List Cond) (rm : Room) (av : List Value) (D : va_G) (ac : Nat → ClassId) (H : Heap) (post : Int32 → Prop) : Prop := Met l y ws rm (RPre D ac H av) (va_Qi (fun r (_ : Unit) => post r) (fun _ t => t.heap = H) (fun _ => False)) 0 0 (fun _ => False)
abbrev ROl (l : Launch) (y : MethodName) (ws : List Cond) (rm : Room) (av : List Value) (D : va_G) (ac : Nat → ClassId) (H : Heap) (post : Int64 → Prop) : Prop := Met l y ws rm (RPre D ac H av) (va_Ql (fun r (_ : Unit) => post r) (fun _ t => t.heap = H) (fun _ => False)) 0 0 (fun _ => False)
abbrev ROq (l : Launch) (y : MethodName) (ws : List Cond) (rm : Room) (av : List Value) (D : va_G) (ac : Nat → ClassId) (H : Heap) (post : Option Nat → Prop) : Prop := Met l y ws rm (RPre D ac H av) (va_Qq (fun r (_ : Unit) => post r) (fun _ t => t.heap = H) (fun _ => False)) 0 0 (fun _ => False)
-- contracts that write: the world by names afterwards
abbrev WRi (l : Launch) (y : MethodName) (ws : List Cond) (rm : Room) (av : List Value) (D : va_G) (ac : Nat → ClassId) (H : Heap) (A : Nat → Prop) (N : Nat) (adr : Nat → Nat) (post : Int32 → (Nat → va_E) → Prop) : Prop := Met l y ws rm (RPre D ac H av) (va_Qi post (fun c t => MW D A N adr c t.heap) A) 0 0 A
abbrev WRv (l : Launch) (y : MethodName) (ws : List Cond) (rm : Room) (av : List Value) (D : va_G) (ac : Nat → ClassId) (H : Heap) (A : Nat → Prop) (N : Nat) (adr : Nat → Nat) (post : (Nat → va_E) → Prop) : Prop := Met l y ws rm (RPre D ac H av) (va_Qv post (fun c t => MW D A N adr c t.heap) A) 0 0 A
theorem RPre.blind {D : va_G} {ac : Nat → ClassId} {H : Heap} {av : List Value} : FrameBlind (RPre D ac H av) := fun a U g mk q => by
  obtain ⟨q0, q1, q2⟩ := q
  exact ⟨q0, q1, q2.call⟩
section RS
variable {s : State} {H : Heap} {D : va_G} {ac : Nat → ClassId}
theorem pS {As : List Value} (hK : KN D ac s) : PreS s H (RPre D ac H As) As := ⟨RPre.blind, fun U hU hW => ⟨rfl, hU, hK.warm hW⟩⟩
theorem pV {As : List Value} {b ci : Nat} {C : String} {T : u_T} {N : Nat} {fs : List Value} (hK : KN D ac s) (hc : vwCl[ci]? = some (C, T, N)) (hb : Cel D H b (.inr (ci, fs))) : PreV s H C b (RPre D ac H (.ref b :: As)) As :=
  ⟨RPre.blind, va_recv hK.1 hb.one (q0 := 0) hc rfl, fun U hU hW => ⟨rfl, hU, hK.warm hW⟩⟩
end RS
section RW
variable {p : Program} {l : Launch} {e : Env} {R : Room} {s : State} {m : MethodId} {args : Array Value} {below : List Frame} {meth : Method} {c : Code} {H : Heap} {locs : List Loc} {cells slots : Nat} {Q : State → Prop}
variable {cc : ByteArray} {pc : Nat} {ls : Array Slot} {rest st0 : List Value} {D : va_G} {ac : Nat → ClassId} {a : Nat} {A : Nat → Prop} {H0 : Heap} {N : Nat} {adr : Nat → Nat} {w : Nat → va_E}
theorem m_get (hx : p.tables.exec = Jvm.exec) (hb : c.code = cc) {own C : String} {T : u_T} {n ci index : Nat} {Ts : List Cond} (hts : ∀ w ∈ Ts, w.before args s = true) (hin : ∀ w ∈ u_ws C T n, w ∈ Ts) (hown : s.vm.findClass own = some m.cls) (hK : KN D ac s) (hc : vwCl[ci]? = some (C, T, n)) {fs : List Value} (he : Cel D H a (.inr (ci, fs))) (k : Nat) (hk : k < n) (hlink : (Cond.fieldLink own index (T k).1 (T k).2.1 (T k).2.2.1).before args s = true) {v : Value} (hv : fs[k]? = some v) (hdg : decode cc pc = .ok (.getfield index, 3))
    (kk : W p l e R s m args below meth c H locs cells slots Q (F0 m (pc + 3) ls (v :: rest))) : W p l e R s m args below meth c H locs cells slots Q (F0 m pc ls (.ref a :: rest)) :=
  va_get hx hb hts hin hown hK.1 he.one 0 rfl hc k hk hlink (fun _ h9 => h9) hv hdg kk
theorem m_getN (hx : p.tables.exec = Jvm.exec) (hb : c.code = cc) {own C host : String} {T : u_T} {n ci index : Nat} {Ts : List Cond} (hts : ∀ w ∈ Ts, w.before args s = true) (hin : ∀ w ∈ u_ws C T n, w ∈ Ts) (hown : s.vm.findClass own = some m.cls) (hK : KN D ac s) (hc : vwCl[ci]? = some (C, T, n)) {fs : List Value} (he : Cel D H a (.inr (ci, fs))) (k : Nat) (hk : k < n) (i9 : Nat) (hlink : nestL[i9]? = some (Cond.fieldLinkNest own index (T k).1 (T k).2.1 (T k).2.2.1 host)) {v : Value} (hv : fs[k]? = some v) (hdg : decode cc pc = .ok (.getfield index, 3))
    (kk : W p l e R s m args below meth c H locs cells slots Q (F0 m (pc + 3) ls (v :: rest))) : W p l e R s m args below meth c H locs cells slots Q (F0 m pc ls (.ref a :: rest)) :=
  va_getN hx hb hts hin hown hK.1 he.one 0 rfl hc k hk (va_Nw.use rfl (hK.nest i9 hlink)) (fun _ h9 => h9) hv hdg kk
theorem m_put (hx : p.tables.exec = Jvm.exec) (hb : c.code = cc) {own C : String} {T : u_T} {n ci index : Nat} {Ts : List Cond} (hts : ∀ w ∈ Ts, w.before args s = true) (hin : ∀ w ∈ u_ws C T n, w ∈ Ts) (ty0 : Nat → FieldType) (hty : ∀ k, k < n → parseFieldDescriptor (T k).2.2.1 = some (ty0 k)) (hnm : ∀ a, a < n → ∀ b, b < n → a ≠ b → (T a).2.1 ≠ (T b).2.1) (hown : s.vm.findClass own = some m.cls) (hK : KN D ac s) (hM : MW D A N adr w H) (hS : va_S A H0 H locs) (hc : vwCl[ci]? = some (C, T, n)) (q0 : Nat) (hq : q0 < N) {fs : List Value} (he : w q0 = .inr (ci, fs)) (k : Nat) (hk : k < n) (hlink : (Cond.fieldLink own index (T k).1 (T k).2.1 (T k).2.2.1).before args s = true) (hfin : (T k).2.2.2 = false) {ty : FieldType} {v : Value} (hd : parseFieldDescriptor (T k).2.2.1 = some ty) (hn : narrow ty v = v) (hfit : fits ty v = true) (hl : k < fs.length) (hdg : decode cc pc = .ok (.putfield index, 3))
    (kk : ∀ (H1 : Heap) (locs1 : List Loc), MW D A N adr (va_up w q0 (.inr (ci, fs.set k v))) H1 → va_S A H0 H1 locs1 → W p l e R s m args below meth c H1 locs1 cells slots Q (F0 m (pc + 3) ls rest)) : W p l e R s m args below meth c H locs cells slots Q (F0 m pc ls (v :: .ref (adr q0) :: rest)) :=
  va_put hx hb hts hin ty0 hty hnm hown hK.1 hM.1 hM.2 hS q0 (wn_get hq he) hc k hk hlink (fun _ h9 => h9) hfin hd hn hfit hl hdg (fun H1 l1 h1 h2 h3 => kk H1 l1 ⟨by rw [wn_set] at h1; exact h1, by rw [wn_set] at h2; exact h2⟩ h3)
theorem m_putN (hx : p.tables.exec = Jvm.exec) (hb : c.code = cc) {own C host : String} {T : u_T} {n ci index : Nat} {Ts : List Cond} (hts : ∀ w ∈ Ts, w.before args s = true) (hin : ∀ w ∈ u_ws C T n, w ∈ Ts) (ty0 : Nat → FieldType) (hty : ∀ k, k < n → parseFieldDescriptor (T k).2.2.1 = some (ty0 k)) (hnm : ∀ a, a < n → ∀ b, b < n → a ≠ b → (T a).2.1 ≠ (T b).2.1) (hown : s.vm.findClass own = some m.cls) (hK : KN D ac s) (hM : MW D A N adr w H) (hS : va_S A H0 H locs) (hc : vwCl[ci]? = some (C, T, n)) (q0 : Nat) (hq : q0 < N) {fs : List Value} (he : w q0 = .inr (ci, fs)) (k : Nat) (hk : k < n) (i9 : Nat) (hlink : nestL[i9]? = some (Cond.fieldLinkNest own index (T k).1 (T k).2.1 (T k).2.2.1 host)) (hfin : (T k).2.2.2 = false) {ty : FieldType} {v : Value} (hd : parseFieldDescriptor (T k).2.2.1 = some ty) (hn : narrow ty v = v) (hfit : fits ty v = true) (hl : k < fs.length) (hdg : decode cc pc = .ok (.putfield index, 3))
    (kk : ∀ (H1 : Heap) (locs1 : List Loc), MW D A N adr (va_up w q0 (.inr (ci, fs.set k v))) H1 → va_S A H0 H1 locs1 → W p l e R s m args below meth c H1 locs1 cells slots Q (F0 m (pc + 3) ls rest)) : W p l e R s m args below meth c H locs cells slots Q (F0 m pc ls (v :: .ref (adr q0) :: rest)) :=
  va_putN hx hb hts hin ty0 hty hnm hown hK.1 hM.1 hM.2 hS q0 (wn_get hq he) hc k hk (va_Nw.use rfl (hK.nest i9 hlink)) (fun _ h9 => h9) hfin hd hn hfit hl hdg (fun H1 l1 h1 h2 h3 => kk H1 l1 ⟨by rw [wn_set] at h1; exact h1, by rw [wn_set] at h2; exact h2⟩ h3)
theorem m_putF (hx : p.tables.exec = Jvm.exec) (hb : c.code = cc) {own C : String} {T : u_T} {n ci index : Nat} {Ts : List Cond} (hts : ∀ w ∈ Ts, w.before args s = true) (hin : ∀ w ∈ u_ws C T n, w ∈ Ts) (ty0 : Nat → FieldType) (hty : ∀ k, k < n → parseFieldDescriptor (T k).2.2.1 = some (ty0 k)) (hnm : ∀ a, a < n → ∀ b, b < n → a ≠ b → (T a).2.1 ≠ (T b).2.1) (hown : s.vm.findClass own = some m.cls) (hK : KN D ac s) (hM : MW D A N adr w H) (hS : va_S A H0 H locs) (hc : vwCl[ci]? = some (C, T, n)) (q0 : Nat) (hq : q0 < N) {fs : List Value} (he : w q0 = .inr (ci, fs)) (k : Nat) (hk : k < n) (hlink : (Cond.fieldLink own index (T k).1 (T k).2.1 (T k).2.2.1).before args s = true) (hfin : (T k).2.2.2 = true) (hin2 : meth.name = "<init>") (hdecl : (T k).1 = own) {ty : FieldType} {v : Value} (hd : parseFieldDescriptor (T k).2.2.1 = some ty) (hn : narrow ty v = v) (hfit : fits ty v = true) (hl : k < fs.length) (hdg : decode cc pc = .ok (.putfield index, 3))
    (kk : ∀ (H1 : Heap) (locs1 : List Loc), MW D A N adr (va_up w q0 (.inr (ci, fs.set k v))) H1 → va_S A H0 H1 locs1 → W p l e R s m args below meth c H1 locs1 cells slots Q (F0 m (pc + 3) ls rest)) : W p l e R s m args below meth c H locs cells slots Q (F0 m pc ls (v :: .ref (adr q0) :: rest)) :=
  va_putF hx hb hts hin ty0 hty hnm hown hK.1 hM.1 hM.2 hS q0 (wn_get hq he) hc k hk hlink (fun _ h9 => h9) hfin hin2 hdecl hd hn hfit hl hdg (fun H1 l1 h1 h2 h3 => kk H1 l1 ⟨by rw [wn_set] at h1; exact h1, by rw [wn_set] at h2; exact h2⟩ h3)
theorem m_iald (hx : p.tables.exec = Jvm.exec) (hb : c.code = cc) (hK : KN D ac s) {n : Nat} {f : Nat → Int32} (he : Cel D H a (.inl (ac 0, n, .inl f))) {i : Int32} (hin : vp_in i n) (hdg : decode cc pc = .ok (.iaload, 1))
    (kk : W p l e R s m args below meth c H locs cells slots Q (F0 m (pc + 1) ls (.int (f i.toNatClampNeg) :: rest))) : W p l e R s m args below meth c H locs cells slots Q (F0 m pc ls (.int i :: .ref a :: rest)) :=
  va_iald hx hb hK.1 he.one 0 0 rfl rfl hin hdg kk
theorem m_zald (hx : p.tables.exec = Jvm.exec) (hb : c.code = cc) (hK : KN D ac s) {n : Nat} {f : Nat → Int32} (he : Cel D H a (.inl (ac 2, n, .inl f))) {i : Int32} (hin : vp_in i n) (hdg : decode cc pc = .ok (.baload, 1))
    (kk : W p l e R s m args below meth c H locs cells slots Q (F0 m (pc + 1) ls (.int (f i.toNatClampNeg) :: rest))) : W p l e R s m args below meth c H locs cells slots Q (F0 m pc ls (.int i :: .ref a :: rest)) :=
  va_zald hx hb hK.1 he.one 0 2 rfl rfl hin hdg kk
theorem m_lald (hx : p.tables.exec = Jvm.exec) (hb : c.code = cc) (hK : KN D ac s) {n : Nat} {f : Nat → Int64} (he : Cel D H a (.inl (ac 1, n, .inr (.inl f)))) {i : Int32} (hin : vp_in i n) (hdg : decode cc pc = .ok (.laload, 1))
    (kk : W p l e R s m args below meth c H locs cells slots Q (F0 m (pc + 1) ls (.long (f i.toNatClampNeg) :: rest))) : W p l e R s m args below meth c H locs cells slots Q (F0 m pc ls (.int i :: .ref a :: rest)) :=
  va_lald hx hb hK.1 he.one 0 1 rfl rfl hin hdg kk
theorem m_alen (hx : p.tables.exec = Jvm.exec) (hb : c.code = cc) (hK : KN D ac s) (t0 : Nat) {x : vp_A} (he : Cel D H a (.inl (ac t0, x))) {ty : FieldType} (ht : (tyL ac)[t0]? = some (ac t0, ty)) {v : Int32} (hv : Int32.ofNat x.1 = v) (hdg : decode cc pc = .ok (.arraylength, 1))
    (kk : W p l e R s m args below meth c H locs cells slots Q (F0 m (pc + 1) ls (.int v :: rest))) : W p l e R s m args below meth c H locs cells slots Q (F0 m pc ls (.ref a :: rest)) :=
  va_alen hx hb hK.1 he.one 0 t0 rfl ht hv hdg kk
theorem m_aldq (hx : p.tables.exec = Jvm.exec) (hb : c.code = cc) (hK : KN D ac s) (t0 : Nat) {C : String} {n : Nat} {f : Nat → Option Nat} (he : Cel D H a (.inl (ac t0, n, .inr (.inr (.inr (.inr f)))))) (ht : (tyL ac)[t0]? = some (ac t0, .object C)) {i : Int32} (hin : vp_in i n) (hdg : decode cc pc = .ok (.aaload, 1))
    (kk : W p l e R s m args below meth c H locs cells slots Q (F0 m (pc + 1) ls (va_rf (f i.toNatClampNeg) :: rest))) : W p l e R s m args below meth c H locs cells slots Q (F0 m pc ls (.int i :: .ref a :: rest)) :=
  va_aldq hx hb hK.1 he.one 0 t0 rfl ht hin hdg kk
theorem m_iast (hx : p.tables.exec = Jvm.exec) (hb : c.code = cc) (hK : KN D ac s) (hM : MW D A N adr w H) (hS : va_S A H0 H locs) (q0 : Nat) (hq : q0 < N) {n : Nat} {f : Nat → Int32} (he : w q0 = .inl (ac 0, n, .inl f)) {i x : Int32} (hin : vp_in i n) (hdg : decode cc pc = .ok (.iastore, 1))
    (kk : ∀ (H1 : Heap) (locs1 : List Loc), MW D A N adr (va_up w q0 (.inl (ac 0, n, .inl (upd f i.toNatClampNeg x)))) H1 → va_S A H0 H1 locs1 → W p l e R s m args below meth c H1 locs1 cells slots Q (F0 m (pc + 1) ls rest)) : W p l e R s m args below meth c H locs cells slots Q (F0 m pc ls (.int x :: .int i :: .ref (adr q0) :: rest)) :=
  va_iast hx hb hK.1 hM.1 hM.2 hS q0 0 (wn_get hq he) rfl hin hdg (fun H1 l1 h1 h2 h3 => kk H1 l1 ⟨by rw [wn_set] at h1; exact h1, by rw [wn_set] at h2; exact h2⟩ h3)
theorem m_zast (hx : p.tables.exec = Jvm.exec) (hb : c.code = cc) (hK : KN D ac s) (hM : MW D A N adr w H) (hS : va_S A H0 H locs) (q0 : Nat) (hq : q0 < N) {n : Nat} {f : Nat → Int32} (he : w q0 = .inl (ac 2, n, .inl f)) {i x : Int32} (hin : vp_in i n) (hdg : decode cc pc = .ok (.bastore, 1))
    (kk : ∀ (H1 : Heap) (locs1 : List Loc), MW D A N adr (va_up w q0 (.inl (ac 2, n, .inl (upd f i.toNatClampNeg (vp_nar .boolean x))))) H1 → va_S A H0 H1 locs1 → W p l e R s m args below meth c H1 locs1 cells slots Q (F0 m (pc + 1) ls rest)) : W p l e R s m args below meth c H locs cells slots Q (F0 m pc ls (.int x :: .int i :: .ref (adr q0) :: rest)) :=
  va_zast hx hb hK.1 hM.1 hM.2 hS q0 2 (wn_get hq he) rfl hin hdg (fun H1 l1 h1 h2 h3 => kk H1 l1 ⟨by rw [wn_set] at h1; exact h1, by rw [wn_set] at h2; exact h2⟩ h3)
theorem m_last (hx : p.tables.exec = Jvm.exec) (hb : c.code = cc) (hK : KN D ac s) (hM : MW D A N adr w H) (hS : va_S A H0 H locs) (q0 : Nat) (hq : q0 < N) {n : Nat} {f : Nat → Int64} (he : w q0 = .inl (ac 1, n, .inr (.inl f))) {i : Int32} {x : Int64} (hin : vp_in i n) (hdg : decode cc pc = .ok (.lastore, 1))
    (kk : ∀ (H1 : Heap) (locs1 : List Loc), MW D A N adr (va_up w q0 (.inl (ac 1, n, .inr (.inl (vp_updL f i.toNatClampNeg x))))) H1 → va_S A H0 H1 locs1 → W p l e R s m args below meth c H1 locs1 cells slots Q (F0 m (pc + 1) ls rest)) : W p l e R s m args below meth c H locs cells slots Q (F0 m pc ls (.long x :: .int i :: .ref (adr q0) :: rest)) :=
  va_last hx hb hK.1 hM.1 hM.2 hS q0 1 (wn_get hq he) rfl hin hdg (fun H1 l1 h1 h2 h3 => kk H1 l1 ⟨by rw [wn_set] at h1; exact h1, by rw [wn_set] at h2; exact h2⟩ h3)
theorem m_astq (hx : p.tables.exec = Jvm.exec) (hb : c.code = cc) (hK : KN D ac s) (hM : MW D A N adr w H) (hS : va_S A H0 H locs) (t0 q0 : Nat) (hq : q0 < N) {n : Nat} {f : Nat → Option Nat} (he : w q0 = .inl (ac t0, n, .inr (.inr (.inr (.inr f))))) (qk ci : Nat) (hk : qk < N) {vs : List Value} (hv : w qk = .inr (ci, vs)) {r : vw_C} (hc : vwCl[ci]? = some r) (ht : (tyL ac)[t0]? = some (ac t0, .object r.1)) {i : Int32} (hin : vp_in i n) (hdg : decode cc pc = .ok (.aastore, 1))
    (kk : ∀ (H1 : Heap) (locs1 : List Loc), MW D A N adr (va_up w q0 (.inl (ac t0, n, .inr (.inr (.inr (.inr (va_up f i.toNatClampNeg (some (adr qk))))))))) H1 → va_S A H0 H1 locs1 → W p l e R s m args below meth c H1 locs1 cells slots Q (F0 m (pc + 1) ls rest)) : W p l e R s m args below meth c H locs cells slots Q (F0 m pc ls (.ref (adr qk) :: .int i :: .ref (adr q0) :: rest)) :=
  va_astq hx hb hK.1 hM.1 hM.2 hS q0 t0 qk ci (wn_get hq he) ht (wn_get hk hv) hc hin hdg (fun H1 l1 h1 h2 h3 => kk H1 l1 ⟨by rw [wn_set] at h1; exact h1, by rw [wn_set] at h2; exact h2⟩ h3)
theorem m_astqN (hx : p.tables.exec = Jvm.exec) (hb : c.code = cc) (hK : KN D ac s) (hM : MW D A N adr w H) (hS : va_S A H0 H locs) (t0 q0 : Nat) (hq : q0 < N) {n : Nat} {f : Nat → Option Nat} (he : w q0 = .inl (ac t0, n, .inr (.inr (.inr (.inr f))))) {C : String} (ht : (tyL ac)[t0]? = some (ac t0, .object C)) {i : Int32} (hin : vp_in i n) (hdg : decode cc pc = .ok (.aastore, 1))
    (kk : ∀ (H1 : Heap) (locs1 : List Loc), MW D A N adr (va_up w q0 (.inl (ac t0, n, .inr (.inr (.inr (.inr (va_up f i.toNatClampNeg none))))))) H1 → va_S A H0 H1 locs1 → W p l e R s m args below meth c H1 locs1 cells slots Q (F0 m (pc + 1) ls rest)) : W p l e R s m args below meth c H locs cells slots Q (F0 m pc ls (.null :: .int i :: .ref (adr q0) :: rest)) :=
  va_astqN hx hb hK.1 hM.1 hM.2 hS q0 t0 (wn_get hq he) ht hin hdg (fun H1 l1 h1 h2 h3 => kk H1 l1 ⟨by rw [wn_set] at h1; exact h1, by rw [wn_set] at h2; exact h2⟩ h3)
-- calls of contracts that only read
theorem r_calli {post : Int32 → Prop} {av : Array Value} {A0 : Nat → Prop} (hr : va_Run p l e R s m args below meth c H locs cells slots 0 0 (F0 m pc ls st0) rest (va_Qi (fun r (_ : Unit) => post r) (fun _ t => t.heap = H) (fun _ => False) av) (fun _ => False)) (hS : va_S A0 H0 H locs)
    (kk : ∀ (r : Int32) (locs1 : List Loc), post r → va_S A0 H0 H locs1 → W p l e R s m args below meth c H locs1 cells slots Q (F0 m (pc + 3) ls (.int r :: rest))) : W p l e R s m args below meth c H locs cells slots Q (F0 m pc ls st0) :=
  va_calli hr hS (fun _ _ h => h.elim) (fun _ h => h.elim) (fun r u t H1 locs1 ht hvm hp hB hz hk hS1 => by
    have hB : t.heap = H := hB
    have e : H1 = H := ht.symm.trans hB
    subst e
    exact kk r locs1 hp hS1)
theorem r_calll {post : Int64 → Prop} {av : Array Value} {A0 : Nat → Prop} (hr : va_Run p l e R s m args below meth c H locs cells slots 0 0 (F0 m pc ls st0) rest (va_Ql (fun r (_ : Unit) => post r) (fun _ t => t.heap = H) (fun _ => False) av) (fun _ => False)) (hS : va_S A0 H0 H locs)
    (kk : ∀ (r : Int64) (locs1 : List Loc), post r → va_S A0 H0 H locs1 → W p l e R s m args below meth c H locs1 cells slots Q (F0 m (pc + 3) ls (.long r :: rest))) : W p l e R s m args below meth c H locs cells slots Q (F0 m pc ls st0) :=
  va_calll hr hS (fun _ _ h => h.elim) (fun _ h => h.elim) (fun r u t H1 locs1 ht hvm hp hB hz hk hS1 => by
    have hB : t.heap = H := hB
    have e : H1 = H := ht.symm.trans hB
    subst e
    exact kk r locs1 hp hS1)
theorem r_callq {post : Option Nat → Prop} {av : Array Value} {A0 : Nat → Prop} (hr : va_Run p l e R s m args below meth c H locs cells slots 0 0 (F0 m pc ls st0) rest (va_Qq (fun r (_ : Unit) => post r) (fun _ t => t.heap = H) (fun _ => False) av) (fun _ => False)) (hS : va_S A0 H0 H locs)
    (kk : ∀ (r : Option Nat) (locs1 : List Loc), post r → va_S A0 H0 H locs1 → W p l e R s m args below meth c H locs1 cells slots Q (F0 m (pc + 3) ls (va_rf r :: rest))) : W p l e R s m args below meth c H locs cells slots Q (F0 m pc ls st0) :=
  va_callq hr hS (fun _ _ h => h.elim) (fun _ h => h.elim) (fun r u t H1 locs1 ht hvm hp hB hz hk hS1 => by
    have hB : t.heap = H := hB
    have e : H1 = H := ht.symm.trans hB
    subst e
    exact kk r locs1 hp hS1)
-- calls of contracts that write
theorem w_calli {post : Int32 → (Nat → va_E) → Prop} {av : Array Value} (hr : va_Run p l e R s m args below meth c H locs cells slots 0 0 (F0 m pc ls st0) rest (va_Qi post (fun c t => MW D A N adr c t.heap) A av) A) (hS : va_S A H0 H locs)
    (kk : ∀ (r : Int32) (w1 : Nat → va_E) (H1 : Heap) (locs1 : List Loc), post r w1 → MW D A N adr w1 H1 → va_S A H0 H1 locs1 → W p l e R s m args below meth c H1 locs1 cells slots Q (F0 m (pc + 3) ls (.int r :: rest))) : W p l e R s m args below meth c H locs cells slots Q (F0 m pc ls st0) :=
  va_calli hr hS (fun _ _ h => h) (fun _ h => h) (fun r u t H1 locs1 ht hvm hp hB hz hk hS1 => by
    have hB : MW D A N adr u t.heap := hB
    rw [ht] at hB
    exact kk r u H1 locs1 hp hB hS1)
theorem w_callv {post : (Nat → va_E) → Prop} {av : Array Value} (hr : va_Run p l e R s m args below meth c H locs cells slots 0 0 (F0 m pc ls st0) rest (va_Qv post (fun c t => MW D A N adr c t.heap) A av) A) (hS : va_S A H0 H locs)
    (kk : ∀ (w1 : Nat → va_E) (H1 : Heap) (locs1 : List Loc), post w1 → MW D A N adr w1 H1 → va_S A H0 H1 locs1 → W p l e R s m args below meth c H1 locs1 cells slots Q (F0 m (pc + 3) ls rest)) : W p l e R s m args below meth c H locs cells slots Q (F0 m pc ls st0) :=
  va_callv hr hS (fun _ _ h => h) (fun _ h => h) (fun u t H1 locs1 ht hvm hp hB hz hk hS1 => by
    have hB : MW D A N adr u t.heap := hB
    rw [ht] at hB
    exact kk u H1 locs1 hp hB hS1)
-- ends
theorem e_i {post : Int32 → Prop} {v : Int32} {mc ms : Nat} (hx : p.tables.exec = Jvm.exec) (hb : c.code = cc) (hlocks : meth.locks = false) (hr : meth.sig.returnType = some .int) (hdg : decode cc pc = .ok (.ireturn, 1)) (hS : va_S (fun _ => False) s.heap s.heap locs) (hp : post v) : W p l e R s m args below meth c s.heap locs mc ms (MQ below (va_Qi (fun r (_ : Unit) => post r) (fun _ t => t.heap = s.heap) (fun _ => False)) args s mc ms (fun _ => False)) (F0 m pc ls [.int v]) :=
  W.iret hx hb hr (fun t ht hW => ⟨⟨v, (), rfl, hp, ht⟩, hS.F ht⟩) hS.2.2 hdg hlocks
theorem e_z {post : Int32 → Prop} {v : Int32} {mc ms : Nat} (hx : p.tables.exec = Jvm.exec) (hb : c.code = cc) (hlocks : meth.locks = false) (hr : meth.sig.returnType = some .boolean) (hdg : decode cc pc = .ok (.ireturn, 1)) (hn : narrow .boolean (.int v) = .int v) (hS : va_S (fun _ => False) s.heap s.heap locs) (hp : post v) : W p l e R s m args below meth c s.heap locs mc ms (MQ below (va_Qi (fun r (_ : Unit) => post r) (fun _ t => t.heap = s.heap) (fun _ => False)) args s mc ms (fun _ => False)) (F0 m pc ls [.int v]) :=
  W.zret hx hb hr hn (fun t ht hW => ⟨⟨v, (), rfl, hp, ht⟩, hS.F ht⟩) hS.2.2 hdg hlocks
theorem e_l {post : Int64 → Prop} {v : Int64} {mc ms : Nat} (hx : p.tables.exec = Jvm.exec) (hb : c.code = cc) (hlocks : meth.locks = false) (hr : meth.sig.returnType = some .long) (hdg : decode cc pc = .ok (.lreturn, 1)) (hS : va_S (fun _ => False) s.heap s.heap locs) (hp : post v) : W p l e R s m args below meth c s.heap locs mc ms (MQ below (va_Ql (fun r (_ : Unit) => post r) (fun _ t => t.heap = s.heap) (fun _ => False)) args s mc ms (fun _ => False)) (F0 m pc ls [.long v]) :=
  W.lret hx hb hr (fun t ht hW => ⟨⟨v, (), rfl, hp, ht⟩, hS.F ht⟩) hS.2.2 hdg hlocks
theorem e_q {post : Option Nat → Prop} {r : Option Nat} {mc ms : Nat} {rt : FieldType} (hx : p.tables.exec = Jvm.exec) (hb : c.code = cc) (hlocks : meth.locks = false) (hr : meth.sig.returnType = some rt) (hrt : (∃ n, rt = .object n) ∨ ∃ t, rt = .array t) (hdg : decode cc pc = .ok (.areturn, 1)) (hS : va_S (fun _ => False) s.heap s.heap locs) (hp : post r) : W p l e R s m args below meth c s.heap locs mc ms (MQ below (va_Qq (fun r (_ : Unit) => post r) (fun _ t => t.heap = s.heap) (fun _ => False)) args s mc ms (fun _ => False)) (F0 m pc ls [va_rf r]) :=
  W.aret hx hb hr hrt (va_rf_or r) (fun t ht hW => ⟨⟨r, (), rfl, hp, ht⟩, hS.F ht⟩) hS.2.2 hdg hlocks
theorem e_wi {post : Int32 → (Nat → va_E) → Prop} {v : Int32} {mc ms : Nat} (hx : p.tables.exec = Jvm.exec) (hb : c.code = cc) (hlocks : meth.locks = false) (hr : meth.sig.returnType = some .int) (hdg : decode cc pc = .ok (.ireturn, 1)) (hM : MW D A N adr w H) (hS : va_S A s.heap H locs) (hp : post v w) : W p l e R s m args below meth c H locs mc ms (MQ below (va_Qi post (fun c t => MW D A N adr c t.heap) A) args s mc ms A) (F0 m pc ls [.int v]) :=
  W.iret hx hb hr (fun t ht hW => ⟨⟨v, w, rfl, hp, by show MW D A N adr w t.heap; rw [ht]; exact hM⟩, hS.F ht⟩) hS.2.2 hdg hlocks
theorem e_wz {post : Int32 → (Nat → va_E) → Prop} {v : Int32} {mc ms : Nat} (hx : p.tables.exec = Jvm.exec) (hb : c.code = cc) (hlocks : meth.locks = false) (hr : meth.sig.returnType = some .boolean) (hdg : decode cc pc = .ok (.ireturn, 1)) (hn : narrow .boolean (.int v) = .int v) (hM : MW D A N adr w H) (hS : va_S A s.heap H locs) (hp : post v w) : W p l e R s m args below meth c H locs mc ms (MQ below (va_Qi post (fun c t => MW D A N adr c t.heap) A) args s mc ms A) (F0 m pc ls [.int v]) :=
  W.zret hx hb hr hn (fun t ht hW => ⟨⟨v, w, rfl, hp, by show MW D A N adr w t.heap; rw [ht]; exact hM⟩, hS.F ht⟩) hS.2.2 hdg hlocks
theorem e_wv {post : (Nat → va_E) → Prop} {mc ms : Nat} (hx : p.tables.exec = Jvm.exec) (hb : c.code = cc) (hlocks : meth.locks = false) (hr : meth.sig.returnType = none) (hdg : decode cc pc = .ok (.return_, 1)) (hM : MW D A N adr w H) (hS : va_S A s.heap H locs) (hp : post w) : W p l e R s m args below meth c H locs mc ms (MQ below (va_Qv post (fun c t => MW D A N adr c t.heap) A) args s mc ms A) (F0 m pc ls []) :=
  W.vret hx hb hr (fun t ht hW => ⟨⟨w, rfl, hp, by show MW D A N adr w t.heap; rw [ht]; exact hM⟩, hS.F ht⟩) hS.2.2 hdg hlocks
end RW
-- small facts of ints
theorem vin_lit {x : Int32} {n : Nat} (h0 : ¬ x < 0) (h1 : x < Int32.ofNat n) (hn : n < 2 ^ 31) : vp_in x n := by
  rw [vp_in_iff]
  have h2 : (nI n).toInt = (n : Int) := nI_toInt hn
  have h3 : x.toInt < (nI n).toInt := Int32.lt_iff_toInt_lt.mp h1
  have h4 : ¬ x.toInt < (0 : Int32).toInt := fun q => h0 (Int32.lt_iff_toInt_lt.mpr q)
  have h5 : (0 : Int32).toInt = 0 := by decide
  omega
theorem vin_a {x : Int32} {n : Nat} (h0 : ¬ x < 0) (h1 : ¬ Int32.ofNat n ≤ x) (hn : n < 2 ^ 31) : vp_in x n := by
  rw [vp_in_iff]
  have h2 : (nI n).toInt = (n : Int) := nI_toInt hn
  have h3 : ¬ (nI n).toInt ≤ x.toInt := fun q => h1 (Int32.le_iff_toInt_le.mpr q)
  have h4 : ¬ x.toInt < (0 : Int32).toInt := fun q => h0 (Int32.lt_iff_toInt_lt.mpr q)
  have h5 : (0 : Int32).toInt = 0 := by decide
  omega
theorem vin_b {x : Int32} {n : Nat} (h0 : ¬ x < 0) (h1 : x < Int32.ofNat n) (hn : n < 2 ^ 31) : vp_in x n := vin_lit h0 h1 hn
/-- a place of n: which one, if any -/
def ix (x : Int32) (n : Nat) : Option Nat := if x < 0 then none else if nI n ≤ x then none else some x.toNatClampNeg
theorem ix_nI {j n : Nat} (h : j < n) (hn : n < 2 ^ 31) : ix (nI j) n = some j := by
  unfold ix
  rw [if_neg (nI_pos (by omega)), if_neg (nI_ge h hn), nI_clamp (by omega)]
theorem ix_nIn {j n : Nat} (h : n ≤ j) (hj : j < 2 ^ 31) : ix (nI j) n = none := by
  unfold ix
  rw [if_neg (nI_pos hj), if_pos (nI_le h hj)]
theorem ix_neg {x : Int32} {n : Nat} (h : x < 0) : ix x n = none := by
  unfold ix
  rw [if_pos h]
theorem ix_big {x : Int32} {n : Nat} (h : nI n ≤ x) : ix x n = none := by
  unfold ix
  by_cases h0 : x < 0
  · rw [if_pos h0]
  · rw [if_neg h0, if_pos h]
theorem ix_of {x : Int32} {n j : Nat} (h : ix x n = some j) (hn : n < 2 ^ 31) : j < n ∧ x = nI j := by
  unfold ix at h
  by_cases h0 : x < 0
  · rw [if_pos h0] at h; cases h
  · by_cases h1 : nI n ≤ x
    · rw [if_neg h0, if_pos h1] at h; cases h
    · rw [if_neg h0, if_neg h1] at h
      rcases pk_ix x hn with q | q | ⟨k, q1, q2⟩
      · exact absurd q h0
      · exact absurd q h1
      · subst q2
        rw [nI_clamp (by omega)] at h
        cases h
        exact ⟨q1, rfl⟩
theorem ix_some {x : Int32} {n : Nat} (h0 : ¬ x < 0) (h1 : ¬ nI n ≤ x) : ix x n = some x.toNatClampNeg := by
  unfold ix
  rw [if_neg h0, if_neg h1]
theorem ix_none {x : Int32} {n : Nat} (h : ix x n = none) : x < 0 ∨ nI n ≤ x := by
  unfold ix at h
  by_cases h0 : x < 0
  · exact Or.inl h0
  · by_cases h1 : nI n ≤ x
    · exact Or.inr h1
    · rw [if_neg h0, if_neg h1] at h; cases h
theorem nle_dead {x : Int32} {n k : Nat} (h1 : ¬ nI n ≤ x) (h2 : nI k ≤ x) (hnk : n ≤ k) (hk : k < 2 ^ 31) : False := by
  have a1 : ¬ (nI n).toInt ≤ x.toInt := fun q => h1 (Int32.le_iff_toInt_le.mpr q)
  have a2 : (nI k).toInt ≤ x.toInt := Int32.le_iff_toInt_le.mp h2
  rw [nI_toInt (by omega)] at a1
  rw [nI_toInt (by omega)] at a2
  omega
theorem nle_lt {a b : Nat} (h : ¬ nI a ≤ nI b) (ha : a < 2 ^ 31) (hb : b < 2 ^ 31) : b < a := by
  rw [nI_leI ha hb] at h
  omega
theorem le_le {a b : Nat} (h : nI a ≤ nI b) (ha : a < 2 ^ 31) (hb : b < 2 ^ 31) : a ≤ b := (nI_leI ha hb).mp h
theorem lt_lt {a b : Nat} (h : nI a < nI b) (ha : a < 2 ^ 31) (hb : b < 2 ^ 31) : a < b := (nI_ltI ha hb).mp h
theorem nlt_le {a b : Nat} (h : ¬ nI a < nI b) (ha : a < 2 ^ 31) (hb : b < 2 ^ 31) : b ≤ a := by
  rw [nI_ltI ha hb] at h
  omega
section TOP
variable {p : Program} {l : Launch} {e : Env} {R : Room} {s : State} {m : MethodId} {args : Array Value} {below : List Frame} {meth : Method} {c : Code} {H : Heap} {locs : List Loc} {cells slots : Nat} {Q : State → Prop} {pc : Nat} {ls : Array Slot} {rest : List Value}
theorem m_top {x y : Int32} (h : x = y) (kk : W p l e R s m args below meth c H locs cells slots Q (F0 m pc ls (.int y :: rest))) : W p l e R s m args below meth c H locs cells slots Q (F0 m pc ls (.int x :: rest)) := by rw [h]; exact kk
theorem m_topl {x y : Int64} (h : x = y) (kk : W p l e R s m args below meth c H locs cells slots Q (F0 m pc ls (.long y :: rest))) : W p l e R s m args below meth c H locs cells slots Q (F0 m pc ls (.long x :: rest)) := by rw [h]; exact kk
theorem m_topq {x y : Option Nat} (h : x = y) (kk : W p l e R s m args below meth c H locs cells slots Q (F0 m pc ls (va_rf y :: rest))) : W p l e R s m args below meth c H locs cells slots Q (F0 m pc ls (va_rf x :: rest)) := by rw [h]; exact kk
theorem m_topn (kk : W p l e R s m args below meth c H locs cells slots Q (F0 m pc ls (.null :: rest))) : W p l e R s m args below meth c H locs cells slots Q (F0 m pc ls (va_rf none :: rest)) := kk
theorem m_topr {a : Nat} (kk : W p l e R s m args below meth c H locs cells slots Q (F0 m pc ls (.ref a :: rest))) : W p l e R s m args below meth c H locs cells slots Q (F0 m pc ls (va_rf (some a) :: rest)) := kk
end TOP
def shF (x : Int32) (f : Nat → Int32) : Nat → Int32 := fun j => if j = 0 then x else f (j - 1)
def mixF (i : Nat) (f g : Nat → Int32) : Nat → Int32 := fun j => if j < i then f j else g j
theorem mixF_0 {f g : Nat → Int32} : mixF 0 f g = g := by funext j; simp [mixF]
theorem mixF_s {i : Nat} {f g : Nat → Int32} : upd (mixF i f g) i (f i) = mixF (i + 1) f g := by
  funext j
  by_cases h : j = i
  · subst h; simp [mixF, upd]
  · simp only [mixF, upd, if_neg h]
    by_cases h2 : j < i
    · rw [if_pos h2, if_pos (by omega)]
    · rw [if_neg h2, if_neg (by omega)]
def cutF (k : Nat) (f : Nat → Int32) : Nat → Int32 := fun j => if j < k then f j else f (j + 1)
def cutT (k i : Nat) (f : Nat → Int32) : Nat → Int32 := fun j => if j < i then cutF k f j else f j
theorem cutT_0 {k : Nat} {f : Nat → Int32} : cutT k k f = f := by
  funext j
  unfold cutT cutF
  by_cases h : j < k
  · rw [if_pos h, if_pos h]
  · rw [if_neg h]
theorem cutT_s {k i : Nat} (hk : k ≤ i) {f : Nat → Int32} : upd (cutT k i f) i (f (i + 1)) = cutT k (i + 1) f := by
  funext j
  by_cases h : j = i
  · subst h
    simp only [upd, cutT, cutF, if_true]
    rw [if_pos (by omega), if_neg (by omega)]
  · simp only [upd, cutT, if_neg h]
    by_cases h2 : j < i
    · rw [if_pos h2, if_pos (by omega)]
    · rw [if_neg h2, if_neg (by omega)]
