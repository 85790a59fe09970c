def Lo (s : State) : Nat → Prop := fun q => s.heap.size ≤ q
def Am (adm : Nat → Nat) : Nat → Prop := fun q => ∃ j, j < 24 ∧ q = adm j
def Ax (A : Nat → Prop) (adm : Nat → Nat) : Nat → Prop := fun q => A q ∧ ∀ j, j < 24 → ¬ q = adm j
/-- class, answer and reference in one heap, apart -/
def LW (D : va_G) (ac : Nat → ClassId) (A : Nat → Prop) (N : Nat) (adr : Nat → Nat) (w : Nat → va_E) (b : Nat) (f : Nat → Int64) (adm : Nat → Nat) (sf : Nat → Int32) (af : Nat → Nat → Int32) (H : Heap) : Prop := MW D (Abt (Ax A adm) b) N adr w H ∧ OCel D ac H b f ∧ Ax A adm b ∧ MW D (Am adm) 24 adm (mw ac adm sf af) H ∧ ∀ j, j < 24 → A (adm j)
theorem LW.help {D : va_G} {ac : Nat → ClassId} {A : Nat → Prop} {N N2 : Nat} {adr adr2 : Nat → Nat} {w w2 : Nat → va_E} {b : Nat} {f f2 : Nat → Int64} {adm : Nat → Nat} {sf : Nat → Int32} {af : Nat → Nat → Int32} {H H1 : Heap} (h : LW D ac A N adr w b f adm sf af H) (h1 : MW D (Abt (Ax A adm) b) N2 adr2 w2 H1) (h2 : OCel D ac H1 b f2) (hk : ∀ q, q < H.size → ¬ Ax A adm q → H1[q]? = H[q]?) : LW D ac A N2 adr2 w2 b f2 adm sf af H1 :=
  ⟨h1, h2, h.2.2.1, h.2.2.2.1.kept (fun j hj => hk _ (h.2.2.2.1.lt hj) (fun q => q.2 j hj rfl)), h.2.2.2.2⟩
theorem LW.mod {D : va_G} {ac : Nat → ClassId} {A : Nat → Prop} {N : Nat} {adr : Nat → Nat} {w : Nat → va_E} {b : Nat} {f : Nat → Int64} {adm : Nat → Nat} {sf s1 : Nat → Int32} {af a1 : Nat → Nat → Int32} {H H1 : Heap} (h : LW D ac A N adr w b f adm sf af H) (h1 : MW D (Am adm) 24 adm (mw ac adm s1 a1) H1) (hk : ∀ q, q < H.size → ¬ Am adm q → H1[q]? = H[q]?) : LW D ac A N adr w b f adm s1 a1 H1 :=
  ⟨h.1.kept (fun k hk9 => hk _ (h.1.lt hk9) (fun ⟨j, hj, e⟩ => (h.1.own hk9).1.2 j hj e)), h.2.1.kept (hk b h.2.1.lt (fun ⟨j, hj, e⟩ => h.2.2.1.2 j hj e)), h.2.2.1, h1, h.2.2.2.2⟩
theorem LW.cls {D : va_G} {ac : Nat → ClassId} {A : Nat → Prop} {N : Nat} {adr : Nat → Nat} {w w2 : Nat → va_E} {b : Nat} {f : Nat → Int64} {adm : Nat → Nat} {sf : Nat → Int32} {af : Nat → Nat → Int32} {H H1 : Heap} (h : LW D ac A N adr w b f adm sf af H) (h1 : MW D (Abt (Ax A adm) b) N adr w2 H1) (hk : ∀ q, q < H.size → ¬ Abt (Ax A adm) b q → H1[q]? = H[q]?) : LW D ac A N adr w2 b f adm sf af H1 :=
  h.help h1 (h.2.1.kept (hk b h.2.1.lt (fun q => q.2 rfl))) (fun q hq hn => hk q hq (fun z => hn z.1))
section LAWR
variable {p : Program} {l : Launch} {e : Env} {R : Room} {s : State} {m : MethodId} {args : Array Value} {below : List Frame} {meth : Method} {c : Code} {H : Heap} {locs : List Loc} {cells slots : Nat} {Q : State → Prop}
variable {pc : Nat} {ls : Array Slot} {rest st0 : List Value} {D : va_G} {ac : Nat → ClassId} {A : Nat → Prop} {H0 : Heap} {N b : Nat} {adr : Nat → Nat} {w : Nat → va_E} {f : Nat → Int64} {adm : Nat → Nat} {sf : Nat → Int32} {af : Nat → Nat → Int32} {mc ms : Nat} {av : Array Value}
theorem law_help {post : Int32 → HU → Prop} (hr : va_Run p l e R s m args below meth c H locs cells slots mc ms (F0 m pc ls st0) rest (va_Qi post (HB D ac (Ax A adm) b) (Ax A adm) av) (Ax A adm)) (hL : LW D ac A N adr w b f adm sf af H) (hS : va_S A H0 H locs)
    (kk : ∀ (r : Int32) (u : HU) (H1 : Heap) (locs1 : List Loc), post r u → LW D ac A u.1 u.2.1 u.2.2.1 b u.2.2.2 adm sf af H1 → va_S A H0 H1 locs1 → W p l e R s m args below meth c H1 locs1 (cells + mc) (slots + ms) Q (F0 m (pc + 3) ls (.int r :: rest))) : W p l e R s m args below meth c H locs cells slots Q (F0 m pc ls st0) :=
  va_calli hr hS (fun q _ h => h.1) (fun q h => h.1) (fun r u t H1 locs1 ht hvm hp hB hz hk hS1 => by
    have hB : MW D (Abt (Ax A adm) b) u.1 u.2.1 u.2.2.1 t.heap ∧ OCel D ac t.heap b u.2.2.2 := hB
    rw [ht] at hB
    exact kk r u H1 locs1 hp (hL.help hB.1 hB.2 hk) hS1)
theorem law_mod {post : Int32 → (Nat → va_E) → Prop} (hr : va_Run p l e R s m args below meth c H locs cells slots 0 0 (F0 m pc ls st0) rest (va_Qi post (fun c t => MW D (Am adm) 24 adm c t.heap) (Am adm) av) (Am adm)) (hL : LW D ac A N adr w b f adm sf af H) (hS : va_S A H0 H locs)
    (kk : ∀ (r : Int32) (w1 : Nat → va_E) (H1 : Heap) (locs1 : List Loc), post r w1 → (∀ s1 a1, w1 = mw ac adm s1 a1 → LW D ac A N adr w b f adm s1 a1 H1) → va_S A H0 H1 locs1 → W p l e R s m args below meth c H1 locs1 cells slots Q (F0 m (pc + 3) ls (.int r :: rest))) : W p l e R s m args below meth c H locs cells slots Q (F0 m pc ls st0) :=
  va_calli hr hS (fun q _ ⟨j, hj, e⟩ => by rw [e]; exact hL.2.2.2.2 j hj) (fun q ⟨j, hj, e⟩ => by rw [e]; exact hL.2.2.2.2 j hj) (fun r u t H1 locs1 ht hvm hp hB hz hk hS1 => by
    have hB : MW D (Am adm) 24 adm u t.heap := hB
    rw [ht] at hB
    exact kk r u H1 locs1 hp (fun s1 a1 e => hL.mod (by rw [← e]; exact hB) hk) hS1)
theorem law_modv {post : (Nat → va_E) → Prop} (hr : va_Run p l e R s m args below meth c H locs cells slots 0 0 (F0 m pc ls st0) rest (va_Qv post (fun c t => MW D (Am adm) 24 adm c t.heap) (Am adm) av) (Am adm)) (hL : LW D ac A N adr w b f adm sf af H) (hS : va_S A H0 H locs)
    (kk : ∀ (w1 : Nat → va_E) (H1 : Heap) (locs1 : List Loc), post w1 → (∀ s1 a1, w1 = mw ac adm s1 a1 → LW D ac A N adr w b f adm s1 a1 H1) → va_S A H0 H1 locs1 → W p l e R s m args below meth c H1 locs1 cells slots Q (F0 m (pc + 3) ls rest)) : W p l e R s m args below meth c H locs cells slots Q (F0 m pc ls st0) :=
  va_callv hr hS (fun q _ ⟨j, hj, e⟩ => by rw [e]; exact hL.2.2.2.2 j hj) (fun q ⟨j, hj, e⟩ => by rw [e]; exact hL.2.2.2.2 j hj) (fun u t H1 locs1 ht hvm hp hB hz hk hS1 => by
    have hB : MW D (Am adm) 24 adm u t.heap := hB
    rw [ht] at hB
    exact kk u H1 locs1 hp (fun s1 a1 e => hL.mod (by rw [← e]; exact hB) hk) hS1)
theorem law_cls {post : Int32 → (Nat → va_E) → Prop} (hr : va_Run p l e R s m args below meth c H locs cells slots 0 0 (F0 m pc ls st0) rest (va_Qi post (fun c t => MW D (Abt (Ax A adm) b) N adr c t.heap) (Abt (Ax A adm) b) av) (Abt (Ax A adm) b)) (hL : LW D ac A N adr w b f adm sf af H) (hS : va_S A H0 H locs)
    (kk : ∀ (r : Int32) (w1 : Nat → va_E) (H1 : Heap) (locs1 : List Loc), post r w1 → LW D ac A N adr w1 b f adm sf af H1 → va_S A H0 H1 locs1 → W p l e R s m args below meth c H1 locs1 cells slots Q (F0 m (pc + 3) ls (.int r :: rest))) : W p l e R s m args below meth c H locs cells slots Q (F0 m pc ls st0) :=
  va_calli hr hS (fun q _ h => h.1.1) (fun q h => h.1.1) (fun r u t H1 locs1 ht hvm hp hB hz hk hS1 => by
    have hB : MW D (Abt (Ax A adm) b) N adr u t.heap := hB
    rw [ht] at hB
    exact kk r u H1 locs1 hp (hL.cls hB hk) hS1)
end LAWR
/-- what stands fast during the law -/
def LEn (p : Program) (l : Launch) (s : State) (m : MethodId) (c : Code) (b0 L : Nat) (xs : Nat → Int32) (D : va_G) (ac : Nat → ClassId) : Prop := p.tables.exec = Jvm.exec ∧ c.code = cL_law ∧ c.maxLocals = 7 ∧ s.vm.findClass RL = some m.cls ∧ (∀ w ∈ wsL_law, w.before #[Value.ref b0] s = true) ∧ l.stackTraces = false ∧ KN D ac s ∧ XQ (Lo s) s s.heap ∧ NCW s ∧ va_X b0 L xs s s.heap ∧ b0 < s.heap.size ∧ L ≤ 2560
/-- the law's own state ahead of a call -/
def LIv (D : va_G) (ac : Nat → ClassId) (s : State) (x9 m9 b9 cn : Nat) (H : Heap) : Prop := ∃ (N : Nat) (adr : Nat → Nat) (w : Nat → va_E) (f : Nat → Int64) (adm : Nat → Nat) (sf : Nat → Int32) (af : Nat → Nat → Int32), x9 = adr 0 ∧ m9 = adm 0 ∧ LW D ac (Lo s) N adr w b9 f adm sf af H ∧ JJ ac N adr w sf af cn
theorem XQ.now {s : State} {H : Heap} {locs : List Loc} {A : Nat → Prop} (h : XQ A s s.heap) (hS : va_S A s.heap H locs) : XQ A s H := h.at hS
theorem cd1_le {a : Bool} : cd1 a ≤ 3 := by cases a <;> decide
theorem cd2_le {a b : Bool} : cd2 a b ≤ 3 := by cases a <;> cases b <;> decide
theorem cd3_le {a b c : Bool} : cd3 a b c ≤ 3 := by cases a <;> cases b <;> cases c <;> decide
theorem code_ne {c : Nat} (h : c ≤ 3) (h2 : ¬ c = 0) : ¬ nI c = 0 := fun q => h2 ((nI_eq (b := 0) (by omega) (by omega)).mp q)
theorem cmp_self {x : Int64} : lg_cmp x x = 0 := by
  unfold lg_cmp
  rw [if_neg (show ¬ x > x from fun q => Int64.lt_irrefl q), if_pos rfl]
