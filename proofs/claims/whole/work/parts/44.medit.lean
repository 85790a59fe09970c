theorem edz {f g : Nat → Int32} {i j : Nat} (h : i = 0 ∨ j = 0) : i + j = ed f g i j := by
  rcases h with h | h
  · rw [h, ed_0]; omega
  · rw [h, ed_s0]; omega
theorem edm {f g : Nat → Int32} {i j c : Nat} (hi : 0 < i) (hj : 0 < j) (hc : c = if f (i - 1) = g (j - 1) then 0 else 1) : min (min (ed f g (i - 1) j) (ed f g i (j - 1)) + 1) (ed f g (i - 1) (j - 1) + c) = ed f g i j := by
  obtain ⟨i, rfl⟩ : ∃ k, i = k + 1 := ⟨i - 1, by omega⟩
  obtain ⟨j, rfl⟩ : ∃ k, j = k + 1 := ⟨j - 1, by omega⟩
  rw [ed_ss]
  simp only [Nat.add_sub_cancel] at hc ⊢
  rw [← hc]
  omega
/-- the likeness of the row and the sentence i -/
def lkM (n : Nat) (f : Nat → Int32) (sn : Nat → Nat) (sw : Nat → Nat → Nat) (i : Nat) : Int32 := lik (max n (sn i)) (ed f (fun j => nI (sw i j)) n (sn i))
/-- its likeness, as bestOf counts it: -1 of one that is listed -/
def mit (li L : Nat → Int32) (i : Nat) : Int32 := if 0 < li i then -1 else L i
def mbs (li L ow : Nat → Int32) (le : Int32) : Nat → Int32 × Int32
  | 0 => (-1, 0)
  | i + 1 => if ¬ mit li L i < le ∧ ¬ 2 * mit li L i + ow i < (mbs li L ow le i).2 then (nI i, 2 * mit li L i + ow i) else mbs li L ow le i
section MBS
variable {li L ow : Nat → Int32} {le : Int32} {i : Nat}
theorem mit_y (h : ¬ li i ≤ 0) : mit li L i = -1 := if_pos (gt_of_nle h)
theorem mit_n (h : li i ≤ 0) : mit li L i = L i := if_neg (ngt_of_le h)
theorem mbs_t (h1 : ¬ mit li L i < le) (h2 : ¬ 2 * mit li L i + ow i < (mbs li L ow le i).2) : mbs li L ow le (i + 1) = (nI i, 2 * mit li L i + ow i) := by
  simp only [mbs]
  rw [if_pos ⟨h1, h2⟩]
theorem mbs_n (h : mit li L i < le ∨ 2 * mit li L i + ow i < (mbs li L ow le i).2) : mbs li L ow le (i + 1) = mbs li L ow le i := by
  simp only [mbs]
  rw [if_neg (fun q => h.elim q.1 q.2)]
end MBS
def owM (sc : Nat → Nat) (cl : Int32) (i : Nat) : Int32 := if nI (sc i) = cl then 1 else 0
def shN (L : Int32) : Int32 := if L = 100 then 20 else if 85 ≤ L then 50 else if 70 ≤ L then 70 else 90
def shM (n : Nat) (f : Nat → Int32) (sn : Nat → Nat) (sw : Nat → Nat → Nat) (ns : Nat) (x : Int32) : Int32 := (ix x ns).elim 100 (fun i => shN (lkM n f sn sw i))
theorem shM_n {n : Nat} {f : Nat → Int32} {sn : Nat → Nat} {sw : Nat → Nat → Nat} {ns : Nat} : (100 : Int32) = shM n f sn sw ns (-1) := by
  unfold shM
  rw [ix_neg (by decide)]
  rfl
theorem shM_i {n : Nat} {f : Nat → Int32} {sn : Nat → Nat} {sw : Nat → Nat → Nat} {ns i : Nat} (h : i < ns) (hn : ns ≤ 40) {v : Int32} (hv : v = shN (lkM n f sn sw i)) : v = shM n f sn sw ns (nI i) := by
  unfold shM
  rw [ix_nI h (by omega)]
  exact hv
theorem nI_m1 {i : Nat} (h : i < 2 ^ 31) : ¬ nI i = -1 := by
  intro q
  have h1 : (nI i).toInt = (-1 : Int32).toInt := by rw [q]
  rw [nI_toInt h, show (-1 : Int32).toInt = -1 from by decide] at h1
  omega
theorem ge_of_nlt {a b : Int32} (h : ¬ a < b) : b ≤ a := by
  rw [Int32.lt_iff_toInt_lt] at h
  rw [Int32.le_iff_toInt_le]
  omega
theorem nge_of_lt {a b : Int32} (h : a < b) : ¬ b ≤ a := by
  rw [Int32.lt_iff_toInt_lt] at h
  rw [Int32.le_iff_toInt_le]
  omega
set_option maxHeartbeats 4000000 in
set_option maxRecDepth 100000 in
/-- X8_takesDraft -/
theorem k_X8_takesDraft (l : Launch) (D : va_G) (ac : Nat → ClassId) (H : Heap) (A : Nat → Prop) (adr : Nat → Nat) (sf : Nat → Int32) (af : Nat → Nat → Int32) (hM : MW D A 24 adr (mw ac adr sf af) H) (dl : Nat) (dw : Nat → Nat) (hd : MDra sf af dl dw) : WRv l yX8_takesDraft wsX8_takesDraft ({ frames := 0, cells := 0, slots := 0, locals := 0 }) [.ref (adr 0)] D ac H A 24 adr (fun w1 => w1 = mw ac adr (va_up sf 11 (nI dl)) (va_up af 22 (mixF dl (af 1) (af 22)))) := by
  refine Met.ofW (cc := cX8_takesDraft) (maxL := 2) (ret := none) (by decide) rfl ?_
  intro p e s m args below meth c s₁ B hml hv
  obtain ⟨hargs, hsz, hK⟩ := hv
  have hx := B.exec
  have hb := B.bytes
  have hr := B.returns
  have hts := atoms_spec (ws := wsX8_takesDraft) B.pre
  have hown : s.vm.findClass RX8 = some m.cls := findClass_of_methodNamed B.named
  have hlocks := B.notSynchronized
  subst hsz
  have inX8_ : ∀ w ∈ wsX80, w ∈ wsX8_takesDraft := by decide +kernel
  have hS : va_S A s.heap s.heap [] := va_S.rf
  have hl := lv_entry ([.ref (adr 0)]) (n := 2) (Nat.le_of_ble_eq_true rfl)
  have hen := lg_entry_eq m [.ref (adr 0)] 2
  rw [← hargs] at hen
  rw [hen]
  generalize (lg_sl ([.ref (adr 0)]) ++ List.replicate (2 - (lg_sl ([.ref (adr 0)])).length) Slot.unset).toArray = ls at hl ⊢
  have hl : lv_has ls 2 [(0, .ref (adr 0))] := hl
  obtain ⟨Q0, hQ0⟩ : ∃ z, z = MQ below (va_Qv (fun w1 => w1 = mw ac adr (va_up sf 11 (nI dl)) (va_up af 22 (mixF dl (af 1) (af 22)))) (fun c t => MW D A 24 adr c t.heap) A) args s 0 0 A := ⟨_, rfl⟩
  rw [← hQ0]
  refine lv_aload_n hx hb dX8_takesDraft_0 rfl (lv_at hl 0 rfl) ?_
  refine lv_aload_n hx hb dX8_takesDraft_1 rfl (lv_at hl 0 rfl) ?_
  refine m_get (ci := 8) (C := RX8) (T := TX8) (n := 35) (v := .int (sf 1)) hx hb hts inX8_ hown hK rfl (hM.cel (by omega) (show (mw ac adr sf af) 0 = .inr (8, mfs adr sf) from rfl)) 1 (by decide) (hts _ (by decide +kernel)) rfl dX8_takesDraft_2 ?_
  refine m_top (show (sf 1) = nI dl from hd.1) ?_
  refine m_put (ci := 8) (C := RX8) (T := TX8) (n := 35) (v := .int (nI dl)) (ty := tyX8 32) hx hb hts inX8_ tyX8 tyX8_ok nmX8 hown hK hM hS rfl 0 (by omega) (show (mw ac adr sf af) 0 = .inr (8, mfs adr sf) from rfl) 32 (by decide) (hts _ (by decide +kernel)) rfl (by decide +kernel) rfl rfl (Nat.le_of_ble_eq_true rfl) dX8_takesDraft_5 (fun H locs hM hS => ?_)
  have hM : MW D A 24 adr (va_up (mw ac adr sf af) 0 (.inr (8, mfs adr (va_up sf 11 (nI dl))))) H := hM
  have hM := MW.mobj (s1 := (va_up sf 11 (nI dl))) hM rfl
  have hM := MW.cg (s1 := (va_up sf 11 (nI dl))) (a1 := (va_up af 22 (mixF 0 (af 1) (af 22)))) hM (fun _ => rfl) (fun j9 => if q0_ : j9 = 22 then (by subst q0_; show mixF 0 (af 1) (af 22) = af 22; exact (mixF_0)) else (by first | rfl | simp only [va_up, if_neg q0_]))
  refine lv_iconst (v := 0) hx hb dX8_takesDraft_8 (by decide) ?_
  refine lv_istore_n (lv' := [(1, .int 0), (0, .ref (adr 0))]) hx hb dX8_takesDraft_9 rfl hl (by decide) rfl (fun ls hl => ?_)
  have L10 : ∀ (k9 : Nat) (i : Nat) (hk : dl - i < k9) (hi : i ≤ dl) (H : Heap) (locs : List Loc) (hM : MW D A 24 adr (mw ac adr (va_up sf 11 (nI dl)) (va_up af 22 (mixF i (af 1) (af 22)))) H) (hS : va_S A s.heap H locs) (ls : Array Slot) (hl : lv_has ls 2 [(0, .ref (adr 0)), (1, .int (nI i))]), W p l e (headSpec wsX8_takesDraft ({ frames := 0, cells := 0, slots := 0, locals := 0 })).room s m args below meth c H locs 0 0 Q0 (F0 m 10 ls []) := by
    intro k9
    induction k9 with
    | zero => intro i hk hi H locs hM hS ls hl; exact absurd hk (Nat.not_lt_zero _)
    | succ k9 ih10 =>
      intro i hk hi H locs hM hS ls hl
      refine lv_iload_n hx hb dX8_takesDraft_10 rfl (lv_at hl 1 rfl) ?_
      refine lv_aload_n hx hb dX8_takesDraft_11 rfl (lv_at hl 0 rfl) ?_
      refine m_get (ci := 8) (C := RX8) (T := TX8) (n := 35) (v := .int (sf 1)) hx hb hts inX8_ hown hK rfl (hM.cel (by omega) (show (mw ac adr (va_up sf 11 (nI dl)) (va_up af 22 (mixF i (af 1) (af 22)))) 0 = .inr (8, mfs adr (va_up sf 11 (nI dl))) from rfl)) 1 (by decide) (hts _ (by decide +kernel)) rfl dX8_takesDraft_12 ?_
      refine m_top (show (sf 1) = nI dl from hd.1) ?_
      refine lv_icmp_ge (tgt := 36) hx hb dX8_takesDraft_15 (by decide) (fun c15 => ?_) (fun c15 => ?_)
      · have h8 := hd.2.1
        have e9 : i = dl := by have := le_le c15 (by omega) (by omega); omega
        rw [hQ0]
        exact e_wv hx hb hlocks hr dX8_takesDraft_36 hM hS (by rw [e9])
      · have h8 := hd.2.1
        have hin : i < dl := nle_lt c15 (by omega) (by omega)
        refine lv_aload_n hx hb dX8_takesDraft_18 rfl (lv_at hl 0 rfl) ?_
        refine m_get (ci := 8) (C := RX8) (T := TX8) (n := 35) (v := .ref (adr 22)) hx hb hts inX8_ hown hK rfl (hM.cel (by omega) (show (mw ac adr (va_up sf 11 (nI dl)) (va_up af 22 (mixF i (af 1) (af 22)))) 0 = .inr (8, mfs adr (va_up sf 11 (nI dl))) from rfl)) 33 (by decide) (hts _ (by decide +kernel)) rfl dX8_takesDraft_19 ?_
        refine lv_iload_n hx hb dX8_takesDraft_22 rfl (lv_at hl 1 rfl) ?_
        refine lv_aload_n hx hb dX8_takesDraft_23 rfl (lv_at hl 0 rfl) ?_
        refine m_get (ci := 8) (C := RX8) (T := TX8) (n := 35) (v := .ref (adr 1)) hx hb hts inX8_ hown hK rfl (hM.cel (by omega) (show (mw ac adr (va_up sf 11 (nI dl)) (va_up af 22 (mixF i (af 1) (af 22)))) 0 = .inr (8, mfs adr (va_up sf 11 (nI dl))) from rfl)) 2 (by decide) (hts _ (by decide +kernel)) rfl dX8_takesDraft_24 ?_
        refine lv_iload_n hx hb dX8_takesDraft_27 rfl (lv_at hl 1 rfl) ?_
        refine m_iald hx hb hK (hM.cel (by omega) (show (mw ac adr (va_up sf 11 (nI dl)) (va_up af 22 (mixF i (af 1) (af 22)))) 1 = .inl (ac 0, 8, .inl (af 1)) from rfl)) (vp_in_nI (by omega) (by decide)) dX8_takesDraft_28 ?_
        refine m_top (show ((af 1) (nI i).toNatClampNeg) = af 1 i from by rw [nI_clamp (by omega)]) ?_
        refine m_iast hx hb hK hM hS 22 (by omega) (show (mw ac adr (va_up sf 11 (nI dl)) (va_up af 22 (mixF i (af 1) (af 22)))) 22 = .inl (ac 0, 8, .inl (mixF i (af 1) (af 22))) from rfl) (vp_in_nI (by omega) (by decide)) dX8_takesDraft_29 (fun H locs hM hS => ?_)
        have ef_ : (upd (mixF i (af 1) (af 22)) (nI i).toNatClampNeg (af 1 i)) = mixF (i + 1) (af 1) (af 22) := by rw [nI_clamp (by omega)]; exact mixF_s
        rw [ef_] at hM
        clear ef_
        have hM := MW.marr (a1 := (va_up af 22 (mixF (i + 1) (af 1) (af 22)))) hM (by decide) rfl rfl (fun j9 hj9 => by simp only [va_up, if_neg hj9])
        refine lv_iinc (v := nI (i + 1)) (lv' := [(1, .int (nI (i + 1))), (0, .ref (adr 0))]) hx hb dX8_takesDraft_30 hl (k := 1) rfl (nI_1 _) (by decide) rfl (fun ls hl => ?_)
        refine lv_goto (tgt := 10) hx hb dX8_takesDraft_33 (by decide) ?_
        exact ih10 (i + 1) (by omega) (by omega) _ _ (MW.cg hM (fun _ => rfl) (fun j9 => if q0_ : j9 = 22 then (by subst q0_; rfl) else (by first | rfl | simp only [va_up, if_neg q0_]))) hS ls (lv_sub hl [1, 0] rfl)
  exact L10 _ 0 (Nat.lt_succ_self _) (Nat.zero_le _) _ _ (MW.cg hM (fun _ => rfl) (fun j9 => if q0_ : j9 = 22 then (by subst q0_; rfl) else (by first | rfl | simp only [va_up, if_neg q0_]))) hS ls (lv_sub hl [1, 0] rfl)
set_option maxHeartbeats 4000000 in
set_option maxRecDepth 100000 in
/-- X8_compares -/
theorem k_X8_compares (l : Launch) (D : va_G) (ac : Nat → ClassId) (H : Heap) (A : Nat → Prop) (adr : Nat → Nat) (sf : Nat → Int32) (af : Nat → Nat → Int32) (hM : MW D A 24 adr (mw ac adr sf af) H) (ns : Nat) (sc sn : Nat → Nat) (sw : Nat → Nat → Nat) (sb : Nat → Nat → Int32) (hs : MSen sf af ns sc sn sw sb) (n : Nat) (f : Nat → Int32) (hw : MRow sf af n f) (v9 : Nat) (hi : v9 < ns) : WRv l yX8_compares wsX8_compares ({ frames := 1, cells := 0, slots := 0, locals := 21 }) [.ref (adr 0), .int (nI v9)] D ac H A 24 adr (fun w1 => ∃ T1 : Nat → Int32, w1 = mw ac adr sf (va_up af 23 T1) ∧ ∀ a b, a ≤ n → b ≤ sn v9 → T1 (a * 9 + b) = nI (ed f (fun j => nI (sw v9 j)) a b)) := by
  refine Met.ofW (cc := cX8_compares) (maxL := 6) (ret := none) (by decide) rfl ?_
  intro p e s m args below meth c s₁ B hml hv
  obtain ⟨hargs, hsz, hK⟩ := hv
  have hx := B.exec
  have hb := B.bytes
  have hr := B.returns
  have hts := atoms_spec (ws := wsX8_compares) B.pre
  have hown : s.vm.findClass RX8 = some m.cls := findClass_of_methodNamed B.named
  have hlocks := B.notSynchronized
  subst hsz
  have inX8_ : ∀ w ∈ wsX80, w ∈ wsX8_compares := by decide +kernel
  have hS : va_S A s.heap s.heap [] := va_S.rf
  have hl := lv_entry ([.ref (adr 0), .int (nI v9)]) (n := 6) (Nat.le_of_ble_eq_true rfl)
  have hen := lg_entry_eq m [.ref (adr 0), .int (nI v9)] 6
  rw [← hargs] at hen
  rw [hen]
  generalize (lg_sl ([.ref (adr 0), .int (nI v9)]) ++ List.replicate (6 - (lg_sl ([.ref (adr 0), .int (nI v9)])).length) Slot.unset).toArray = ls at hl ⊢
  have hl : lv_has ls 6 [(0, .ref (adr 0)), (1, .int (nI v9))] := hl
  obtain ⟨Q0, hQ0⟩ : ∃ z, z = MQ below (va_Qv (fun w1 => ∃ T1 : Nat → Int32, w1 = mw ac adr sf (va_up af 23 T1) ∧ ∀ a b, a ≤ n → b ≤ sn v9 → T1 (a * 9 + b) = nI (ed f (fun j => nI (sw v9 j)) a b)) (fun c t => MW D A 24 adr c t.heap) A) args s 0 0 A := ⟨_, rfl⟩
  rw [← hQ0]
  obtain ⟨q1_, q2_, ⟨q3_, q4_, q5_⟩, q6_⟩ := hs.2.2 v9 hi
  have q7_ := hs.2.1
  obtain ⟨w1_, ⟨w2_, w3_⟩, w4_⟩ := hw
  refine lv_iconst (v := 0) hx hb dX8_compares_0 (by decide) ?_
  refine lv_istore_n (lv' := [(2, .int 0), (0, .ref (adr 0)), (1, .int (nI v9))]) hx hb dX8_compares_1 rfl hl (by decide) rfl (fun ls hl => ?_)
  have L2 : ∀ (k9 : Nat) (i : Nat) (Tz : Nat → Int32) (hk : n + 1 - i < k9) (hin : i ≤ n + 1) (hT : edT f (fun j => nI (sw v9 j)) (sn v9) i 0 Tz) (H : Heap) (locs : List Loc) (hM : MW D A 24 adr (mw ac adr sf (va_up af 23 Tz)) H) (hS : va_S A s.heap H locs) (ls : Array Slot) (hl : lv_has ls 6 [(0, .ref (adr 0)), (1, .int (nI v9)), (2, .int (nI i))]), W p l e (headSpec wsX8_compares ({ frames := 1, cells := 0, slots := 0, locals := 21 })).room s m args below meth c H locs 0 0 Q0 (F0 m 2 ls []) := by
    intro k9
    induction k9 with
    | zero => intro i Tz hk hin hT H locs hM hS ls hl; exact absurd hk (Nat.not_lt_zero _)
    | succ k9 ih2 =>
      intro i Tz hk hin hT H locs hM hS ls hl
      refine lv_iload_n hx hb dX8_compares_2 rfl (lv_at hl 2 rfl) ?_
      refine lv_aload_n hx hb dX8_compares_3 rfl (lv_at hl 0 rfl) ?_
      refine m_get (ci := 8) (C := RX8) (T := TX8) (n := 35) (v := .int (sf 11)) hx hb hts inX8_ hown hK rfl (hM.cel (by omega) (show (mw ac adr sf (va_up af 23 Tz)) 0 = .inr (8, mfs adr sf) from rfl)) 32 (by decide) (hts _ (by decide +kernel)) rfl dX8_compares_4 ?_
      refine m_top (show (sf 11) = nI n from w1_) ?_
      refine lv_icmp_gt (tgt := 157) hx hb dX8_compares_7 (by decide) (fun c7 => ?_) (fun c7 => ?_)
      · have e9 : i = n + 1 := by have := lt_lt c7 (by omega) (by omega); omega
        rw [hQ0]
        exact e_wv hx hb hlocks hr dX8_compares_157 hM hS (⟨Tz, rfl, fun a b q1 q2 => hT a b (by omega)⟩)
      · have hi8 : i ≤ n := nlt_le c7 (by omega) (by omega)
        refine lv_iconst (v := 0) hx hb dX8_compares_10 (by decide) ?_
        refine lv_istore_n (lv' := [(3, .int 0), (0, .ref (adr 0)), (1, .int (nI v9)), (2, .int (nI i))]) hx hb dX8_compares_11 rfl hl (by decide) rfl (fun ls hl => ?_)
        have L12 : ∀ (k9 : Nat) (j : Nat) (Ty : Nat → Int32) (hkj : sn v9 + 1 - j < k9) (hj : j ≤ sn v9 + 1) (hU : edT f (fun j => nI (sw v9 j)) (sn v9) i j Ty) (H : Heap) (locs : List Loc) (hM : MW D A 24 adr (mw ac adr sf (va_up af 23 Ty)) H) (hS : va_S A s.heap H locs) (ls : Array Slot) (hl : lv_has ls 6 [(0, .ref (adr 0)), (1, .int (nI v9)), (2, .int (nI i)), (3, .int (nI j))]), W p l e (headSpec wsX8_compares ({ frames := 1, cells := 0, slots := 0, locals := 21 })).room s m args below meth c H locs 0 0 Q0 (F0 m 12 ls []) := by
          intro k9
          induction k9 with
          | zero => intro j Ty hkj hj hU H locs hM hS ls hl; exact absurd hkj (Nat.not_lt_zero _)
          | succ k9 ih12 =>
            intro j Ty hkj hj hU H locs hM hS ls hl
            refine lv_iload_n hx hb dX8_compares_12 rfl (lv_at hl 3 rfl) ?_
            refine lv_aload_n hx hb dX8_compares_13 rfl (lv_at hl 0 rfl) ?_
            refine m_get (ci := 8) (C := RX8) (T := TX8) (n := 35) (v := .ref (adr 3)) hx hb hts inX8_ hown hK rfl (hM.cel (by omega) (show (mw ac adr sf (va_up af 23 Ty)) 0 = .inr (8, mfs adr sf) from rfl)) 8 (by decide) (hts _ (by decide +kernel)) rfl dX8_compares_14 ?_
            refine lv_iload_n hx hb dX8_compares_17 rfl (lv_at hl 1 rfl) ?_
            refine m_iald hx hb hK (hM.cel (by omega) (show (mw ac adr sf (va_up af 23 Ty)) 3 = .inl (ac 0, 40, .inl (af 3)) from rfl)) (vp_in_nI (by omega) (by decide)) dX8_compares_18 ?_
            refine m_top (show ((af 3) (nI v9).toNatClampNeg) = nI (sn v9) from by rw [nI_clamp (by omega)]; exact q2_) ?_
            refine lv_icmp_gt (tgt := 151) hx hb dX8_compares_19 (by decide) (fun c19 => ?_) (fun c19 => ?_)
            · have hj1 : sn v9 < j := lt_lt c19 (by omega) (by omega)
              refine lv_iinc (v := nI (i + 1)) (lv' := [(2, .int (nI (i + 1))), (0, .ref (adr 0)), (1, .int (nI v9)), (3, .int (nI j))]) hx hb dX8_compares_151 hl (k := 2) rfl (nI_1 _) (by decide) rfl (fun ls hl => ?_)
              refine lv_goto (tgt := 2) hx hb dX8_compares_154 (by decide) ?_
              exact ih2 (i + 1) Ty (by omega) (by omega) (edT_row hU hj1) _ _ (MW.cg hM (fun _ => rfl) (fun j9 => if q0_ : j9 = 23 then (by subst q0_; rfl) else (by first | rfl | simp only [va_up, if_neg q0_]))) hS ls (lv_sub hl [1, 2, 0] rfl)
            · have hj8 : j ≤ sn v9 := nlt_le c19 (by omega) (by omega)
              refine lv_iload_n hx hb dX8_compares_22 rfl (lv_at hl 2 rfl) ?_
              refine lv_iload_n hx hb dX8_compares_23 rfl (lv_at hl 3 rfl) ?_
              refine lv_iadd hx hb dX8_compares_24 ?_
              refine m_top (show ((nI i) + (nI j)) = nI (i + j) from nI_add _ _) ?_
              refine lv_istore (lv' := [(4, .int (nI (i + j))), (0, .ref (adr 0)), (1, .int (nI v9)), (2, .int (nI i)), (3, .int (nI j))]) hx hb dX8_compares_25 hl (by decide) rfl (fun ls hl => ?_)
              refine lv_iload_n hx hb dX8_compares_27 rfl (lv_at hl 3 rfl) ?_
              refine lv_if_le (tgt := 132) hx hb dX8_compares_28 (by decide) (fun c28 => ?_) (fun c28 => ?_)
              · have z9 : i = 0 ∨ j = 0 := Or.inl (by have := le_le (b := 0) c28 (by omega) (by omega); omega)
                refine lv_aload_n hx hb dX8_compares_132 rfl (lv_at hl 1 rfl) ?_
                refine m_get (ci := 8) (C := RX8) (T := TX8) (n := 35) (v := .ref (adr 23)) hx hb hts inX8_ hown hK rfl (hM.cel (by omega) (show (mw ac adr sf (va_up af 23 Ty)) 0 = .inr (8, mfs adr sf) from rfl)) 34 (by decide) (hts _ (by decide +kernel)) rfl dX8_compares_133 ?_
                refine lv_bipush (v := 9) hx hb dX8_compares_136 (by decide) ?_
                refine lv_iload_n hx hb dX8_compares_138 rfl (lv_at hl 3 rfl) ?_
                refine lv_imul hx hb dX8_compares_139 ?_
                refine m_top (show (9 * (nI i)) = nI (i * 9) from by rw [show (9 : Int32) = nI 9 from rfl, pk_mul, Nat.mul_comm]) ?_
                refine lv_iload_n hx hb dX8_compares_140 rfl (lv_at hl 4 rfl) ?_
                refine lv_iadd hx hb dX8_compares_141 ?_
                refine m_top (show ((nI (i * 9)) + (nI j)) = nI (i * 9 + j) from nI_add _ _) ?_
                refine lv_iload hx hb dX8_compares_142 (lv_at hl 0 rfl) ?_
                refine m_top (show (nI (i + j) : Int32) = nI (ed f (fun j => nI (sw v9 j)) i j) from congrArg nI (by first | exact edz z9 | exact edm hi0 hj0 (if_pos dd_).symm | exact edm hi0 hj0 (if_neg dd_).symm)) ?_
                refine m_iast hx hb hK hM hS 23 (by omega) (show (mw ac adr sf (va_up af 23 Ty)) 23 = .inl (ac 0, 81, .inl Ty) from rfl) (vp_in_nI (by omega) (by decide)) dX8_compares_144 (fun H locs hM hS => ?_)
                have ef_ : (upd Ty (nI (i * 9 + j)).toNatClampNeg (nI (ed f (fun j => nI (sw v9 j)) i j))) = upd Ty (i * 9 + j) (nI (ed f (fun j => nI (sw v9 j)) i j)) := by rw [nI_clamp (by omega)]
                rw [ef_] at hM
                clear ef_
                have hM := MW.marr (a1 := (va_up af 23 (upd Ty (i * 9 + j) (nI (ed f (fun j => nI (sw v9 j)) i j))))) hM (by decide) rfl rfl (fun j9 hj9 => by simp only [va_up, if_neg hj9])
                refine lv_iinc (v := nI (j + 1)) (lv' := [(3, .int (nI (j + 1))), (4, .int (nI (i + j))), (0, .ref (adr 0)), (1, .int (nI v9)), (2, .int (nI i))]) hx hb dX8_compares_145 hl (k := 4) rfl (nI_1 _) (by decide) rfl (fun ls hl => ?_)
                refine lv_goto (tgt := 12) hx hb dX8_compares_148 (by decide) ?_
                exact ih12 (j + 1) (upd Ty (i * 9 + j) (nI (ed f (fun j => nI (sw v9 j)) i j))) (by omega) (by omega) (edT_put hU (by omega) hj8 (by omega) rfl) _ _ (MW.cg hM (fun _ => rfl) (fun j9 => if q0_ : j9 = 23 then (by subst q0_; rfl) else (by first | rfl | simp only [va_up, if_neg q0_]))) hS ls (lv_sub hl [2, 3, 4, 0] rfl)
              · have hi0 : 0 < i := nle_lt (b := 0) c28 (by omega) (by omega)
                refine lv_iload_n hx hb dX8_compares_31 rfl (lv_at hl 4 rfl) ?_
                refine lv_if_le (tgt := 132) hx hb dX8_compares_32 (by decide) (fun c32 => ?_) (fun c32 => ?_)
                · have z9 : i = 0 ∨ j = 0 := Or.inr (by have := le_le (b := 0) c32 (by omega) (by omega); omega)
                  refine lv_aload_n hx hb dX8_compares_132 rfl (lv_at hl 1 rfl) ?_
                  refine m_get (ci := 8) (C := RX8) (T := TX8) (n := 35) (v := .ref (adr 23)) hx hb hts inX8_ hown hK rfl (hM.cel (by omega) (show (mw ac adr sf (va_up af 23 Ty)) 0 = .inr (8, mfs adr sf) from rfl)) 34 (by decide) (hts _ (by decide +kernel)) rfl dX8_compares_133 ?_
                  refine lv_bipush (v := 9) hx hb dX8_compares_136 (by decide) ?_
                  refine lv_iload_n hx hb dX8_compares_138 rfl (lv_at hl 3 rfl) ?_
                  refine lv_imul hx hb dX8_compares_139 ?_
                  refine m_top (show (9 * (nI i)) = nI (i * 9) from by rw [show (9 : Int32) = nI 9 from rfl, pk_mul, Nat.mul_comm]) ?_
                  refine lv_iload_n hx hb dX8_compares_140 rfl (lv_at hl 4 rfl) ?_
                  refine lv_iadd hx hb dX8_compares_141 ?_
                  refine m_top (show ((nI (i * 9)) + (nI j)) = nI (i * 9 + j) from nI_add _ _) ?_
                  refine lv_iload hx hb dX8_compares_142 (lv_at hl 0 rfl) ?_
                  refine m_top (show (nI (i + j) : Int32) = nI (ed f (fun j => nI (sw v9 j)) i j) from congrArg nI (by first | exact edz z9 | exact edm hi0 hj0 (if_pos dd_).symm | exact edm hi0 hj0 (if_neg dd_).symm)) ?_
                  refine m_iast hx hb hK hM hS 23 (by omega) (show (mw ac adr sf (va_up af 23 Ty)) 23 = .inl (ac 0, 81, .inl Ty) from rfl) (vp_in_nI (by omega) (by decide)) dX8_compares_144 (fun H locs hM hS => ?_)
                  have ef_ : (upd Ty (nI (i * 9 + j)).toNatClampNeg (nI (ed f (fun j => nI (sw v9 j)) i j))) = upd Ty (i * 9 + j) (nI (ed f (fun j => nI (sw v9 j)) i j)) := by rw [nI_clamp (by omega)]
                  rw [ef_] at hM
                  clear ef_
                  have hM := MW.marr (a1 := (va_up af 23 (upd Ty (i * 9 + j) (nI (ed f (fun j => nI (sw v9 j)) i j))))) hM (by decide) rfl rfl (fun j9 hj9 => by simp only [va_up, if_neg hj9])
                  refine lv_iinc (v := nI (j + 1)) (lv' := [(3, .int (nI (j + 1))), (4, .int (nI (i + j))), (0, .ref (adr 0)), (1, .int (nI v9)), (2, .int (nI i))]) hx hb dX8_compares_145 hl (k := 4) rfl (nI_1 _) (by decide) rfl (fun ls hl => ?_)
                  refine lv_goto (tgt := 12) hx hb dX8_compares_148 (by decide) ?_
                  exact ih12 (j + 1) (upd Ty (i * 9 + j) (nI (ed f (fun j => nI (sw v9 j)) i j))) (by omega) (by omega) (edT_put hU (by omega) hj8 (by omega) rfl) _ _ (MW.cg hM (fun _ => rfl) (fun j9 => if q0_ : j9 = 23 then (by subst q0_; rfl) else (by first | rfl | simp only [va_up, if_neg q0_]))) hS ls (lv_sub hl [2, 3, 4, 0] rfl)
                · have hj0 : 0 < j := nle_lt (b := 0) c32 (by omega) (by omega)
                  have z1_ := hU (i - 1) (j - 1) (Or.inl ⟨by omega, by omega⟩)
                  have z2_ := hU (i - 1) j (Or.inl ⟨by omega, by omega⟩)
                  have z3_ := hU i (j - 1) (Or.inr ⟨rfl, by omega⟩)
                  have y1_ := ed_le (f := f) (g := (fun j => nI (sw v9 j))) (i - 1) (j - 1)
                  have y2_ := ed_le (f := f) (g := (fun j => nI (sw v9 j))) (i - 1) j
                  have y3_ := ed_le (f := f) (g := (fun j => nI (sw v9 j))) i (j - 1)
                  refine lv_aload_n hx hb dX8_compares_35 rfl (lv_at hl 1 rfl) ?_
                  refine m_get (ci := 8) (C := RX8) (T := TX8) (n := 35) (v := .ref (adr 22)) hx hb hts inX8_ hown hK rfl (hM.cel (by omega) (show (mw ac adr sf (va_up af 23 Ty)) 0 = .inr (8, mfs adr sf) from rfl)) 33 (by decide) (hts _ (by decide +kernel)) rfl dX8_compares_36 ?_
                  refine lv_iload_n hx hb dX8_compares_39 rfl (lv_at hl 3 rfl) ?_
                  refine lv_iconst (v := 1) hx hb dX8_compares_40 (by decide) ?_
                  refine lv_isub hx hb dX8_compares_41 ?_
                  refine m_top (show ((nI i) - 1) = nI (i - 1) from (pk_sub (a := i) (b := 1) (by omega)).trans (congrArg nI (by omega))) ?_
                  refine m_iald hx hb hK (hM.cel (by omega) (show (mw ac adr sf (va_up af 23 Ty)) 22 = .inl (ac 0, 8, .inl (af 22)) from rfl)) (vp_in_nI (by omega) (by decide)) dX8_compares_42 ?_
                  refine m_top (show ((af 22) (nI (i - 1)).toNatClampNeg) = f (i - 1) from by rw [nI_clamp (by omega)]; exact w4_ _ (by omega)) ?_
                  refine lv_aload_n hx hb dX8_compares_43 rfl (lv_at hl 1 rfl) ?_
                  refine m_get (ci := 8) (C := RX8) (T := TX8) (n := 35) (v := .ref (adr 4)) hx hb hts inX8_ hown hK rfl (hM.cel (by omega) (show (mw ac adr sf (va_up af 23 Ty)) 0 = .inr (8, mfs adr sf) from rfl)) 9 (by decide) (hts _ (by decide +kernel)) rfl dX8_compares_44 ?_
                  refine lv_bipush (v := 8) hx hb dX8_compares_47 (by decide) ?_
                  refine lv_iload_n hx hb dX8_compares_49 rfl (lv_at hl 2 rfl) ?_
                  refine lv_imul hx hb dX8_compares_50 ?_
                  refine m_top (show (8 * (nI v9)) = nI (8 * v9) from by rw [show (8 : Int32) = nI 8 from rfl, pk_mul]) ?_
                  refine lv_iload_n hx hb dX8_compares_51 rfl (lv_at hl 4 rfl) ?_
                  refine lv_iadd hx hb dX8_compares_52 ?_
                  refine m_top (show ((nI (8 * v9)) + (nI j)) = nI (8 * v9 + j) from nI_add _ _) ?_
                  refine lv_iconst (v := 1) hx hb dX8_compares_53 (by decide) ?_
                  refine lv_isub hx hb dX8_compares_54 ?_
                  refine m_top (show ((nI (8 * v9 + j)) - 1) = nI (8 * v9 + (j - 1)) from (pk_sub (a := 8 * v9 + j) (b := 1) (by omega)).trans (congrArg nI (by omega))) ?_
                  refine m_iald hx hb hK (hM.cel (by omega) (show (mw ac adr sf (va_up af 23 Ty)) 4 = .inl (ac 0, 320, .inl (af 4)) from rfl)) (vp_in_nI (by omega) (by decide)) dX8_compares_55 ?_
                  refine m_top (show ((af 4) (nI (8 * v9 + (j - 1))).toNatClampNeg) = nI (sw v9 (j - 1)) from by rw [nI_clamp (by omega)]; exact (q6_ _ (by omega)).1) ?_
                  refine lv_icmp_ne (tgt := 63) hx hb dX8_compares_56 (by decide) (fun c56 => ?_) (fun c56 => ?_)
                  · have dd_ : ¬ f (i - 1) = (fun j => nI (sw v9 j)) (j - 1) := c56
                    refine lv_iconst (v := 0) hx hb dX8_compares_63 (by decide) ?_
                    refine lv_istore (lv' := [(5, .int 0), (4, .int (nI (i + j))), (0, .ref (adr 0)), (1, .int (nI v9)), (2, .int (nI i)), (3, .int (nI j))]) hx hb dX8_compares_64 hl (by decide) rfl (fun ls hl => ?_)
                    refine lv_aload_n hx hb dX8_compares_66 rfl (lv_at hl 2 rfl) ?_
                    refine m_get (ci := 8) (C := RX8) (T := TX8) (n := 35) (v := .ref (adr 23)) hx hb hts inX8_ hown hK rfl (hM.cel (by omega) (show (mw ac adr sf (va_up af 23 Ty)) 0 = .inr (8, mfs adr sf) from rfl)) 34 (by decide) (hts _ (by decide +kernel)) rfl dX8_compares_67 ?_
                    refine lv_bipush (v := 9) hx hb dX8_compares_70 (by decide) ?_
                    refine lv_iload_n hx hb dX8_compares_72 rfl (lv_at hl 4 rfl) ?_
                    refine lv_iconst (v := 1) hx hb dX8_compares_73 (by decide) ?_
                    refine lv_isub hx hb dX8_compares_74 ?_
                    refine m_top (show ((nI i) - 1) = nI (i - 1) from (pk_sub (a := i) (b := 1) (by omega)).trans (congrArg nI (by omega))) ?_
                    refine lv_imul hx hb dX8_compares_75 ?_
                    refine m_top (show (9 * (nI (i - 1))) = nI ((i - 1) * 9) from by rw [show (9 : Int32) = nI 9 from rfl, pk_mul, Nat.mul_comm]) ?_
                    refine lv_iload_n hx hb dX8_compares_76 rfl (lv_at hl 5 rfl) ?_
                    refine lv_iadd hx hb dX8_compares_77 ?_
                    refine m_top (show ((nI ((i - 1) * 9)) + (nI j)) = nI ((i - 1) * 9 + j) from nI_add _ _) ?_
                    refine m_iald hx hb hK (hM.cel (by omega) (show (mw ac adr sf (va_up af 23 Ty)) 23 = .inl (ac 0, 81, .inl Ty) from rfl)) (vp_in_nI (by omega) (by decide)) dX8_compares_78 ?_
                    refine m_top (show (Ty (nI ((i - 1) * 9 + j)).toNatClampNeg) = nI (ed f (fun j => nI (sw v9 j)) (i - 1) j) from by rw [nI_clamp (by omega)]; exact z2_) ?_
                    refine lv_aload_n hx hb dX8_compares_79 rfl (lv_at hl 2 rfl) ?_
                    refine m_get (ci := 8) (C := RX8) (T := TX8) (n := 35) (v := .ref (adr 23)) hx hb hts inX8_ hown hK rfl (hM.cel (by omega) (show (mw ac adr sf (va_up af 23 Ty)) 0 = .inr (8, mfs adr sf) from rfl)) 34 (by decide) (hts _ (by decide +kernel)) rfl dX8_compares_80 ?_
                    refine lv_bipush (v := 9) hx hb dX8_compares_83 (by decide) ?_
                    refine lv_iload_n hx hb dX8_compares_85 rfl (lv_at hl 4 rfl) ?_
                    refine lv_imul hx hb dX8_compares_86 ?_
                    refine m_top (show (9 * (nI i)) = nI (i * 9) from by rw [show (9 : Int32) = nI 9 from rfl, pk_mul, Nat.mul_comm]) ?_
                    refine lv_iload_n hx hb dX8_compares_87 rfl (lv_at hl 5 rfl) ?_
                    refine lv_iadd hx hb dX8_compares_88 ?_
                    refine m_top (show ((nI (i * 9)) + (nI j)) = nI (i * 9 + j) from nI_add _ _) ?_
                    refine lv_iconst (v := 1) hx hb dX8_compares_89 (by decide) ?_
                    refine lv_isub hx hb dX8_compares_90 ?_
                    refine m_top (show ((nI (i * 9 + j)) - 1) = nI (i * 9 + (j - 1)) from (pk_sub (a := i * 9 + j) (b := 1) (by omega)).trans (congrArg nI (by omega))) ?_
                    refine m_iald hx hb hK (hM.cel (by omega) (show (mw ac adr sf (va_up af 23 Ty)) 23 = .inl (ac 0, 81, .inl Ty) from rfl)) (vp_in_nI (by omega) (by decide)) dX8_compares_91 ?_
                    refine m_top (show (Ty (nI (i * 9 + (j - 1))).toNatClampNeg) = nI (ed f (fun j => nI (sw v9 j)) i (j - 1)) from by rw [nI_clamp (by omega)]; exact z3_) ?_
                    refine r_calli (va_runS (As := [.int (nI (ed f (fun j => nI (sw v9 j)) (i - 1) j)), .int (nI (ed f (fun j => nI (sw v9 j)) i (j - 1)))]) (rest := []) ⟨hx, hb, hml, hown, hts⟩ (k_X8_lesser l D ac _ (ed f (fun j => nI (sw v9 j)) (i - 1) j) (ed f (fun j => nI (sw v9 j)) i (j - 1)) (by omega) (by omega)) (va_cwS 2 hts gX8_compares_X8_lesser rfl rfl rfl (by decide +kernel) ⟨Nat.le_of_ble_eq_true rfl, Nat.le_of_ble_eq_true rfl⟩) (pS hK) rfl rfl hl.1 rfl (lv_room (Nat.le_of_ble_eq_true rfl)) dX8_compares_92 ⟨Nat.le_of_ble_eq_true rfl, Nat.le_of_ble_eq_true rfl⟩) hS (fun rv_3 locs hrv_3 hS => ?_)
                    subst hrv_3
                    refine lv_iconst (v := 1) hx hb dX8_compares_95 (by decide) ?_
                    refine lv_iadd hx hb dX8_compares_96 ?_
                    refine m_top (show ((nI (min (ed f (fun j => nI (sw v9 j)) (i - 1) j) (ed f (fun j => nI (sw v9 j)) i (j - 1)))) + 1) = nI (min (ed f (fun j => nI (sw v9 j)) (i - 1) j) (ed f (fun j => nI (sw v9 j)) i (j - 1)) + 1) from nI_1 _) ?_
                    refine lv_istore (lv' := [(4, .int (nI (min (ed f (fun j => nI (sw v9 j)) (i - 1) j) (ed f (fun j => nI (sw v9 j)) i (j - 1)) + 1))), (5, .int 0), (0, .ref (adr 0)), (1, .int (nI v9)), (2, .int (nI i)), (3, .int (nI j))]) hx hb dX8_compares_97 hl (by decide) rfl (fun ls hl => ?_)
                    refine lv_iload hx hb dX8_compares_99 (lv_at hl 0 rfl) ?_
                    refine lv_aload_n hx hb dX8_compares_101 rfl (lv_at hl 2 rfl) ?_
                    refine m_get (ci := 8) (C := RX8) (T := TX8) (n := 35) (v := .ref (adr 23)) hx hb hts inX8_ hown hK rfl (hM.cel (by omega) (show (mw ac adr sf (va_up af 23 Ty)) 0 = .inr (8, mfs adr sf) from rfl)) 34 (by decide) (hts _ (by decide +kernel)) rfl dX8_compares_102 ?_
                    refine lv_bipush (v := 9) hx hb dX8_compares_105 (by decide) ?_
                    refine lv_iload_n hx hb dX8_compares_107 rfl (lv_at hl 4 rfl) ?_
                    refine lv_iconst (v := 1) hx hb dX8_compares_108 (by decide) ?_
                    refine lv_isub hx hb dX8_compares_109 ?_
                    refine m_top (show ((nI i) - 1) = nI (i - 1) from (pk_sub (a := i) (b := 1) (by omega)).trans (congrArg nI (by omega))) ?_
                    refine lv_imul hx hb dX8_compares_110 ?_
                    refine m_top (show (9 * (nI (i - 1))) = nI ((i - 1) * 9) from by rw [show (9 : Int32) = nI 9 from rfl, pk_mul, Nat.mul_comm]) ?_
                    refine lv_iload_n hx hb dX8_compares_111 rfl (lv_at hl 5 rfl) ?_
                    refine lv_iadd hx hb dX8_compares_112 ?_
                    refine m_top (show ((nI ((i - 1) * 9)) + (nI j)) = nI ((i - 1) * 9 + j) from nI_add _ _) ?_
                    refine lv_iconst (v := 1) hx hb dX8_compares_113 (by decide) ?_
                    refine lv_isub hx hb dX8_compares_114 ?_
                    refine m_top (show ((nI ((i - 1) * 9 + j)) - 1) = nI ((i - 1) * 9 + (j - 1)) from (pk_sub (a := (i - 1) * 9 + j) (b := 1) (by omega)).trans (congrArg nI (by omega))) ?_
                    refine m_iald hx hb hK (hM.cel (by omega) (show (mw ac adr sf (va_up af 23 Ty)) 23 = .inl (ac 0, 81, .inl Ty) from rfl)) (vp_in_nI (by omega) (by decide)) dX8_compares_115 ?_
                    refine m_top (show (Ty (nI ((i - 1) * 9 + (j - 1))).toNatClampNeg) = nI (ed f (fun j => nI (sw v9 j)) (i - 1) (j - 1)) from by rw [nI_clamp (by omega)]; exact z1_) ?_
                    refine lv_iload hx hb dX8_compares_116 (lv_at hl 1 rfl) ?_
                    refine lv_if_eq (tgt := 125) hx hb dX8_compares_118 (by decide) (fun c118 => ?_) (fun c118 => ?_)
                    · refine lv_iconst (v := 1) hx hb dX8_compares_125 (by decide) ?_
                      refine lv_iadd hx hb dX8_compares_126 ?_
                      refine m_top (show ((nI (ed f (fun j => nI (sw v9 j)) (i - 1) (j - 1))) + 1) = nI (ed f (fun j => nI (sw v9 j)) (i - 1) (j - 1) + 1) from by first | exact nI_1 _ | exact Int32.add_zero _) ?_
                      refine r_calli (va_runS (As := [.int (nI (min (ed f (fun j => nI (sw v9 j)) (i - 1) j) (ed f (fun j => nI (sw v9 j)) i (j - 1)) + 1)), .int (nI (ed f (fun j => nI (sw v9 j)) (i - 1) (j - 1) + 1))]) (rest := []) ⟨hx, hb, hml, hown, hts⟩ (k_X8_lesser l D ac _ (min (ed f (fun j => nI (sw v9 j)) (i - 1) j) (ed f (fun j => nI (sw v9 j)) i (j - 1)) + 1) (ed f (fun j => nI (sw v9 j)) (i - 1) (j - 1) + 1) (by omega) (by omega)) (va_cwS 2 hts gX8_compares_X8_lesser rfl rfl rfl (by decide +kernel) ⟨Nat.le_of_ble_eq_true rfl, Nat.le_of_ble_eq_true rfl⟩) (pS hK) rfl rfl hl.1 rfl (lv_room (Nat.le_of_ble_eq_true rfl)) dX8_compares_127 ⟨Nat.le_of_ble_eq_true rfl, Nat.le_of_ble_eq_true rfl⟩) hS (fun rv_4 locs hrv_4 hS => ?_)
                      subst hrv_4
                      refine lv_istore (lv' := [(4, .int (nI (min (min (ed f (fun j => nI (sw v9 j)) (i - 1) j) (ed f (fun j => nI (sw v9 j)) i (j - 1)) + 1) (ed f (fun j => nI (sw v9 j)) (i - 1) (j - 1) + 1)))), (5, .int 0), (0, .ref (adr 0)), (1, .int (nI v9)), (2, .int (nI i)), (3, .int (nI j))]) hx hb dX8_compares_130 hl (by decide) rfl (fun ls hl => ?_)
                      refine lv_aload_n hx hb dX8_compares_132 rfl (lv_at hl 2 rfl) ?_
                      refine m_get (ci := 8) (C := RX8) (T := TX8) (n := 35) (v := .ref (adr 23)) hx hb hts inX8_ hown hK rfl (hM.cel (by omega) (show (mw ac adr sf (va_up af 23 Ty)) 0 = .inr (8, mfs adr sf) from rfl)) 34 (by decide) (hts _ (by decide +kernel)) rfl dX8_compares_133 ?_
                      refine lv_bipush (v := 9) hx hb dX8_compares_136 (by decide) ?_
                      refine lv_iload_n hx hb dX8_compares_138 rfl (lv_at hl 4 rfl) ?_
                      refine lv_imul hx hb dX8_compares_139 ?_
                      refine m_top (show (9 * (nI i)) = nI (i * 9) from by rw [show (9 : Int32) = nI 9 from rfl, pk_mul, Nat.mul_comm]) ?_
                      refine lv_iload_n hx hb dX8_compares_140 rfl (lv_at hl 5 rfl) ?_
                      refine lv_iadd hx hb dX8_compares_141 ?_
                      refine m_top (show ((nI (i * 9)) + (nI j)) = nI (i * 9 + j) from nI_add _ _) ?_
                      refine lv_iload hx hb dX8_compares_142 (lv_at hl 0 rfl) ?_
                      refine m_top (show (nI (min (min (ed f (fun j => nI (sw v9 j)) (i - 1) j) (ed f (fun j => nI (sw v9 j)) i (j - 1)) + 1) (ed f (fun j => nI (sw v9 j)) (i - 1) (j - 1) + 1)) : Int32) = nI (ed f (fun j => nI (sw v9 j)) i j) from congrArg nI (by first | exact edz z9 | exact edm hi0 hj0 (if_pos dd_).symm | exact edm hi0 hj0 (if_neg dd_).symm)) ?_
                      refine m_iast hx hb hK hM hS 23 (by omega) (show (mw ac adr sf (va_up af 23 Ty)) 23 = .inl (ac 0, 81, .inl Ty) from rfl) (vp_in_nI (by omega) (by decide)) dX8_compares_144 (fun H locs hM hS => ?_)
                      have ef_ : (upd Ty (nI (i * 9 + j)).toNatClampNeg (nI (ed f (fun j => nI (sw v9 j)) i j))) = upd Ty (i * 9 + j) (nI (ed f (fun j => nI (sw v9 j)) i j)) := by rw [nI_clamp (by omega)]
                      rw [ef_] at hM
                      clear ef_
                      have hM := MW.marr (a1 := (va_up af 23 (upd Ty (i * 9 + j) (nI (ed f (fun j => nI (sw v9 j)) i j))))) hM (by decide) rfl rfl (fun j9 hj9 => by simp only [va_up, if_neg hj9])
                      refine lv_iinc (v := nI (j + 1)) (lv' := [(3, .int (nI (j + 1))), (4, .int (nI (min (min (ed f (fun j => nI (sw v9 j)) (i - 1) j) (ed f (fun j => nI (sw v9 j)) i (j - 1)) + 1) (ed f (fun j => nI (sw v9 j)) (i - 1) (j - 1) + 1)))), (5, .int 0), (0, .ref (adr 0)), (1, .int (nI v9)), (2, .int (nI i))]) hx hb dX8_compares_145 hl (k := 5) rfl (nI_1 _) (by decide) rfl (fun ls hl => ?_)
                      refine lv_goto (tgt := 12) hx hb dX8_compares_148 (by decide) ?_
                      exact ih12 (j + 1) (upd Ty (i * 9 + j) (nI (ed f (fun j => nI (sw v9 j)) i j))) (by omega) (by omega) (edT_put hU (by omega) hj8 (by omega) rfl) _ _ (MW.cg hM (fun _ => rfl) (fun j9 => if q0_ : j9 = 23 then (by subst q0_; rfl) else (by first | rfl | simp only [va_up, if_neg q0_]))) hS ls (lv_sub hl [3, 4, 5, 0] rfl)
                    · exact absurd c118 (by decide)
                  · have dd_ : f (i - 1) = (fun j => nI (sw v9 j)) (j - 1) := c56
                    refine lv_iconst (v := 1) hx hb dX8_compares_59 (by decide) ?_
                    refine lv_goto (tgt := 64) hx hb dX8_compares_60 (by decide) ?_
                    refine lv_istore (lv' := [(5, .int 1), (4, .int (nI (i + j))), (0, .ref (adr 0)), (1, .int (nI v9)), (2, .int (nI i)), (3, .int (nI j))]) hx hb dX8_compares_64 hl (by decide) rfl (fun ls hl => ?_)
                    refine lv_aload_n hx hb dX8_compares_66 rfl (lv_at hl 2 rfl) ?_
                    refine m_get (ci := 8) (C := RX8) (T := TX8) (n := 35) (v := .ref (adr 23)) hx hb hts inX8_ hown hK rfl (hM.cel (by omega) (show (mw ac adr sf (va_up af 23 Ty)) 0 = .inr (8, mfs adr sf) from rfl)) 34 (by decide) (hts _ (by decide +kernel)) rfl dX8_compares_67 ?_
                    refine lv_bipush (v := 9) hx hb dX8_compares_70 (by decide) ?_
                    refine lv_iload_n hx hb dX8_compares_72 rfl (lv_at hl 4 rfl) ?_
                    refine lv_iconst (v := 1) hx hb dX8_compares_73 (by decide) ?_
                    refine lv_isub hx hb dX8_compares_74 ?_
                    refine m_top (show ((nI i) - 1) = nI (i - 1) from (pk_sub (a := i) (b := 1) (by omega)).trans (congrArg nI (by omega))) ?_
                    refine lv_imul hx hb dX8_compares_75 ?_
                    refine m_top (show (9 * (nI (i - 1))) = nI ((i - 1) * 9) from by rw [show (9 : Int32) = nI 9 from rfl, pk_mul, Nat.mul_comm]) ?_
                    refine lv_iload_n hx hb dX8_compares_76 rfl (lv_at hl 5 rfl) ?_
                    refine lv_iadd hx hb dX8_compares_77 ?_
                    refine m_top (show ((nI ((i - 1) * 9)) + (nI j)) = nI ((i - 1) * 9 + j) from nI_add _ _) ?_
                    refine m_iald hx hb hK (hM.cel (by omega) (show (mw ac adr sf (va_up af 23 Ty)) 23 = .inl (ac 0, 81, .inl Ty) from rfl)) (vp_in_nI (by omega) (by decide)) dX8_compares_78 ?_
                    refine m_top (show (Ty (nI ((i - 1) * 9 + j)).toNatClampNeg) = nI (ed f (fun j => nI (sw v9 j)) (i - 1) j) from by rw [nI_clamp (by omega)]; exact z2_) ?_
                    refine lv_aload_n hx hb dX8_compares_79 rfl (lv_at hl 2 rfl) ?_
                    refine m_get (ci := 8) (C := RX8) (T := TX8) (n := 35) (v := .ref (adr 23)) hx hb hts inX8_ hown hK rfl (hM.cel (by omega) (show (mw ac adr sf (va_up af 23 Ty)) 0 = .inr (8, mfs adr sf) from rfl)) 34 (by decide) (hts _ (by decide +kernel)) rfl dX8_compares_80 ?_
                    refine lv_bipush (v := 9) hx hb dX8_compares_83 (by decide) ?_
                    refine lv_iload_n hx hb dX8_compares_85 rfl (lv_at hl 4 rfl) ?_
                    refine lv_imul hx hb dX8_compares_86 ?_
                    refine m_top (show (9 * (nI i)) = nI (i * 9) from by rw [show (9 : Int32) = nI 9 from rfl, pk_mul, Nat.mul_comm]) ?_
                    refine lv_iload_n hx hb dX8_compares_87 rfl (lv_at hl 5 rfl) ?_
                    refine lv_iadd hx hb dX8_compares_88 ?_
                    refine m_top (show ((nI (i * 9)) + (nI j)) = nI (i * 9 + j) from nI_add _ _) ?_
                    refine lv_iconst (v := 1) hx hb dX8_compares_89 (by decide) ?_
                    refine lv_isub hx hb dX8_compares_90 ?_
                    refine m_top (show ((nI (i * 9 + j)) - 1) = nI (i * 9 + (j - 1)) from (pk_sub (a := i * 9 + j) (b := 1) (by omega)).trans (congrArg nI (by omega))) ?_
                    refine m_iald hx hb hK (hM.cel (by omega) (show (mw ac adr sf (va_up af 23 Ty)) 23 = .inl (ac 0, 81, .inl Ty) from rfl)) (vp_in_nI (by omega) (by decide)) dX8_compares_91 ?_
                    refine m_top (show (Ty (nI (i * 9 + (j - 1))).toNatClampNeg) = nI (ed f (fun j => nI (sw v9 j)) i (j - 1)) from by rw [nI_clamp (by omega)]; exact z3_) ?_
                    refine r_calli (va_runS (As := [.int (nI (ed f (fun j => nI (sw v9 j)) (i - 1) j)), .int (nI (ed f (fun j => nI (sw v9 j)) i (j - 1)))]) (rest := []) ⟨hx, hb, hml, hown, hts⟩ (k_X8_lesser l D ac _ (ed f (fun j => nI (sw v9 j)) (i - 1) j) (ed f (fun j => nI (sw v9 j)) i (j - 1)) (by omega) (by omega)) (va_cwS 2 hts gX8_compares_X8_lesser rfl rfl rfl (by decide +kernel) ⟨Nat.le_of_ble_eq_true rfl, Nat.le_of_ble_eq_true rfl⟩) (pS hK) rfl rfl hl.1 rfl (lv_room (Nat.le_of_ble_eq_true rfl)) dX8_compares_92 ⟨Nat.le_of_ble_eq_true rfl, Nat.le_of_ble_eq_true rfl⟩) hS (fun rv_6 locs hrv_6 hS => ?_)
                    subst hrv_6
                    refine lv_iconst (v := 1) hx hb dX8_compares_95 (by decide) ?_
                    refine lv_iadd hx hb dX8_compares_96 ?_
                    refine m_top (show ((nI (min (ed f (fun j => nI (sw v9 j)) (i - 1) j) (ed f (fun j => nI (sw v9 j)) i (j - 1)))) + 1) = nI (min (ed f (fun j => nI (sw v9 j)) (i - 1) j) (ed f (fun j => nI (sw v9 j)) i (j - 1)) + 1) from nI_1 _) ?_
                    refine lv_istore (lv' := [(4, .int (nI (min (ed f (fun j => nI (sw v9 j)) (i - 1) j) (ed f (fun j => nI (sw v9 j)) i (j - 1)) + 1))), (5, .int 1), (0, .ref (adr 0)), (1, .int (nI v9)), (2, .int (nI i)), (3, .int (nI j))]) hx hb dX8_compares_97 hl (by decide) rfl (fun ls hl => ?_)
                    refine lv_iload hx hb dX8_compares_99 (lv_at hl 0 rfl) ?_
                    refine lv_aload_n hx hb dX8_compares_101 rfl (lv_at hl 2 rfl) ?_
                    refine m_get (ci := 8) (C := RX8) (T := TX8) (n := 35) (v := .ref (adr 23)) hx hb hts inX8_ hown hK rfl (hM.cel (by omega) (show (mw ac adr sf (va_up af 23 Ty)) 0 = .inr (8, mfs adr sf) from rfl)) 34 (by decide) (hts _ (by decide +kernel)) rfl dX8_compares_102 ?_
                    refine lv_bipush (v := 9) hx hb dX8_compares_105 (by decide) ?_
                    refine lv_iload_n hx hb dX8_compares_107 rfl (lv_at hl 4 rfl) ?_
                    refine lv_iconst (v := 1) hx hb dX8_compares_108 (by decide) ?_
                    refine lv_isub hx hb dX8_compares_109 ?_
                    refine m_top (show ((nI i) - 1) = nI (i - 1) from (pk_sub (a := i) (b := 1) (by omega)).trans (congrArg nI (by omega))) ?_
                    refine lv_imul hx hb dX8_compares_110 ?_
                    refine m_top (show (9 * (nI (i - 1))) = nI ((i - 1) * 9) from by rw [show (9 : Int32) = nI 9 from rfl, pk_mul, Nat.mul_comm]) ?_
                    refine lv_iload_n hx hb dX8_compares_111 rfl (lv_at hl 5 rfl) ?_
                    refine lv_iadd hx hb dX8_compares_112 ?_
                    refine m_top (show ((nI ((i - 1) * 9)) + (nI j)) = nI ((i - 1) * 9 + j) from nI_add _ _) ?_
                    refine lv_iconst (v := 1) hx hb dX8_compares_113 (by decide) ?_
                    refine lv_isub hx hb dX8_compares_114 ?_
                    refine m_top (show ((nI ((i - 1) * 9 + j)) - 1) = nI ((i - 1) * 9 + (j - 1)) from (pk_sub (a := (i - 1) * 9 + j) (b := 1) (by omega)).trans (congrArg nI (by omega))) ?_
                    refine m_iald hx hb hK (hM.cel (by omega) (show (mw ac adr sf (va_up af 23 Ty)) 23 = .inl (ac 0, 81, .inl Ty) from rfl)) (vp_in_nI (by omega) (by decide)) dX8_compares_115 ?_
                    refine m_top (show (Ty (nI ((i - 1) * 9 + (j - 1))).toNatClampNeg) = nI (ed f (fun j => nI (sw v9 j)) (i - 1) (j - 1)) from by rw [nI_clamp (by omega)]; exact z1_) ?_
                    refine lv_iload hx hb dX8_compares_116 (lv_at hl 1 rfl) ?_
                    refine lv_if_eq (tgt := 125) hx hb dX8_compares_118 (by decide) (fun c118 => ?_) (fun c118 => ?_)
                    · exact absurd c118 (by decide)
                    · refine lv_iconst (v := 0) hx hb dX8_compares_121 (by decide) ?_
                      refine lv_goto (tgt := 126) hx hb dX8_compares_122 (by decide) ?_
                      refine lv_iadd hx hb dX8_compares_126 ?_
                      refine m_top (show ((nI (ed f (fun j => nI (sw v9 j)) (i - 1) (j - 1))) + 0) = nI (ed f (fun j => nI (sw v9 j)) (i - 1) (j - 1) + 0) from by first | exact nI_1 _ | exact Int32.add_zero _) ?_
                      refine r_calli (va_runS (As := [.int (nI (min (ed f (fun j => nI (sw v9 j)) (i - 1) j) (ed f (fun j => nI (sw v9 j)) i (j - 1)) + 1)), .int (nI (ed f (fun j => nI (sw v9 j)) (i - 1) (j - 1) + 0))]) (rest := []) ⟨hx, hb, hml, hown, hts⟩ (k_X8_lesser l D ac _ (min (ed f (fun j => nI (sw v9 j)) (i - 1) j) (ed f (fun j => nI (sw v9 j)) i (j - 1)) + 1) (ed f (fun j => nI (sw v9 j)) (i - 1) (j - 1) + 0) (by omega) (by omega)) (va_cwS 2 hts gX8_compares_X8_lesser rfl rfl rfl (by decide +kernel) ⟨Nat.le_of_ble_eq_true rfl, Nat.le_of_ble_eq_true rfl⟩) (pS hK) rfl rfl hl.1 rfl (lv_room (Nat.le_of_ble_eq_true rfl)) dX8_compares_127 ⟨Nat.le_of_ble_eq_true rfl, Nat.le_of_ble_eq_true rfl⟩) hS (fun rv_7 locs hrv_7 hS => ?_)
                      subst hrv_7
                      refine lv_istore (lv' := [(4, .int (nI (min (min (ed f (fun j => nI (sw v9 j)) (i - 1) j) (ed f (fun j => nI (sw v9 j)) i (j - 1)) + 1) (ed f (fun j => nI (sw v9 j)) (i - 1) (j - 1) + 0)))), (5, .int 1), (0, .ref (adr 0)), (1, .int (nI v9)), (2, .int (nI i)), (3, .int (nI j))]) hx hb dX8_compares_130 hl (by decide) rfl (fun ls hl => ?_)
                      refine lv_aload_n hx hb dX8_compares_132 rfl (lv_at hl 2 rfl) ?_
                      refine m_get (ci := 8) (C := RX8) (T := TX8) (n := 35) (v := .ref (adr 23)) hx hb hts inX8_ hown hK rfl (hM.cel (by omega) (show (mw ac adr sf (va_up af 23 Ty)) 0 = .inr (8, mfs adr sf) from rfl)) 34 (by decide) (hts _ (by decide +kernel)) rfl dX8_compares_133 ?_
                      refine lv_bipush (v := 9) hx hb dX8_compares_136 (by decide) ?_
                      refine lv_iload_n hx hb dX8_compares_138 rfl (lv_at hl 4 rfl) ?_
                      refine lv_imul hx hb dX8_compares_139 ?_
                      refine m_top (show (9 * (nI i)) = nI (i * 9) from by rw [show (9 : Int32) = nI 9 from rfl, pk_mul, Nat.mul_comm]) ?_
                      refine lv_iload_n hx hb dX8_compares_140 rfl (lv_at hl 5 rfl) ?_
                      refine lv_iadd hx hb dX8_compares_141 ?_
                      refine m_top (show ((nI (i * 9)) + (nI j)) = nI (i * 9 + j) from nI_add _ _) ?_
                      refine lv_iload hx hb dX8_compares_142 (lv_at hl 0 rfl) ?_
                      refine m_top (show (nI (min (min (ed f (fun j => nI (sw v9 j)) (i - 1) j) (ed f (fun j => nI (sw v9 j)) i (j - 1)) + 1) (ed f (fun j => nI (sw v9 j)) (i - 1) (j - 1) + 0)) : Int32) = nI (ed f (fun j => nI (sw v9 j)) i j) from congrArg nI (by first | exact edz z9 | exact edm hi0 hj0 (if_pos dd_).symm | exact edm hi0 hj0 (if_neg dd_).symm)) ?_
                      refine m_iast hx hb hK hM hS 23 (by omega) (show (mw ac adr sf (va_up af 23 Ty)) 23 = .inl (ac 0, 81, .inl Ty) from rfl) (vp_in_nI (by omega) (by decide)) dX8_compares_144 (fun H locs hM hS => ?_)
                      have ef_ : (upd Ty (nI (i * 9 + j)).toNatClampNeg (nI (ed f (fun j => nI (sw v9 j)) i j))) = upd Ty (i * 9 + j) (nI (ed f (fun j => nI (sw v9 j)) i j)) := by rw [nI_clamp (by omega)]
                      rw [ef_] at hM
                      clear ef_
                      have hM := MW.marr (a1 := (va_up af 23 (upd Ty (i * 9 + j) (nI (ed f (fun j => nI (sw v9 j)) i j))))) hM (by decide) rfl rfl (fun j9 hj9 => by simp only [va_up, if_neg hj9])
                      refine lv_iinc (v := nI (j + 1)) (lv' := [(3, .int (nI (j + 1))), (4, .int (nI (min (min (ed f (fun j => nI (sw v9 j)) (i - 1) j) (ed f (fun j => nI (sw v9 j)) i (j - 1)) + 1) (ed f (fun j => nI (sw v9 j)) (i - 1) (j - 1) + 0)))), (5, .int 1), (0, .ref (adr 0)), (1, .int (nI v9)), (2, .int (nI i))]) hx hb dX8_compares_145 hl (k := 5) rfl (nI_1 _) (by decide) rfl (fun ls hl => ?_)
                      refine lv_goto (tgt := 12) hx hb dX8_compares_148 (by decide) ?_
                      exact ih12 (j + 1) (upd Ty (i * 9 + j) (nI (ed f (fun j => nI (sw v9 j)) i j))) (by omega) (by omega) (edT_put hU (by omega) hj8 (by omega) rfl) _ _ (MW.cg hM (fun _ => rfl) (fun j9 => if q0_ : j9 = 23 then (by subst q0_; rfl) else (by first | rfl | simp only [va_up, if_neg q0_]))) hS ls (lv_sub hl [3, 4, 5, 0] rfl)
        exact L12 _ 0 Tz (Nat.lt_succ_self _) (Nat.zero_le _) hT _ _ (MW.cg hM (fun _ => rfl) (fun j9 => if q0_ : j9 = 23 then (by subst q0_; rfl) else (by first | rfl | simp only [va_up, if_neg q0_]))) hS ls (lv_sub hl [1, 2, 3, 0] rfl)
  exact L2 _ 0 (af 23) (Nat.lt_succ_self _) (Nat.zero_le _) edT_0 _ _ (MW.cg hM (fun _ => rfl) (fun j9 => if q0_ : j9 = 23 then (by subst q0_; rfl) else (by first | rfl | simp only [va_up, if_neg q0_]))) hS ls (lv_sub hl [1, 2, 0] rfl)
set_option maxHeartbeats 4000000 in
set_option maxRecDepth 100000 in
/-- X8_likenessOf -/
theorem k_X8_likenessOf (l : Launch) (D : va_G) (ac : Nat → ClassId) (H : Heap) (A : Nat → Prop) (adr : Nat → Nat) (sf : Nat → Int32) (af : Nat → Nat → Int32) (hM : MW D A 24 adr (mw ac adr sf af) H) (ns : Nat) (sc sn : Nat → Nat) (sw : Nat → Nat → Nat) (sb : Nat → Nat → Int32) (hs : MSen sf af ns sc sn sw sb) (n : Nat) (f : Nat → Int32) (hw : MRow sf af n f) (v9 : Nat) (hi : v9 < ns) : WRi l yX8_likenessOf wsX8_likenessOf ({ frames := 2, cells := 0, slots := 0, locals := 46 }) [.ref (adr 0), .int (nI v9)] D ac H A 24 adr (fun r w1 => r = lkM n f sn sw v9 ∧ ∃ T1 : Nat → Int32, w1 = mw ac adr sf (va_up af 23 T1)) := by
  refine Met.ofW (cc := cX8_likenessOf) (maxL := 3) (ret := (some .int)) (by decide) rfl ?_
  intro p e s m args below meth c s₁ B hml hv
  obtain ⟨hargs, hsz, hK⟩ := hv
  have hx := B.exec
  have hb := B.bytes
  have hr := B.returns
  have hts := atoms_spec (ws := wsX8_likenessOf) B.pre
  have hown : s.vm.findClass RX8 = some m.cls := findClass_of_methodNamed B.named
  have hlocks := B.notSynchronized
  subst hsz
  have inX8_ : ∀ w ∈ wsX80, w ∈ wsX8_likenessOf := by decide +kernel
  have hS : va_S A s.heap s.heap [] := va_S.rf
  have hl := lv_entry ([.ref (adr 0), .int (nI v9)]) (n := 3) (Nat.le_of_ble_eq_true rfl)
  have hen := lg_entry_eq m [.ref (adr 0), .int (nI v9)] 3
  rw [← hargs] at hen
  rw [hen]
  generalize (lg_sl ([.ref (adr 0), .int (nI v9)]) ++ List.replicate (3 - (lg_sl ([.ref (adr 0), .int (nI v9)])).length) Slot.unset).toArray = ls at hl ⊢
  have hl : lv_has ls 3 [(0, .ref (adr 0)), (1, .int (nI v9))] := hl
  obtain ⟨Q0, hQ0⟩ : ∃ z, z = MQ below (va_Qi (fun r w1 => r = lkM n f sn sw v9 ∧ ∃ T1 : Nat → Int32, w1 = mw ac adr sf (va_up af 23 T1)) (fun c t => MW D A 24 adr c t.heap) A) args s 0 0 A := ⟨_, rfl⟩
  rw [← hQ0]
  obtain ⟨q1_, q2_, ⟨q3_, q4_, q5_⟩, q6_⟩ := hs.2.2 v9 hi
  have q7_ := hs.2.1
  have w1_ := hw.1
  have w3_ := hw.2.1
  refine lv_aload_n hx hb dX8_likenessOf_0 rfl (lv_at hl 0 rfl) ?_
  refine lv_iload_n hx hb dX8_likenessOf_1 rfl (lv_at hl 1 rfl) ?_
  refine w_callv (va_runV (As := [.int (nI v9)]) (rest := []) ⟨hx, hb, hml, hown, hts⟩ (k_X8_compares l D ac _ A adr sf af hM ns sc sn sw sb (hs.t rfl rfl rfl rfl rfl) n f (hw.t rfl rfl) v9 (by omega)) (cwV 1 hts gX8_likenessOf_X8_compares rfl rfl rfl (by decide +kernel) ⟨Nat.le_of_ble_eq_true rfl, Nat.le_of_ble_eq_true rfl⟩) (pV hK (ci := 8) rfl (hM.cel (by omega) (show (mw ac adr sf af) 0 = .inr (8, mfs adr sf) from rfl))) rfl rfl hl.1 rfl (lv_room (Nat.le_of_ble_eq_true rfl)) dX8_likenessOf_2 ⟨Nat.le_of_ble_eq_true rfl, Nat.le_of_ble_eq_true rfl⟩) hS (fun w_3 H locs hw_3 hM hS => ?_)
  obtain ⟨T_1, he_4, eT_1⟩ := hw_3
  rw [he_4] at hM
  have hM := (MW.cg (s1 := sf) (a1 := (va_up af 23 T_1)) hM (fun _ => rfl) (fun j9 => if q0_ : j9 = 23 then (by subst q0_; rfl) else (by first | rfl | simp only [va_up, if_neg q0_])))
  refine lv_aload_n hx hb dX8_likenessOf_5 rfl (lv_at hl 0 rfl) ?_
  refine m_get (ci := 8) (C := RX8) (T := TX8) (n := 35) (v := .int (sf 11)) hx hb hts inX8_ hown hK rfl (hM.cel (by omega) (show (mw ac adr sf (va_up af 23 T_1)) 0 = .inr (8, mfs adr sf) from rfl)) 32 (by decide) (hts _ (by decide +kernel)) rfl dX8_likenessOf_6 ?_
  refine m_top (show (sf 11) = nI n from w1_) ?_
  refine lv_aload_n hx hb dX8_likenessOf_9 rfl (lv_at hl 0 rfl) ?_
  refine m_get (ci := 8) (C := RX8) (T := TX8) (n := 35) (v := .ref (adr 3)) hx hb hts inX8_ hown hK rfl (hM.cel (by omega) (show (mw ac adr sf (va_up af 23 T_1)) 0 = .inr (8, mfs adr sf) from rfl)) 8 (by decide) (hts _ (by decide +kernel)) rfl dX8_likenessOf_10 ?_
  refine lv_iload_n hx hb dX8_likenessOf_13 rfl (lv_at hl 1 rfl) ?_
  refine m_iald hx hb hK (hM.cel (by omega) (show (mw ac adr sf (va_up af 23 T_1)) 3 = .inl (ac 0, 40, .inl (af 3)) from rfl)) (vp_in_nI (by omega) (by decide)) dX8_likenessOf_14 ?_
  refine m_top (show ((af 3) (nI v9).toNatClampNeg) = nI (sn v9) from by rw [nI_clamp (by omega)]; exact q2_) ?_
  refine lv_icmp_le (tgt := 25) hx hb dX8_likenessOf_15 (by decide) (fun c15 => ?_) (fun c15 => ?_)
  · have m9 : max n (sn v9) = sn v9 := by have := le_le c15 (by omega) (by omega); omega
    refine lv_aload_n hx hb dX8_likenessOf_25 rfl (lv_at hl 0 rfl) ?_
    refine m_get (ci := 8) (C := RX8) (T := TX8) (n := 35) (v := .ref (adr 3)) hx hb hts inX8_ hown hK rfl (hM.cel (by omega) (show (mw ac adr sf (va_up af 23 T_1)) 0 = .inr (8, mfs adr sf) from rfl)) 8 (by decide) (hts _ (by decide +kernel)) rfl dX8_likenessOf_26 ?_
    refine lv_iload_n hx hb dX8_likenessOf_29 rfl (lv_at hl 1 rfl) ?_
    refine m_iald hx hb hK (hM.cel (by omega) (show (mw ac adr sf (va_up af 23 T_1)) 3 = .inl (ac 0, 40, .inl (af 3)) from rfl)) (vp_in_nI (by omega) (by decide)) dX8_likenessOf_30 ?_
    refine m_top (show ((af 3) (nI v9).toNatClampNeg) = nI (sn v9) from by rw [nI_clamp (by omega)]; exact q2_) ?_
    refine m_top (show (nI (sn v9) : Int32) = nI (max n (sn v9)) from congrArg nI m9.symm) ?_
    refine lv_istore_n (lv' := [(2, .int (nI (max n (sn v9)))), (0, .ref (adr 0)), (1, .int (nI v9))]) hx hb dX8_likenessOf_31 rfl hl (by decide) rfl (fun ls hl => ?_)
    refine lv_bipush (v := 100) hx hb dX8_likenessOf_32 (by decide) ?_
    refine lv_bipush (v := 100) hx hb dX8_likenessOf_34 (by decide) ?_
    refine lv_aload_n hx hb dX8_likenessOf_36 rfl (lv_at hl 1 rfl) ?_
    refine m_get (ci := 8) (C := RX8) (T := TX8) (n := 35) (v := .ref (adr 23)) hx hb hts inX8_ hown hK rfl (hM.cel (by omega) (show (mw ac adr sf (va_up af 23 T_1)) 0 = .inr (8, mfs adr sf) from rfl)) 34 (by decide) (hts _ (by decide +kernel)) rfl dX8_likenessOf_37 ?_
    refine lv_bipush (v := 9) hx hb dX8_likenessOf_40 (by decide) ?_
    refine lv_aload_n hx hb dX8_likenessOf_42 rfl (lv_at hl 1 rfl) ?_
    refine m_get (ci := 8) (C := RX8) (T := TX8) (n := 35) (v := .int (sf 11)) hx hb hts inX8_ hown hK rfl (hM.cel (by omega) (show (mw ac adr sf (va_up af 23 T_1)) 0 = .inr (8, mfs adr sf) from rfl)) 32 (by decide) (hts _ (by decide +kernel)) rfl dX8_likenessOf_43 ?_
    refine m_top (show (sf 11) = nI n from w1_) ?_
    refine lv_imul hx hb dX8_likenessOf_46 ?_
    refine m_top (show (9 * (nI n)) = nI (n * 9) from by rw [show (9 : Int32) = nI 9 from rfl, pk_mul, Nat.mul_comm]) ?_
    refine lv_aload_n hx hb dX8_likenessOf_47 rfl (lv_at hl 1 rfl) ?_
    refine m_get (ci := 8) (C := RX8) (T := TX8) (n := 35) (v := .ref (adr 3)) hx hb hts inX8_ hown hK rfl (hM.cel (by omega) (show (mw ac adr sf (va_up af 23 T_1)) 0 = .inr (8, mfs adr sf) from rfl)) 8 (by decide) (hts _ (by decide +kernel)) rfl dX8_likenessOf_48 ?_
    refine lv_iload_n hx hb dX8_likenessOf_51 rfl (lv_at hl 2 rfl) ?_
    refine m_iald hx hb hK (hM.cel (by omega) (show (mw ac adr sf (va_up af 23 T_1)) 3 = .inl (ac 0, 40, .inl (af 3)) from rfl)) (vp_in_nI (by omega) (by decide)) dX8_likenessOf_52 ?_
    refine m_top (show ((af 3) (nI v9).toNatClampNeg) = nI (sn v9) from by rw [nI_clamp (by omega)]; exact q2_) ?_
    refine lv_iadd hx hb dX8_likenessOf_53 ?_
    refine m_top (show ((nI (n * 9)) + (nI (sn v9))) = nI (n * 9 + sn v9) from nI_add _ _) ?_
    refine m_iald hx hb hK (hM.cel (by omega) (show (mw ac adr sf (va_up af 23 T_1)) 23 = .inl (ac 0, 81, .inl T_1) from rfl)) (vp_in_nI (by omega) (by decide)) dX8_likenessOf_54 ?_
    refine m_top (show (T_1 (nI (n * 9 + sn v9)).toNatClampNeg) = nI (ed f (fun j => nI (sw v9 j)) n (sn v9)) from by rw [nI_clamp (by omega)]; exact eT_1 n (sn v9) (Nat.le_refl _) (Nat.le_refl _)) ?_
    refine lv_imul hx hb dX8_likenessOf_55 ?_
    refine lv_iload_n hx hb dX8_likenessOf_56 rfl (lv_at hl 0 rfl) ?_
    refine lv_iadd hx hb dX8_likenessOf_57 ?_
    refine lv_iconst (v := 1) hx hb dX8_likenessOf_58 (by decide) ?_
    refine lv_isub hx hb dX8_likenessOf_59 ?_
    refine lv_iload_n hx hb dX8_likenessOf_60 rfl (lv_at hl 0 rfl) ?_
    refine lv_idiv hx hb dX8_likenessOf_61 (nI_ne0 (by omega) (by omega)) ?_
    refine lv_isub hx hb dX8_likenessOf_62 ?_
    rw [hQ0]
    exact e_wi hx hb hlocks hr dX8_likenessOf_63 hM hS (⟨rfl, T_1, rfl⟩)
  · have m9 : max n (sn v9) = n := by have := nle_lt c15 (by omega) (by omega); omega
    refine lv_aload_n hx hb dX8_likenessOf_18 rfl (lv_at hl 0 rfl) ?_
    refine m_get (ci := 8) (C := RX8) (T := TX8) (n := 35) (v := .int (sf 11)) hx hb hts inX8_ hown hK rfl (hM.cel (by omega) (show (mw ac adr sf (va_up af 23 T_1)) 0 = .inr (8, mfs adr sf) from rfl)) 32 (by decide) (hts _ (by decide +kernel)) rfl dX8_likenessOf_19 ?_
    refine m_top (show (sf 11) = nI n from w1_) ?_
    refine lv_goto (tgt := 31) hx hb dX8_likenessOf_22 (by decide) ?_
    refine m_top (show (nI n : Int32) = nI (max n (sn v9)) from congrArg nI m9.symm) ?_
    refine lv_istore_n (lv' := [(2, .int (nI (max n (sn v9)))), (0, .ref (adr 0)), (1, .int (nI v9))]) hx hb dX8_likenessOf_31 rfl hl (by decide) rfl (fun ls hl => ?_)
    refine lv_bipush (v := 100) hx hb dX8_likenessOf_32 (by decide) ?_
    refine lv_bipush (v := 100) hx hb dX8_likenessOf_34 (by decide) ?_
    refine lv_aload_n hx hb dX8_likenessOf_36 rfl (lv_at hl 1 rfl) ?_
    refine m_get (ci := 8) (C := RX8) (T := TX8) (n := 35) (v := .ref (adr 23)) hx hb hts inX8_ hown hK rfl (hM.cel (by omega) (show (mw ac adr sf (va_up af 23 T_1)) 0 = .inr (8, mfs adr sf) from rfl)) 34 (by decide) (hts _ (by decide +kernel)) rfl dX8_likenessOf_37 ?_
    refine lv_bipush (v := 9) hx hb dX8_likenessOf_40 (by decide) ?_
    refine lv_aload_n hx hb dX8_likenessOf_42 rfl (lv_at hl 1 rfl) ?_
    refine m_get (ci := 8) (C := RX8) (T := TX8) (n := 35) (v := .int (sf 11)) hx hb hts inX8_ hown hK rfl (hM.cel (by omega) (show (mw ac adr sf (va_up af 23 T_1)) 0 = .inr (8, mfs adr sf) from rfl)) 32 (by decide) (hts _ (by decide +kernel)) rfl dX8_likenessOf_43 ?_
    refine m_top (show (sf 11) = nI n from w1_) ?_
    refine lv_imul hx hb dX8_likenessOf_46 ?_
    refine m_top (show (9 * (nI n)) = nI (n * 9) from by rw [show (9 : Int32) = nI 9 from rfl, pk_mul, Nat.mul_comm]) ?_
    refine lv_aload_n hx hb dX8_likenessOf_47 rfl (lv_at hl 1 rfl) ?_
    refine m_get (ci := 8) (C := RX8) (T := TX8) (n := 35) (v := .ref (adr 3)) hx hb hts inX8_ hown hK rfl (hM.cel (by omega) (show (mw ac adr sf (va_up af 23 T_1)) 0 = .inr (8, mfs adr sf) from rfl)) 8 (by decide) (hts _ (by decide +kernel)) rfl dX8_likenessOf_48 ?_
    refine lv_iload_n hx hb dX8_likenessOf_51 rfl (lv_at hl 2 rfl) ?_
    refine m_iald hx hb hK (hM.cel (by omega) (show (mw ac adr sf (va_up af 23 T_1)) 3 = .inl (ac 0, 40, .inl (af 3)) from rfl)) (vp_in_nI (by omega) (by decide)) dX8_likenessOf_52 ?_
    refine m_top (show ((af 3) (nI v9).toNatClampNeg) = nI (sn v9) from by rw [nI_clamp (by omega)]; exact q2_) ?_
    refine lv_iadd hx hb dX8_likenessOf_53 ?_
    refine m_top (show ((nI (n * 9)) + (nI (sn v9))) = nI (n * 9 + sn v9) from nI_add _ _) ?_
    refine m_iald hx hb hK (hM.cel (by omega) (show (mw ac adr sf (va_up af 23 T_1)) 23 = .inl (ac 0, 81, .inl T_1) from rfl)) (vp_in_nI (by omega) (by decide)) dX8_likenessOf_54 ?_
    refine m_top (show (T_1 (nI (n * 9 + sn v9)).toNatClampNeg) = nI (ed f (fun j => nI (sw v9 j)) n (sn v9)) from by rw [nI_clamp (by omega)]; exact eT_1 n (sn v9) (Nat.le_refl _) (Nat.le_refl _)) ?_
    refine lv_imul hx hb dX8_likenessOf_55 ?_
    refine lv_iload_n hx hb dX8_likenessOf_56 rfl (lv_at hl 0 rfl) ?_
    refine lv_iadd hx hb dX8_likenessOf_57 ?_
    refine lv_iconst (v := 1) hx hb dX8_likenessOf_58 (by decide) ?_
    refine lv_isub hx hb dX8_likenessOf_59 ?_
    refine lv_iload_n hx hb dX8_likenessOf_60 rfl (lv_at hl 0 rfl) ?_
    refine lv_idiv hx hb dX8_likenessOf_61 (nI_ne0 (by omega) (by omega)) ?_
    refine lv_isub hx hb dX8_likenessOf_62 ?_
    rw [hQ0]
    exact e_wi hx hb hlocks hr dX8_likenessOf_63 hM hS (⟨rfl, T_1, rfl⟩)
set_option maxHeartbeats 4000000 in
set_option maxRecDepth 100000 in
/-- X8_bestOf -/
theorem k_X8_bestOf (l : Launch) (D : va_G) (ac : Nat → ClassId) (H : Heap) (A : Nat → Prop) (adr : Nat → Nat) (sf : Nat → Int32) (af : Nat → Nat → Int32) (hM : MW D A 24 adr (mw ac adr sf af) H) (ns : Nat) (sc sn : Nat → Nat) (sw : Nat → Nat → Nat) (sb : Nat → Nat → Int32) (hs : MSen sf af ns sc sn sw sb) (n : Nat) (f : Nat → Int32) (hw : MRow sf af n f) (le pr ra : Int32) (hp : MPri sf le pr ra) (cl : Int32) : WRi l yX8_bestOf wsX8_bestOf ({ frames := 3, cells := 0, slots := 0, locals := 68 }) [.ref (adr 0), .int cl] D ac H A 24 adr (fun r w1 => r = (mbs (af 19) (lkM n f sn sw) (owM sc cl) le ns).1 ∧ ∃ T1 : Nat → Int32, w1 = mw ac adr sf (va_up af 23 T1)) := by
  refine Met.ofW (cc := cX8_bestOf) (maxL := 8) (ret := (some .int)) (by decide) rfl ?_
  intro p e s m args below meth c s₁ B hml hv
  obtain ⟨hargs, hsz, hK⟩ := hv
  have hx := B.exec
  have hb := B.bytes
  have hr := B.returns
  have hts := atoms_spec (ws := wsX8_bestOf) B.pre
  have hown : s.vm.findClass RX8 = some m.cls := findClass_of_methodNamed B.named
  have hlocks := B.notSynchronized
  subst hsz
  have inX8_ : ∀ w ∈ wsX80, w ∈ wsX8_bestOf := by decide +kernel
  have hS : va_S A s.heap s.heap [] := va_S.rf
  have hl := lv_entry ([.ref (adr 0), .int cl]) (n := 8) (Nat.le_of_ble_eq_true rfl)
  have hen := lg_entry_eq m [.ref (adr 0), .int cl] 8
  rw [← hargs] at hen
  rw [hen]
  generalize (lg_sl ([.ref (adr 0), .int cl]) ++ List.replicate (8 - (lg_sl ([.ref (adr 0), .int cl])).length) Slot.unset).toArray = ls at hl ⊢
  have hl : lv_has ls 8 [(0, .ref (adr 0)), (1, .int cl)] := hl
  obtain ⟨Q0, hQ0⟩ : ∃ z, z = MQ below (va_Qi (fun r w1 => r = (mbs (af 19) (lkM n f sn sw) (owM sc cl) le ns).1 ∧ ∃ T1 : Nat → Int32, w1 = mw ac adr sf (va_up af 23 T1)) (fun c t => MW D A 24 adr c t.heap) A) args s 0 0 A := ⟨_, rfl⟩
  rw [← hQ0]
  refine lv_iconst (v := (-1)) hx hb dX8_bestOf_0 (by decide) ?_
  refine lv_istore_n (lv' := [(2, .int (-1)), (0, .ref (adr 0)), (1, .int cl)]) hx hb dX8_bestOf_1 rfl hl (by decide) rfl (fun ls hl => ?_)
  refine lv_iconst (v := 0) hx hb dX8_bestOf_2 (by decide) ?_
  refine lv_istore_n (lv' := [(3, .int 0), (2, .int (-1)), (0, .ref (adr 0)), (1, .int cl)]) hx hb dX8_bestOf_3 rfl hl (by decide) rfl (fun ls hl => ?_)
  refine lv_iconst (v := 0) hx hb dX8_bestOf_4 (by decide) ?_
  refine lv_istore (lv' := [(4, .int 0), (3, .int 0), (2, .int (-1)), (0, .ref (adr 0)), (1, .int cl)]) hx hb dX8_bestOf_5 hl (by decide) rfl (fun ls hl => ?_)
  have L7 : ∀ (k9 : Nat) (i : Nat) (Tz : Nat → Int32) (hk : ns - i < k9) (hi : i ≤ ns) (H : Heap) (locs : List Loc) (hM : MW D A 24 adr (mw ac adr sf (va_up af 23 Tz)) H) (hS : va_S A s.heap H locs) (ls : Array Slot) (hl : lv_has ls 8 [(0, .ref (adr 0)), (1, .int cl), (2, .int ((mbs (af 19) (lkM n f sn sw) (owM sc cl) le i).1)), (3, .int ((mbs (af 19) (lkM n f sn sw) (owM sc cl) le i).2)), (4, .int (nI i))]), W p l e (headSpec wsX8_bestOf ({ frames := 3, cells := 0, slots := 0, locals := 68 })).room s m args below meth c H locs 0 0 Q0 (F0 m 7 ls []) := by
    intro k9
    induction k9 with
    | zero => intro i Tz hk hi H locs hM hS ls hl; exact absurd hk (Nat.not_lt_zero _)
    | succ k9 ih7 =>
      intro i Tz hk hi H locs hM hS ls hl
      refine lv_iload hx hb dX8_bestOf_7 (lv_at hl 4 rfl) ?_
      refine lv_aload_n hx hb dX8_bestOf_9 rfl (lv_at hl 0 rfl) ?_
      refine m_get (ci := 8) (C := RX8) (T := TX8) (n := 35) (v := .int (sf 5)) hx hb hts inX8_ hown hK rfl (hM.cel (by omega) (show (mw ac adr sf (va_up af 23 Tz)) 0 = .inr (8, mfs adr sf) from rfl)) 6 (by decide) (hts _ (by decide +kernel)) rfl dX8_bestOf_10 ?_
      refine m_top (show (sf 5) = nI ns from hs.1) ?_
      refine lv_icmp_ge (tgt := 113) hx hb dX8_bestOf_13 (by decide) (fun c13 => ?_) (fun c13 => ?_)
      · have h8 := hs.2.1
        have e9 : i = ns := by have := le_le c13 (by omega) (by omega); omega
        refine lv_iload_n hx hb dX8_bestOf_113 rfl (lv_at hl 2 rfl) ?_
        rw [hQ0]
        exact e_wi hx hb hlocks hr dX8_bestOf_114 hM hS (⟨by rw [e9], Tz, rfl⟩)
      · have h8 := hs.2.1
        have hin : i < ns := nle_lt c13 (by omega) (by omega)
        obtain ⟨q1_, q2_, ⟨q3_, q4_, q5_⟩, q6_⟩ := hs.2.2 i hin
        refine lv_aload_n hx hb dX8_bestOf_16 rfl (lv_at hl 0 rfl) ?_
        refine m_get (ci := 8) (C := RX8) (T := TX8) (n := 35) (v := .ref (adr 19)) hx hb hts inX8_ hown hK rfl (hM.cel (by omega) (show (mw ac adr sf (va_up af 23 Tz)) 0 = .inr (8, mfs adr sf) from rfl)) 28 (by decide) (hts _ (by decide +kernel)) rfl dX8_bestOf_17 ?_
        refine lv_iload hx hb dX8_bestOf_20 (lv_at hl 4 rfl) ?_
        refine m_iald hx hb hK (hM.cel (by omega) (show (mw ac adr sf (va_up af 23 Tz)) 19 = .inl (ac 0, 40, .inl (af 19)) from rfl)) (vp_in_nI (by omega) (by decide)) dX8_bestOf_22 ?_
        refine m_top (show ((af 19) (nI i).toNatClampNeg) = af 19 i from by rw [nI_clamp (by omega)]) ?_
        refine lv_if_le (tgt := 30) hx hb dX8_bestOf_23 (by decide) (fun c23 => ?_) (fun c23 => ?_)
        · refine lv_aload_n hx hb dX8_bestOf_30 rfl (lv_at hl 0 rfl) ?_
          refine lv_iload hx hb dX8_bestOf_31 (lv_at hl 4 rfl) ?_
          refine w_calli (va_runV (As := [.int (nI i)]) (rest := []) ⟨hx, hb, hml, hown, hts⟩ (k_X8_likenessOf l D ac _ A adr sf (va_up af 23 Tz) hM ns sc sn sw sb (hs.t rfl rfl rfl rfl rfl) n f (hw.t rfl rfl) i (by omega)) (cwV 1 hts gX8_bestOf_X8_likenessOf rfl rfl rfl (by decide +kernel) ⟨Nat.le_of_ble_eq_true rfl, Nat.le_of_ble_eq_true rfl⟩) (pV hK (ci := 8) rfl (hM.cel (by omega) (show (mw ac adr sf (va_up af 23 Tz)) 0 = .inr (8, mfs adr sf) from rfl))) rfl rfl hl.1 rfl (lv_room (Nat.le_of_ble_eq_true rfl)) dX8_bestOf_33 ⟨Nat.le_of_ble_eq_true rfl, Nat.le_of_ble_eq_true rfl⟩) hS (fun rv_2 w_3 H locs hw_3 hM hS => ?_)
          obtain ⟨hrv_2, T_1, he_4⟩ := hw_3
          rw [he_4] at hM
          have hM := (MW.cg (s1 := sf) (a1 := (va_up af 23 T_1)) hM (fun _ => rfl) (fun j9 => if q0_ : j9 = 23 then (by subst q0_; rfl) else (by first | rfl | simp only [va_up, if_neg q0_])))
          subst hrv_2
          refine m_top (show (lkM n f sn sw i : Int32) = mit (af 19) (lkM n f sn sw) i from by first | exact (mit_y c23).symm | exact (mit_n c23).symm) ?_
          refine lv_istore (lv' := [(5, .int (mit (af 19) (lkM n f sn sw) i)), (0, .ref (adr 0)), (1, .int cl), (2, .int ((mbs (af 19) (lkM n f sn sw) (owM sc cl) le i).1)), (3, .int ((mbs (af 19) (lkM n f sn sw) (owM sc cl) le i).2)), (4, .int (nI i))]) hx hb dX8_bestOf_36 hl (by decide) rfl (fun ls hl => ?_)
          refine lv_iconst (v := 2) hx hb dX8_bestOf_38 (by decide) ?_
          refine lv_iload hx hb dX8_bestOf_39 (lv_at hl 0 rfl) ?_
          refine lv_imul hx hb dX8_bestOf_41 ?_
          refine lv_aload_n hx hb dX8_bestOf_42 rfl (lv_at hl 1 rfl) ?_
          refine m_get (ci := 8) (C := RX8) (T := TX8) (n := 35) (v := .ref (adr 2)) hx hb hts inX8_ hown hK rfl (hM.cel (by omega) (show (mw ac adr sf (va_up af 23 T_1)) 0 = .inr (8, mfs adr sf) from rfl)) 7 (by decide) (hts _ (by decide +kernel)) rfl dX8_bestOf_43 ?_
          refine lv_iload hx hb dX8_bestOf_46 (lv_at hl 5 rfl) ?_
          refine m_iald hx hb hK (hM.cel (by omega) (show (mw ac adr sf (va_up af 23 T_1)) 2 = .inl (ac 0, 40, .inl (af 2)) from rfl)) (vp_in_nI (by omega) (by decide)) dX8_bestOf_48 ?_
          refine m_top (show ((af 2) (nI i).toNatClampNeg) = nI (sc i) from by rw [nI_clamp (by omega)]; exact q1_) ?_
          refine lv_iload_n hx hb dX8_bestOf_49 rfl (lv_at hl 2 rfl) ?_
          refine lv_icmp_ne (tgt := 57) hx hb dX8_bestOf_50 (by decide) (fun c50 => ?_) (fun c50 => ?_)
          · refine lv_iconst (v := 0) hx hb dX8_bestOf_57 (by decide) ?_
            refine lv_iadd hx hb dX8_bestOf_58 ?_
            refine m_top (show ((2 * (mit (af 19) (lkM n f sn sw) i)) + 0) = 2 * (mit (af 19) (lkM n f sn sw) i) + owM sc cl i from by first | (rw [show owM sc cl i = 1 from if_pos (c50)]) | (rw [show owM sc cl i = 0 from if_neg c50])) ?_
            refine lv_istore (lv' := [(6, .int (2 * (mit (af 19) (lkM n f sn sw) i) + owM sc cl i)), (5, .int (mit (af 19) (lkM n f sn sw) i)), (0, .ref (adr 0)), (1, .int cl), (2, .int ((mbs (af 19) (lkM n f sn sw) (owM sc cl) le i).1)), (3, .int ((mbs (af 19) (lkM n f sn sw) (owM sc cl) le i).2)), (4, .int (nI i))]) hx hb dX8_bestOf_59 hl (by decide) rfl (fun ls hl => ?_)
            refine lv_iload hx hb dX8_bestOf_61 (lv_at hl 1 rfl) ?_
            refine lv_aload_n hx hb dX8_bestOf_63 rfl (lv_at hl 2 rfl) ?_
            refine m_get (ci := 8) (C := RX8) (T := TX8) (n := 35) (v := .int (sf 2)) hx hb hts inX8_ hown hK rfl (hM.cel (by omega) (show (mw ac adr sf (va_up af 23 T_1)) 0 = .inr (8, mfs adr sf) from rfl)) 3 (by decide) (hts _ (by decide +kernel)) rfl dX8_bestOf_64 ?_
            refine m_top (show (sf 2) = le from hp.1) ?_
            refine lv_icmp_lt (tgt := 80) hx hb dX8_bestOf_67 (by decide) (fun c67 => ?_) (fun c67 => ?_)
            · refine lv_iconst (v := 0) hx hb dX8_bestOf_80 (by decide) ?_
              refine lv_istore (lv' := [(7, .int 0), (6, .int (2 * (mit (af 19) (lkM n f sn sw) i) + owM sc cl i)), (5, .int (mit (af 19) (lkM n f sn sw) i)), (0, .ref (adr 0)), (1, .int cl), (2, .int ((mbs (af 19) (lkM n f sn sw) (owM sc cl) le i).1)), (3, .int ((mbs (af 19) (lkM n f sn sw) (owM sc cl) le i).2)), (4, .int (nI i))]) hx hb dX8_bestOf_81 hl (by decide) rfl (fun ls hl => ?_)
              refine lv_iload hx hb dX8_bestOf_83 (lv_at hl 0 rfl) ?_
              refine lv_if_eq (tgt := 93) hx hb dX8_bestOf_85 (by decide) (fun c85 => ?_) (fun c85 => ?_)
              · refine lv_iload_n hx hb dX8_bestOf_93 rfl (lv_at hl 5 rfl) ?_
                refine m_top (show ((mbs (af 19) (lkM n f sn sw) (owM sc cl) le i).1 : Int32) = (mbs (af 19) (lkM n f sn sw) (owM sc cl) le (i + 1)).1 from by first | (rw [mbs_t (by assumption) (by assumption)]; done) | (rw [mbs_n (Or.inl (by assumption))]; done) | (rw [mbs_n (Or.inr (by assumption))]; done)) ?_
                refine lv_istore_n (lv' := [(2, .int ((mbs (af 19) (lkM n f sn sw) (owM sc cl) le (i + 1)).1)), (7, .int 0), (6, .int (2 * (mit (af 19) (lkM n f sn sw) i) + owM sc cl i)), (5, .int (mit (af 19) (lkM n f sn sw) i)), (0, .ref (adr 0)), (1, .int cl), (3, .int ((mbs (af 19) (lkM n f sn sw) (owM sc cl) le i).2)), (4, .int (nI i))]) hx hb dX8_bestOf_94 rfl hl (by decide) rfl (fun ls hl => ?_)
                refine lv_iload hx hb dX8_bestOf_95 (lv_at hl 1 rfl) ?_
                refine lv_if_eq (tgt := 105) hx hb dX8_bestOf_97 (by decide) (fun c97 => ?_) (fun c97 => ?_)
                · refine lv_iload_n hx hb dX8_bestOf_105 rfl (lv_at hl 6 rfl) ?_
                  refine m_top (show ((mbs (af 19) (lkM n f sn sw) (owM sc cl) le i).2 : Int32) = (mbs (af 19) (lkM n f sn sw) (owM sc cl) le (i + 1)).2 from by first | (rw [mbs_t (by assumption) (by assumption)]; done) | (rw [mbs_n (Or.inl (by assumption))]; done) | (rw [mbs_n (Or.inr (by assumption))]; done)) ?_
                  refine lv_istore_n (lv' := [(3, .int ((mbs (af 19) (lkM n f sn sw) (owM sc cl) le (i + 1)).2)), (2, .int ((mbs (af 19) (lkM n f sn sw) (owM sc cl) le (i + 1)).1)), (7, .int 0), (6, .int (2 * (mit (af 19) (lkM n f sn sw) i) + owM sc cl i)), (5, .int (mit (af 19) (lkM n f sn sw) i)), (0, .ref (adr 0)), (1, .int cl), (4, .int (nI i))]) hx hb dX8_bestOf_106 rfl hl (by decide) rfl (fun ls hl => ?_)
                  refine lv_iinc (v := nI (i + 1)) (lv' := [(4, .int (nI (i + 1))), (3, .int ((mbs (af 19) (lkM n f sn sw) (owM sc cl) le (i + 1)).2)), (2, .int ((mbs (af 19) (lkM n f sn sw) (owM sc cl) le (i + 1)).1)), (7, .int 0), (6, .int (2 * (mit (af 19) (lkM n f sn sw) i) + owM sc cl i)), (5, .int (mit (af 19) (lkM n f sn sw) i)), (0, .ref (adr 0)), (1, .int cl)]) hx hb dX8_bestOf_107 hl (k := 7) rfl (nI_1 _) (by decide) rfl (fun ls hl => ?_)
                  refine lv_goto (tgt := 7) hx hb dX8_bestOf_110 (by decide) ?_
                  exact ih7 (i + 1) T_1 (by omega) (by omega) _ _ (MW.cg hM (fun _ => rfl) (fun j9 => if q0_ : j9 = 23 then (by subst q0_; rfl) else (by first | rfl | simp only [va_up, if_neg q0_]))) hS ls (lv_sub hl [6, 7, 2, 1, 0] rfl)
                · exact absurd c97 (by decide)
              · exact absurd c85 (by decide)
            · refine lv_iload hx hb dX8_bestOf_70 (lv_at hl 0 rfl) ?_
              refine lv_iload_n hx hb dX8_bestOf_72 rfl (lv_at hl 5 rfl) ?_
              refine lv_icmp_lt (tgt := 80) hx hb dX8_bestOf_73 (by decide) (fun c73 => ?_) (fun c73 => ?_)
              · refine lv_iconst (v := 0) hx hb dX8_bestOf_80 (by decide) ?_
                refine lv_istore (lv' := [(7, .int 0), (6, .int (2 * (mit (af 19) (lkM n f sn sw) i) + owM sc cl i)), (5, .int (mit (af 19) (lkM n f sn sw) i)), (0, .ref (adr 0)), (1, .int cl), (2, .int ((mbs (af 19) (lkM n f sn sw) (owM sc cl) le i).1)), (3, .int ((mbs (af 19) (lkM n f sn sw) (owM sc cl) le i).2)), (4, .int (nI i))]) hx hb dX8_bestOf_81 hl (by decide) rfl (fun ls hl => ?_)
                refine lv_iload hx hb dX8_bestOf_83 (lv_at hl 0 rfl) ?_
                refine lv_if_eq (tgt := 93) hx hb dX8_bestOf_85 (by decide) (fun c85 => ?_) (fun c85 => ?_)
                · refine lv_iload_n hx hb dX8_bestOf_93 rfl (lv_at hl 5 rfl) ?_
                  refine m_top (show ((mbs (af 19) (lkM n f sn sw) (owM sc cl) le i).1 : Int32) = (mbs (af 19) (lkM n f sn sw) (owM sc cl) le (i + 1)).1 from by first | (rw [mbs_t (by assumption) (by assumption)]; done) | (rw [mbs_n (Or.inl (by assumption))]; done) | (rw [mbs_n (Or.inr (by assumption))]; done)) ?_
                  refine lv_istore_n (lv' := [(2, .int ((mbs (af 19) (lkM n f sn sw) (owM sc cl) le (i + 1)).1)), (7, .int 0), (6, .int (2 * (mit (af 19) (lkM n f sn sw) i) + owM sc cl i)), (5, .int (mit (af 19) (lkM n f sn sw) i)), (0, .ref (adr 0)), (1, .int cl), (3, .int ((mbs (af 19) (lkM n f sn sw) (owM sc cl) le i).2)), (4, .int (nI i))]) hx hb dX8_bestOf_94 rfl hl (by decide) rfl (fun ls hl => ?_)
                  refine lv_iload hx hb dX8_bestOf_95 (lv_at hl 1 rfl) ?_
                  refine lv_if_eq (tgt := 105) hx hb dX8_bestOf_97 (by decide) (fun c97 => ?_) (fun c97 => ?_)
                  · refine lv_iload_n hx hb dX8_bestOf_105 rfl (lv_at hl 6 rfl) ?_
                    refine m_top (show ((mbs (af 19) (lkM n f sn sw) (owM sc cl) le i).2 : Int32) = (mbs (af 19) (lkM n f sn sw) (owM sc cl) le (i + 1)).2 from by first | (rw [mbs_t (by assumption) (by assumption)]; done) | (rw [mbs_n (Or.inl (by assumption))]; done) | (rw [mbs_n (Or.inr (by assumption))]; done)) ?_
                    refine lv_istore_n (lv' := [(3, .int ((mbs (af 19) (lkM n f sn sw) (owM sc cl) le (i + 1)).2)), (2, .int ((mbs (af 19) (lkM n f sn sw) (owM sc cl) le (i + 1)).1)), (7, .int 0), (6, .int (2 * (mit (af 19) (lkM n f sn sw) i) + owM sc cl i)), (5, .int (mit (af 19) (lkM n f sn sw) i)), (0, .ref (adr 0)), (1, .int cl), (4, .int (nI i))]) hx hb dX8_bestOf_106 rfl hl (by decide) rfl (fun ls hl => ?_)
                    refine lv_iinc (v := nI (i + 1)) (lv' := [(4, .int (nI (i + 1))), (3, .int ((mbs (af 19) (lkM n f sn sw) (owM sc cl) le (i + 1)).2)), (2, .int ((mbs (af 19) (lkM n f sn sw) (owM sc cl) le (i + 1)).1)), (7, .int 0), (6, .int (2 * (mit (af 19) (lkM n f sn sw) i) + owM sc cl i)), (5, .int (mit (af 19) (lkM n f sn sw) i)), (0, .ref (adr 0)), (1, .int cl)]) hx hb dX8_bestOf_107 hl (k := 7) rfl (nI_1 _) (by decide) rfl (fun ls hl => ?_)
                    refine lv_goto (tgt := 7) hx hb dX8_bestOf_110 (by decide) ?_
                    exact ih7 (i + 1) T_1 (by omega) (by omega) _ _ (MW.cg hM (fun _ => rfl) (fun j9 => if q0_ : j9 = 23 then (by subst q0_; rfl) else (by first | rfl | simp only [va_up, if_neg q0_]))) hS ls (lv_sub hl [6, 7, 2, 1, 0] rfl)
                  · exact absurd c97 (by decide)
                · exact absurd c85 (by decide)
              · refine lv_iconst (v := 1) hx hb dX8_bestOf_76 (by decide) ?_
                refine lv_goto (tgt := 81) hx hb dX8_bestOf_77 (by decide) ?_
                refine lv_istore (lv' := [(7, .int 1), (6, .int (2 * (mit (af 19) (lkM n f sn sw) i) + owM sc cl i)), (5, .int (mit (af 19) (lkM n f sn sw) i)), (0, .ref (adr 0)), (1, .int cl), (2, .int ((mbs (af 19) (lkM n f sn sw) (owM sc cl) le i).1)), (3, .int ((mbs (af 19) (lkM n f sn sw) (owM sc cl) le i).2)), (4, .int (nI i))]) hx hb dX8_bestOf_81 hl (by decide) rfl (fun ls hl => ?_)
                refine lv_iload hx hb dX8_bestOf_83 (lv_at hl 0 rfl) ?_
                refine lv_if_eq (tgt := 93) hx hb dX8_bestOf_85 (by decide) (fun c85 => ?_) (fun c85 => ?_)
                · exact absurd c85 (by decide)
                · refine lv_iload hx hb dX8_bestOf_88 (lv_at hl 7 rfl) ?_
                  refine lv_goto (tgt := 94) hx hb dX8_bestOf_90 (by decide) ?_
                  refine m_top (show (nI i : Int32) = (mbs (af 19) (lkM n f sn sw) (owM sc cl) le (i + 1)).1 from by first | (rw [mbs_t (by assumption) (by assumption)]; done) | (rw [mbs_n (Or.inl (by assumption))]; done) | (rw [mbs_n (Or.inr (by assumption))]; done)) ?_
                  refine lv_istore_n (lv' := [(2, .int ((mbs (af 19) (lkM n f sn sw) (owM sc cl) le (i + 1)).1)), (7, .int 1), (6, .int (2 * (mit (af 19) (lkM n f sn sw) i) + owM sc cl i)), (5, .int (mit (af 19) (lkM n f sn sw) i)), (0, .ref (adr 0)), (1, .int cl), (3, .int ((mbs (af 19) (lkM n f sn sw) (owM sc cl) le i).2)), (4, .int (nI i))]) hx hb dX8_bestOf_94 rfl hl (by decide) rfl (fun ls hl => ?_)
                  refine lv_iload hx hb dX8_bestOf_95 (lv_at hl 1 rfl) ?_
                  refine lv_if_eq (tgt := 105) hx hb dX8_bestOf_97 (by decide) (fun c97 => ?_) (fun c97 => ?_)
                  · exact absurd c97 (by decide)
                  · refine lv_iload hx hb dX8_bestOf_100 (lv_at hl 2 rfl) ?_
                    refine lv_goto (tgt := 106) hx hb dX8_bestOf_102 (by decide) ?_
                    refine m_top (show (2 * (mit (af 19) (lkM n f sn sw) i) + owM sc cl i : Int32) = (mbs (af 19) (lkM n f sn sw) (owM sc cl) le (i + 1)).2 from by first | (rw [mbs_t (by assumption) (by assumption)]; done) | (rw [mbs_n (Or.inl (by assumption))]; done) | (rw [mbs_n (Or.inr (by assumption))]; done)) ?_
                    refine lv_istore_n (lv' := [(3, .int ((mbs (af 19) (lkM n f sn sw) (owM sc cl) le (i + 1)).2)), (2, .int ((mbs (af 19) (lkM n f sn sw) (owM sc cl) le (i + 1)).1)), (7, .int 1), (6, .int (2 * (mit (af 19) (lkM n f sn sw) i) + owM sc cl i)), (5, .int (mit (af 19) (lkM n f sn sw) i)), (0, .ref (adr 0)), (1, .int cl), (4, .int (nI i))]) hx hb dX8_bestOf_106 rfl hl (by decide) rfl (fun ls hl => ?_)
                    refine lv_iinc (v := nI (i + 1)) (lv' := [(4, .int (nI (i + 1))), (3, .int ((mbs (af 19) (lkM n f sn sw) (owM sc cl) le (i + 1)).2)), (2, .int ((mbs (af 19) (lkM n f sn sw) (owM sc cl) le (i + 1)).1)), (7, .int 1), (6, .int (2 * (mit (af 19) (lkM n f sn sw) i) + owM sc cl i)), (5, .int (mit (af 19) (lkM n f sn sw) i)), (0, .ref (adr 0)), (1, .int cl)]) hx hb dX8_bestOf_107 hl (k := 7) rfl (nI_1 _) (by decide) rfl (fun ls hl => ?_)
                    refine lv_goto (tgt := 7) hx hb dX8_bestOf_110 (by decide) ?_
                    exact ih7 (i + 1) T_1 (by omega) (by omega) _ _ (MW.cg hM (fun _ => rfl) (fun j9 => if q0_ : j9 = 23 then (by subst q0_; rfl) else (by first | rfl | simp only [va_up, if_neg q0_]))) hS ls (lv_sub hl [6, 7, 2, 1, 0] rfl)
          · refine lv_iconst (v := 1) hx hb dX8_bestOf_53 (by decide) ?_
            refine lv_goto (tgt := 58) hx hb dX8_bestOf_54 (by decide) ?_
            refine lv_iadd hx hb dX8_bestOf_58 ?_
            refine m_top (show ((2 * (mit (af 19) (lkM n f sn sw) i)) + 1) = 2 * (mit (af 19) (lkM n f sn sw) i) + owM sc cl i from by first | (rw [show owM sc cl i = 1 from if_pos (c50)]) | (rw [show owM sc cl i = 0 from if_neg c50])) ?_
            refine lv_istore (lv' := [(6, .int (2 * (mit (af 19) (lkM n f sn sw) i) + owM sc cl i)), (5, .int (mit (af 19) (lkM n f sn sw) i)), (0, .ref (adr 0)), (1, .int cl), (2, .int ((mbs (af 19) (lkM n f sn sw) (owM sc cl) le i).1)), (3, .int ((mbs (af 19) (lkM n f sn sw) (owM sc cl) le i).2)), (4, .int (nI i))]) hx hb dX8_bestOf_59 hl (by decide) rfl (fun ls hl => ?_)
            refine lv_iload hx hb dX8_bestOf_61 (lv_at hl 1 rfl) ?_
            refine lv_aload_n hx hb dX8_bestOf_63 rfl (lv_at hl 2 rfl) ?_
            refine m_get (ci := 8) (C := RX8) (T := TX8) (n := 35) (v := .int (sf 2)) hx hb hts inX8_ hown hK rfl (hM.cel (by omega) (show (mw ac adr sf (va_up af 23 T_1)) 0 = .inr (8, mfs adr sf) from rfl)) 3 (by decide) (hts _ (by decide +kernel)) rfl dX8_bestOf_64 ?_
            refine m_top (show (sf 2) = le from hp.1) ?_
            refine lv_icmp_lt (tgt := 80) hx hb dX8_bestOf_67 (by decide) (fun c67 => ?_) (fun c67 => ?_)
            · refine lv_iconst (v := 0) hx hb dX8_bestOf_80 (by decide) ?_
              refine lv_istore (lv' := [(7, .int 0), (6, .int (2 * (mit (af 19) (lkM n f sn sw) i) + owM sc cl i)), (5, .int (mit (af 19) (lkM n f sn sw) i)), (0, .ref (adr 0)), (1, .int cl), (2, .int ((mbs (af 19) (lkM n f sn sw) (owM sc cl) le i).1)), (3, .int ((mbs (af 19) (lkM n f sn sw) (owM sc cl) le i).2)), (4, .int (nI i))]) hx hb dX8_bestOf_81 hl (by decide) rfl (fun ls hl => ?_)
              refine lv_iload hx hb dX8_bestOf_83 (lv_at hl 0 rfl) ?_
              refine lv_if_eq (tgt := 93) hx hb dX8_bestOf_85 (by decide) (fun c85 => ?_) (fun c85 => ?_)
              · refine lv_iload_n hx hb dX8_bestOf_93 rfl (lv_at hl 5 rfl) ?_
                refine m_top (show ((mbs (af 19) (lkM n f sn sw) (owM sc cl) le i).1 : Int32) = (mbs (af 19) (lkM n f sn sw) (owM sc cl) le (i + 1)).1 from by first | (rw [mbs_t (by assumption) (by assumption)]; done) | (rw [mbs_n (Or.inl (by assumption))]; done) | (rw [mbs_n (Or.inr (by assumption))]; done)) ?_
                refine lv_istore_n (lv' := [(2, .int ((mbs (af 19) (lkM n f sn sw) (owM sc cl) le (i + 1)).1)), (7, .int 0), (6, .int (2 * (mit (af 19) (lkM n f sn sw) i) + owM sc cl i)), (5, .int (mit (af 19) (lkM n f sn sw) i)), (0, .ref (adr 0)), (1, .int cl), (3, .int ((mbs (af 19) (lkM n f sn sw) (owM sc cl) le i).2)), (4, .int (nI i))]) hx hb dX8_bestOf_94 rfl hl (by decide) rfl (fun ls hl => ?_)
                refine lv_iload hx hb dX8_bestOf_95 (lv_at hl 1 rfl) ?_
                refine lv_if_eq (tgt := 105) hx hb dX8_bestOf_97 (by decide) (fun c97 => ?_) (fun c97 => ?_)
                · refine lv_iload_n hx hb dX8_bestOf_105 rfl (lv_at hl 6 rfl) ?_
                  refine m_top (show ((mbs (af 19) (lkM n f sn sw) (owM sc cl) le i).2 : Int32) = (mbs (af 19) (lkM n f sn sw) (owM sc cl) le (i + 1)).2 from by first | (rw [mbs_t (by assumption) (by assumption)]; done) | (rw [mbs_n (Or.inl (by assumption))]; done) | (rw [mbs_n (Or.inr (by assumption))]; done)) ?_
                  refine lv_istore_n (lv' := [(3, .int ((mbs (af 19) (lkM n f sn sw) (owM sc cl) le (i + 1)).2)), (2, .int ((mbs (af 19) (lkM n f sn sw) (owM sc cl) le (i + 1)).1)), (7, .int 0), (6, .int (2 * (mit (af 19) (lkM n f sn sw) i) + owM sc cl i)), (5, .int (mit (af 19) (lkM n f sn sw) i)), (0, .ref (adr 0)), (1, .int cl), (4, .int (nI i))]) hx hb dX8_bestOf_106 rfl hl (by decide) rfl (fun ls hl => ?_)
                  refine lv_iinc (v := nI (i + 1)) (lv' := [(4, .int (nI (i + 1))), (3, .int ((mbs (af 19) (lkM n f sn sw) (owM sc cl) le (i + 1)).2)), (2, .int ((mbs (af 19) (lkM n f sn sw) (owM sc cl) le (i + 1)).1)), (7, .int 0), (6, .int (2 * (mit (af 19) (lkM n f sn sw) i) + owM sc cl i)), (5, .int (mit (af 19) (lkM n f sn sw) i)), (0, .ref (adr 0)), (1, .int cl)]) hx hb dX8_bestOf_107 hl (k := 7) rfl (nI_1 _) (by decide) rfl (fun ls hl => ?_)
                  refine lv_goto (tgt := 7) hx hb dX8_bestOf_110 (by decide) ?_
                  exact ih7 (i + 1) T_1 (by omega) (by omega) _ _ (MW.cg hM (fun _ => rfl) (fun j9 => if q0_ : j9 = 23 then (by subst q0_; rfl) else (by first | rfl | simp only [va_up, if_neg q0_]))) hS ls (lv_sub hl [6, 7, 2, 1, 0] rfl)
                · exact absurd c97 (by decide)
              · exact absurd c85 (by decide)
            · refine lv_iload hx hb dX8_bestOf_70 (lv_at hl 0 rfl) ?_
              refine lv_iload_n hx hb dX8_bestOf_72 rfl (lv_at hl 5 rfl) ?_
              refine lv_icmp_lt (tgt := 80) hx hb dX8_bestOf_73 (by decide) (fun c73 => ?_) (fun c73 => ?_)
              · refine lv_iconst (v := 0) hx hb dX8_bestOf_80 (by decide) ?_
                refine lv_istore (lv' := [(7, .int 0), (6, .int (2 * (mit (af 19) (lkM n f sn sw) i) + owM sc cl i)), (5, .int (mit (af 19) (lkM n f sn sw) i)), (0, .ref (adr 0)), (1, .int cl), (2, .int ((mbs (af 19) (lkM n f sn sw) (owM sc cl) le i).1)), (3, .int ((mbs (af 19) (lkM n f sn sw) (owM sc cl) le i).2)), (4, .int (nI i))]) hx hb dX8_bestOf_81 hl (by decide) rfl (fun ls hl => ?_)
                refine lv_iload hx hb dX8_bestOf_83 (lv_at hl 0 rfl) ?_
                refine lv_if_eq (tgt := 93) hx hb dX8_bestOf_85 (by decide) (fun c85 => ?_) (fun c85 => ?_)
                · refine lv_iload_n hx hb dX8_bestOf_93 rfl (lv_at hl 5 rfl) ?_
                  refine m_top (show ((mbs (af 19) (lkM n f sn sw) (owM sc cl) le i).1 : Int32) = (mbs (af 19) (lkM n f sn sw) (owM sc cl) le (i + 1)).1 from by first | (rw [mbs_t (by assumption) (by assumption)]; done) | (rw [mbs_n (Or.inl (by assumption))]; done) | (rw [mbs_n (Or.inr (by assumption))]; done)) ?_
                  refine lv_istore_n (lv' := [(2, .int ((mbs (af 19) (lkM n f sn sw) (owM sc cl) le (i + 1)).1)), (7, .int 0), (6, .int (2 * (mit (af 19) (lkM n f sn sw) i) + owM sc cl i)), (5, .int (mit (af 19) (lkM n f sn sw) i)), (0, .ref (adr 0)), (1, .int cl), (3, .int ((mbs (af 19) (lkM n f sn sw) (owM sc cl) le i).2)), (4, .int (nI i))]) hx hb dX8_bestOf_94 rfl hl (by decide) rfl (fun ls hl => ?_)
                  refine lv_iload hx hb dX8_bestOf_95 (lv_at hl 1 rfl) ?_
                  refine lv_if_eq (tgt := 105) hx hb dX8_bestOf_97 (by decide) (fun c97 => ?_) (fun c97 => ?_)
                  · refine lv_iload_n hx hb dX8_bestOf_105 rfl (lv_at hl 6 rfl) ?_
                    refine m_top (show ((mbs (af 19) (lkM n f sn sw) (owM sc cl) le i).2 : Int32) = (mbs (af 19) (lkM n f sn sw) (owM sc cl) le (i + 1)).2 from by first | (rw [mbs_t (by assumption) (by assumption)]; done) | (rw [mbs_n (Or.inl (by assumption))]; done) | (rw [mbs_n (Or.inr (by assumption))]; done)) ?_
                    refine lv_istore_n (lv' := [(3, .int ((mbs (af 19) (lkM n f sn sw) (owM sc cl) le (i + 1)).2)), (2, .int ((mbs (af 19) (lkM n f sn sw) (owM sc cl) le (i + 1)).1)), (7, .int 0), (6, .int (2 * (mit (af 19) (lkM n f sn sw) i) + owM sc cl i)), (5, .int (mit (af 19) (lkM n f sn sw) i)), (0, .ref (adr 0)), (1, .int cl), (4, .int (nI i))]) hx hb dX8_bestOf_106 rfl hl (by decide) rfl (fun ls hl => ?_)
                    refine lv_iinc (v := nI (i + 1)) (lv' := [(4, .int (nI (i + 1))), (3, .int ((mbs (af 19) (lkM n f sn sw) (owM sc cl) le (i + 1)).2)), (2, .int ((mbs (af 19) (lkM n f sn sw) (owM sc cl) le (i + 1)).1)), (7, .int 0), (6, .int (2 * (mit (af 19) (lkM n f sn sw) i) + owM sc cl i)), (5, .int (mit (af 19) (lkM n f sn sw) i)), (0, .ref (adr 0)), (1, .int cl)]) hx hb dX8_bestOf_107 hl (k := 7) rfl (nI_1 _) (by decide) rfl (fun ls hl => ?_)
                    refine lv_goto (tgt := 7) hx hb dX8_bestOf_110 (by decide) ?_
                    exact ih7 (i + 1) T_1 (by omega) (by omega) _ _ (MW.cg hM (fun _ => rfl) (fun j9 => if q0_ : j9 = 23 then (by subst q0_; rfl) else (by first | rfl | simp only [va_up, if_neg q0_]))) hS ls (lv_sub hl [6, 7, 2, 1, 0] rfl)
                  · exact absurd c97 (by decide)
                · exact absurd c85 (by decide)
              · refine lv_iconst (v := 1) hx hb dX8_bestOf_76 (by decide) ?_
                refine lv_goto (tgt := 81) hx hb dX8_bestOf_77 (by decide) ?_
                refine lv_istore (lv' := [(7, .int 1), (6, .int (2 * (mit (af 19) (lkM n f sn sw) i) + owM sc cl i)), (5, .int (mit (af 19) (lkM n f sn sw) i)), (0, .ref (adr 0)), (1, .int cl), (2, .int ((mbs (af 19) (lkM n f sn sw) (owM sc cl) le i).1)), (3, .int ((mbs (af 19) (lkM n f sn sw) (owM sc cl) le i).2)), (4, .int (nI i))]) hx hb dX8_bestOf_81 hl (by decide) rfl (fun ls hl => ?_)
                refine lv_iload hx hb dX8_bestOf_83 (lv_at hl 0 rfl) ?_
                refine lv_if_eq (tgt := 93) hx hb dX8_bestOf_85 (by decide) (fun c85 => ?_) (fun c85 => ?_)
                · exact absurd c85 (by decide)
                · refine lv_iload hx hb dX8_bestOf_88 (lv_at hl 7 rfl) ?_
                  refine lv_goto (tgt := 94) hx hb dX8_bestOf_90 (by decide) ?_
                  refine m_top (show (nI i : Int32) = (mbs (af 19) (lkM n f sn sw) (owM sc cl) le (i + 1)).1 from by first | (rw [mbs_t (by assumption) (by assumption)]; done) | (rw [mbs_n (Or.inl (by assumption))]; done) | (rw [mbs_n (Or.inr (by assumption))]; done)) ?_
                  refine lv_istore_n (lv' := [(2, .int ((mbs (af 19) (lkM n f sn sw) (owM sc cl) le (i + 1)).1)), (7, .int 1), (6, .int (2 * (mit (af 19) (lkM n f sn sw) i) + owM sc cl i)), (5, .int (mit (af 19) (lkM n f sn sw) i)), (0, .ref (adr 0)), (1, .int cl), (3, .int ((mbs (af 19) (lkM n f sn sw) (owM sc cl) le i).2)), (4, .int (nI i))]) hx hb dX8_bestOf_94 rfl hl (by decide) rfl (fun ls hl => ?_)
                  refine lv_iload hx hb dX8_bestOf_95 (lv_at hl 1 rfl) ?_
                  refine lv_if_eq (tgt := 105) hx hb dX8_bestOf_97 (by decide) (fun c97 => ?_) (fun c97 => ?_)
                  · exact absurd c97 (by decide)
                  · refine lv_iload hx hb dX8_bestOf_100 (lv_at hl 2 rfl) ?_
                    refine lv_goto (tgt := 106) hx hb dX8_bestOf_102 (by decide) ?_
                    refine m_top (show (2 * (mit (af 19) (lkM n f sn sw) i) + owM sc cl i : Int32) = (mbs (af 19) (lkM n f sn sw) (owM sc cl) le (i + 1)).2 from by first | (rw [mbs_t (by assumption) (by assumption)]; done) | (rw [mbs_n (Or.inl (by assumption))]; done) | (rw [mbs_n (Or.inr (by assumption))]; done)) ?_
                    refine lv_istore_n (lv' := [(3, .int ((mbs (af 19) (lkM n f sn sw) (owM sc cl) le (i + 1)).2)), (2, .int ((mbs (af 19) (lkM n f sn sw) (owM sc cl) le (i + 1)).1)), (7, .int 1), (6, .int (2 * (mit (af 19) (lkM n f sn sw) i) + owM sc cl i)), (5, .int (mit (af 19) (lkM n f sn sw) i)), (0, .ref (adr 0)), (1, .int cl), (4, .int (nI i))]) hx hb dX8_bestOf_106 rfl hl (by decide) rfl (fun ls hl => ?_)
                    refine lv_iinc (v := nI (i + 1)) (lv' := [(4, .int (nI (i + 1))), (3, .int ((mbs (af 19) (lkM n f sn sw) (owM sc cl) le (i + 1)).2)), (2, .int ((mbs (af 19) (lkM n f sn sw) (owM sc cl) le (i + 1)).1)), (7, .int 1), (6, .int (2 * (mit (af 19) (lkM n f sn sw) i) + owM sc cl i)), (5, .int (mit (af 19) (lkM n f sn sw) i)), (0, .ref (adr 0)), (1, .int cl)]) hx hb dX8_bestOf_107 hl (k := 7) rfl (nI_1 _) (by decide) rfl (fun ls hl => ?_)
                    refine lv_goto (tgt := 7) hx hb dX8_bestOf_110 (by decide) ?_
                    exact ih7 (i + 1) T_1 (by omega) (by omega) _ _ (MW.cg hM (fun _ => rfl) (fun j9 => if q0_ : j9 = 23 then (by subst q0_; rfl) else (by first | rfl | simp only [va_up, if_neg q0_]))) hS ls (lv_sub hl [6, 7, 2, 1, 0] rfl)
        · refine lv_iconst (v := (-1)) hx hb dX8_bestOf_26 (by decide) ?_
          refine lv_goto (tgt := 36) hx hb dX8_bestOf_27 (by decide) ?_
          refine m_top (show ((-1) : Int32) = mit (af 19) (lkM n f sn sw) i from by first | exact (mit_y c23).symm | exact (mit_n c23).symm) ?_
          refine lv_istore (lv' := [(5, .int (mit (af 19) (lkM n f sn sw) i)), (0, .ref (adr 0)), (1, .int cl), (2, .int ((mbs (af 19) (lkM n f sn sw) (owM sc cl) le i).1)), (3, .int ((mbs (af 19) (lkM n f sn sw) (owM sc cl) le i).2)), (4, .int (nI i))]) hx hb dX8_bestOf_36 hl (by decide) rfl (fun ls hl => ?_)
          refine lv_iconst (v := 2) hx hb dX8_bestOf_38 (by decide) ?_
          refine lv_iload hx hb dX8_bestOf_39 (lv_at hl 0 rfl) ?_
          refine lv_imul hx hb dX8_bestOf_41 ?_
          refine lv_aload_n hx hb dX8_bestOf_42 rfl (lv_at hl 1 rfl) ?_
          refine m_get (ci := 8) (C := RX8) (T := TX8) (n := 35) (v := .ref (adr 2)) hx hb hts inX8_ hown hK rfl (hM.cel (by omega) (show (mw ac adr sf (va_up af 23 Tz)) 0 = .inr (8, mfs adr sf) from rfl)) 7 (by decide) (hts _ (by decide +kernel)) rfl dX8_bestOf_43 ?_
          refine lv_iload hx hb dX8_bestOf_46 (lv_at hl 5 rfl) ?_
          refine m_iald hx hb hK (hM.cel (by omega) (show (mw ac adr sf (va_up af 23 Tz)) 2 = .inl (ac 0, 40, .inl (af 2)) from rfl)) (vp_in_nI (by omega) (by decide)) dX8_bestOf_48 ?_
          refine m_top (show ((af 2) (nI i).toNatClampNeg) = nI (sc i) from by rw [nI_clamp (by omega)]; exact q1_) ?_
          refine lv_iload_n hx hb dX8_bestOf_49 rfl (lv_at hl 2 rfl) ?_
          refine lv_icmp_ne (tgt := 57) hx hb dX8_bestOf_50 (by decide) (fun c50 => ?_) (fun c50 => ?_)
          · refine lv_iconst (v := 0) hx hb dX8_bestOf_57 (by decide) ?_
            refine lv_iadd hx hb dX8_bestOf_58 ?_
            refine m_top (show ((2 * (mit (af 19) (lkM n f sn sw) i)) + 0) = 2 * (mit (af 19) (lkM n f sn sw) i) + owM sc cl i from by first | (rw [show owM sc cl i = 1 from if_pos (c50)]) | (rw [show owM sc cl i = 0 from if_neg c50])) ?_
            refine lv_istore (lv' := [(6, .int (2 * (mit (af 19) (lkM n f sn sw) i) + owM sc cl i)), (5, .int (mit (af 19) (lkM n f sn sw) i)), (0, .ref (adr 0)), (1, .int cl), (2, .int ((mbs (af 19) (lkM n f sn sw) (owM sc cl) le i).1)), (3, .int ((mbs (af 19) (lkM n f sn sw) (owM sc cl) le i).2)), (4, .int (nI i))]) hx hb dX8_bestOf_59 hl (by decide) rfl (fun ls hl => ?_)
            refine lv_iload hx hb dX8_bestOf_61 (lv_at hl 1 rfl) ?_
            refine lv_aload_n hx hb dX8_bestOf_63 rfl (lv_at hl 2 rfl) ?_
            refine m_get (ci := 8) (C := RX8) (T := TX8) (n := 35) (v := .int (sf 2)) hx hb hts inX8_ hown hK rfl (hM.cel (by omega) (show (mw ac adr sf (va_up af 23 Tz)) 0 = .inr (8, mfs adr sf) from rfl)) 3 (by decide) (hts _ (by decide +kernel)) rfl dX8_bestOf_64 ?_
            refine m_top (show (sf 2) = le from hp.1) ?_
            refine lv_icmp_lt (tgt := 80) hx hb dX8_bestOf_67 (by decide) (fun c67 => ?_) (fun c67 => ?_)
            · refine lv_iconst (v := 0) hx hb dX8_bestOf_80 (by decide) ?_
              refine lv_istore (lv' := [(7, .int 0), (6, .int (2 * (mit (af 19) (lkM n f sn sw) i) + owM sc cl i)), (5, .int (mit (af 19) (lkM n f sn sw) i)), (0, .ref (adr 0)), (1, .int cl), (2, .int ((mbs (af 19) (lkM n f sn sw) (owM sc cl) le i).1)), (3, .int ((mbs (af 19) (lkM n f sn sw) (owM sc cl) le i).2)), (4, .int (nI i))]) hx hb dX8_bestOf_81 hl (by decide) rfl (fun ls hl => ?_)
              refine lv_iload hx hb dX8_bestOf_83 (lv_at hl 0 rfl) ?_
              refine lv_if_eq (tgt := 93) hx hb dX8_bestOf_85 (by decide) (fun c85 => ?_) (fun c85 => ?_)
              · refine lv_iload_n hx hb dX8_bestOf_93 rfl (lv_at hl 5 rfl) ?_
                refine m_top (show ((mbs (af 19) (lkM n f sn sw) (owM sc cl) le i).1 : Int32) = (mbs (af 19) (lkM n f sn sw) (owM sc cl) le (i + 1)).1 from by first | (rw [mbs_t (by assumption) (by assumption)]; done) | (rw [mbs_n (Or.inl (by assumption))]; done) | (rw [mbs_n (Or.inr (by assumption))]; done)) ?_
                refine lv_istore_n (lv' := [(2, .int ((mbs (af 19) (lkM n f sn sw) (owM sc cl) le (i + 1)).1)), (7, .int 0), (6, .int (2 * (mit (af 19) (lkM n f sn sw) i) + owM sc cl i)), (5, .int (mit (af 19) (lkM n f sn sw) i)), (0, .ref (adr 0)), (1, .int cl), (3, .int ((mbs (af 19) (lkM n f sn sw) (owM sc cl) le i).2)), (4, .int (nI i))]) hx hb dX8_bestOf_94 rfl hl (by decide) rfl (fun ls hl => ?_)
                refine lv_iload hx hb dX8_bestOf_95 (lv_at hl 1 rfl) ?_
                refine lv_if_eq (tgt := 105) hx hb dX8_bestOf_97 (by decide) (fun c97 => ?_) (fun c97 => ?_)
                · refine lv_iload_n hx hb dX8_bestOf_105 rfl (lv_at hl 6 rfl) ?_
                  refine m_top (show ((mbs (af 19) (lkM n f sn sw) (owM sc cl) le i).2 : Int32) = (mbs (af 19) (lkM n f sn sw) (owM sc cl) le (i + 1)).2 from by first | (rw [mbs_t (by assumption) (by assumption)]; done) | (rw [mbs_n (Or.inl (by assumption))]; done) | (rw [mbs_n (Or.inr (by assumption))]; done)) ?_
                  refine lv_istore_n (lv' := [(3, .int ((mbs (af 19) (lkM n f sn sw) (owM sc cl) le (i + 1)).2)), (2, .int ((mbs (af 19) (lkM n f sn sw) (owM sc cl) le (i + 1)).1)), (7, .int 0), (6, .int (2 * (mit (af 19) (lkM n f sn sw) i) + owM sc cl i)), (5, .int (mit (af 19) (lkM n f sn sw) i)), (0, .ref (adr 0)), (1, .int cl), (4, .int (nI i))]) hx hb dX8_bestOf_106 rfl hl (by decide) rfl (fun ls hl => ?_)
                  refine lv_iinc (v := nI (i + 1)) (lv' := [(4, .int (nI (i + 1))), (3, .int ((mbs (af 19) (lkM n f sn sw) (owM sc cl) le (i + 1)).2)), (2, .int ((mbs (af 19) (lkM n f sn sw) (owM sc cl) le (i + 1)).1)), (7, .int 0), (6, .int (2 * (mit (af 19) (lkM n f sn sw) i) + owM sc cl i)), (5, .int (mit (af 19) (lkM n f sn sw) i)), (0, .ref (adr 0)), (1, .int cl)]) hx hb dX8_bestOf_107 hl (k := 7) rfl (nI_1 _) (by decide) rfl (fun ls hl => ?_)
                  refine lv_goto (tgt := 7) hx hb dX8_bestOf_110 (by decide) ?_
                  exact ih7 (i + 1) Tz (by omega) (by omega) _ _ (MW.cg hM (fun _ => rfl) (fun j9 => if q0_ : j9 = 23 then (by subst q0_; rfl) else (by first | rfl | simp only [va_up, if_neg q0_]))) hS ls (lv_sub hl [6, 7, 2, 1, 0] rfl)
                · exact absurd c97 (by decide)
              · exact absurd c85 (by decide)
            · refine lv_iload hx hb dX8_bestOf_70 (lv_at hl 0 rfl) ?_
              refine lv_iload_n hx hb dX8_bestOf_72 rfl (lv_at hl 5 rfl) ?_
              refine lv_icmp_lt (tgt := 80) hx hb dX8_bestOf_73 (by decide) (fun c73 => ?_) (fun c73 => ?_)
              · refine lv_iconst (v := 0) hx hb dX8_bestOf_80 (by decide) ?_
                refine lv_istore (lv' := [(7, .int 0), (6, .int (2 * (mit (af 19) (lkM n f sn sw) i) + owM sc cl i)), (5, .int (mit (af 19) (lkM n f sn sw) i)), (0, .ref (adr 0)), (1, .int cl), (2, .int ((mbs (af 19) (lkM n f sn sw) (owM sc cl) le i).1)), (3, .int ((mbs (af 19) (lkM n f sn sw) (owM sc cl) le i).2)), (4, .int (nI i))]) hx hb dX8_bestOf_81 hl (by decide) rfl (fun ls hl => ?_)
                refine lv_iload hx hb dX8_bestOf_83 (lv_at hl 0 rfl) ?_
                refine lv_if_eq (tgt := 93) hx hb dX8_bestOf_85 (by decide) (fun c85 => ?_) (fun c85 => ?_)
                · refine lv_iload_n hx hb dX8_bestOf_93 rfl (lv_at hl 5 rfl) ?_
                  refine m_top (show ((mbs (af 19) (lkM n f sn sw) (owM sc cl) le i).1 : Int32) = (mbs (af 19) (lkM n f sn sw) (owM sc cl) le (i + 1)).1 from by first | (rw [mbs_t (by assumption) (by assumption)]; done) | (rw [mbs_n (Or.inl (by assumption))]; done) | (rw [mbs_n (Or.inr (by assumption))]; done)) ?_
                  refine lv_istore_n (lv' := [(2, .int ((mbs (af 19) (lkM n f sn sw) (owM sc cl) le (i + 1)).1)), (7, .int 0), (6, .int (2 * (mit (af 19) (lkM n f sn sw) i) + owM sc cl i)), (5, .int (mit (af 19) (lkM n f sn sw) i)), (0, .ref (adr 0)), (1, .int cl), (3, .int ((mbs (af 19) (lkM n f sn sw) (owM sc cl) le i).2)), (4, .int (nI i))]) hx hb dX8_bestOf_94 rfl hl (by decide) rfl (fun ls hl => ?_)
                  refine lv_iload hx hb dX8_bestOf_95 (lv_at hl 1 rfl) ?_
                  refine lv_if_eq (tgt := 105) hx hb dX8_bestOf_97 (by decide) (fun c97 => ?_) (fun c97 => ?_)
                  · refine lv_iload_n hx hb dX8_bestOf_105 rfl (lv_at hl 6 rfl) ?_
                    refine m_top (show ((mbs (af 19) (lkM n f sn sw) (owM sc cl) le i).2 : Int32) = (mbs (af 19) (lkM n f sn sw) (owM sc cl) le (i + 1)).2 from by first | (rw [mbs_t (by assumption) (by assumption)]; done) | (rw [mbs_n (Or.inl (by assumption))]; done) | (rw [mbs_n (Or.inr (by assumption))]; done)) ?_
                    refine lv_istore_n (lv' := [(3, .int ((mbs (af 19) (lkM n f sn sw) (owM sc cl) le (i + 1)).2)), (2, .int ((mbs (af 19) (lkM n f sn sw) (owM sc cl) le (i + 1)).1)), (7, .int 0), (6, .int (2 * (mit (af 19) (lkM n f sn sw) i) + owM sc cl i)), (5, .int (mit (af 19) (lkM n f sn sw) i)), (0, .ref (adr 0)), (1, .int cl), (4, .int (nI i))]) hx hb dX8_bestOf_106 rfl hl (by decide) rfl (fun ls hl => ?_)
                    refine lv_iinc (v := nI (i + 1)) (lv' := [(4, .int (nI (i + 1))), (3, .int ((mbs (af 19) (lkM n f sn sw) (owM sc cl) le (i + 1)).2)), (2, .int ((mbs (af 19) (lkM n f sn sw) (owM sc cl) le (i + 1)).1)), (7, .int 0), (6, .int (2 * (mit (af 19) (lkM n f sn sw) i) + owM sc cl i)), (5, .int (mit (af 19) (lkM n f sn sw) i)), (0, .ref (adr 0)), (1, .int cl)]) hx hb dX8_bestOf_107 hl (k := 7) rfl (nI_1 _) (by decide) rfl (fun ls hl => ?_)
                    refine lv_goto (tgt := 7) hx hb dX8_bestOf_110 (by decide) ?_
                    exact ih7 (i + 1) Tz (by omega) (by omega) _ _ (MW.cg hM (fun _ => rfl) (fun j9 => if q0_ : j9 = 23 then (by subst q0_; rfl) else (by first | rfl | simp only [va_up, if_neg q0_]))) hS ls (lv_sub hl [6, 7, 2, 1, 0] rfl)
                  · exact absurd c97 (by decide)
                · exact absurd c85 (by decide)
              · refine lv_iconst (v := 1) hx hb dX8_bestOf_76 (by decide) ?_
                refine lv_goto (tgt := 81) hx hb dX8_bestOf_77 (by decide) ?_
                refine lv_istore (lv' := [(7, .int 1), (6, .int (2 * (mit (af 19) (lkM n f sn sw) i) + owM sc cl i)), (5, .int (mit (af 19) (lkM n f sn sw) i)), (0, .ref (adr 0)), (1, .int cl), (2, .int ((mbs (af 19) (lkM n f sn sw) (owM sc cl) le i).1)), (3, .int ((mbs (af 19) (lkM n f sn sw) (owM sc cl) le i).2)), (4, .int (nI i))]) hx hb dX8_bestOf_81 hl (by decide) rfl (fun ls hl => ?_)
                refine lv_iload hx hb dX8_bestOf_83 (lv_at hl 0 rfl) ?_
                refine lv_if_eq (tgt := 93) hx hb dX8_bestOf_85 (by decide) (fun c85 => ?_) (fun c85 => ?_)
                · exact absurd c85 (by decide)
                · refine lv_iload hx hb dX8_bestOf_88 (lv_at hl 7 rfl) ?_
                  refine lv_goto (tgt := 94) hx hb dX8_bestOf_90 (by decide) ?_
                  refine m_top (show (nI i : Int32) = (mbs (af 19) (lkM n f sn sw) (owM sc cl) le (i + 1)).1 from by first | (rw [mbs_t (by assumption) (by assumption)]; done) | (rw [mbs_n (Or.inl (by assumption))]; done) | (rw [mbs_n (Or.inr (by assumption))]; done)) ?_
                  refine lv_istore_n (lv' := [(2, .int ((mbs (af 19) (lkM n f sn sw) (owM sc cl) le (i + 1)).1)), (7, .int 1), (6, .int (2 * (mit (af 19) (lkM n f sn sw) i) + owM sc cl i)), (5, .int (mit (af 19) (lkM n f sn sw) i)), (0, .ref (adr 0)), (1, .int cl), (3, .int ((mbs (af 19) (lkM n f sn sw) (owM sc cl) le i).2)), (4, .int (nI i))]) hx hb dX8_bestOf_94 rfl hl (by decide) rfl (fun ls hl => ?_)
                  refine lv_iload hx hb dX8_bestOf_95 (lv_at hl 1 rfl) ?_
                  refine lv_if_eq (tgt := 105) hx hb dX8_bestOf_97 (by decide) (fun c97 => ?_) (fun c97 => ?_)
                  · exact absurd c97 (by decide)
                  · refine lv_iload hx hb dX8_bestOf_100 (lv_at hl 2 rfl) ?_
                    refine lv_goto (tgt := 106) hx hb dX8_bestOf_102 (by decide) ?_
                    refine m_top (show (2 * (mit (af 19) (lkM n f sn sw) i) + owM sc cl i : Int32) = (mbs (af 19) (lkM n f sn sw) (owM sc cl) le (i + 1)).2 from by first | (rw [mbs_t (by assumption) (by assumption)]; done) | (rw [mbs_n (Or.inl (by assumption))]; done) | (rw [mbs_n (Or.inr (by assumption))]; done)) ?_
                    refine lv_istore_n (lv' := [(3, .int ((mbs (af 19) (lkM n f sn sw) (owM sc cl) le (i + 1)).2)), (2, .int ((mbs (af 19) (lkM n f sn sw) (owM sc cl) le (i + 1)).1)), (7, .int 1), (6, .int (2 * (mit (af 19) (lkM n f sn sw) i) + owM sc cl i)), (5, .int (mit (af 19) (lkM n f sn sw) i)), (0, .ref (adr 0)), (1, .int cl), (4, .int (nI i))]) hx hb dX8_bestOf_106 rfl hl (by decide) rfl (fun ls hl => ?_)
                    refine lv_iinc (v := nI (i + 1)) (lv' := [(4, .int (nI (i + 1))), (3, .int ((mbs (af 19) (lkM n f sn sw) (owM sc cl) le (i + 1)).2)), (2, .int ((mbs (af 19) (lkM n f sn sw) (owM sc cl) le (i + 1)).1)), (7, .int 1), (6, .int (2 * (mit (af 19) (lkM n f sn sw) i) + owM sc cl i)), (5, .int (mit (af 19) (lkM n f sn sw) i)), (0, .ref (adr 0)), (1, .int cl)]) hx hb dX8_bestOf_107 hl (k := 7) rfl (nI_1 _) (by decide) rfl (fun ls hl => ?_)
                    refine lv_goto (tgt := 7) hx hb dX8_bestOf_110 (by decide) ?_
                    exact ih7 (i + 1) Tz (by omega) (by omega) _ _ (MW.cg hM (fun _ => rfl) (fun j9 => if q0_ : j9 = 23 then (by subst q0_; rfl) else (by first | rfl | simp only [va_up, if_neg q0_]))) hS ls (lv_sub hl [6, 7, 2, 1, 0] rfl)
          · refine lv_iconst (v := 1) hx hb dX8_bestOf_53 (by decide) ?_
            refine lv_goto (tgt := 58) hx hb dX8_bestOf_54 (by decide) ?_
            refine lv_iadd hx hb dX8_bestOf_58 ?_
            refine m_top (show ((2 * (mit (af 19) (lkM n f sn sw) i)) + 1) = 2 * (mit (af 19) (lkM n f sn sw) i) + owM sc cl i from by first | (rw [show owM sc cl i = 1 from if_pos (c50)]) | (rw [show owM sc cl i = 0 from if_neg c50])) ?_
            refine lv_istore (lv' := [(6, .int (2 * (mit (af 19) (lkM n f sn sw) i) + owM sc cl i)), (5, .int (mit (af 19) (lkM n f sn sw) i)), (0, .ref (adr 0)), (1, .int cl), (2, .int ((mbs (af 19) (lkM n f sn sw) (owM sc cl) le i).1)), (3, .int ((mbs (af 19) (lkM n f sn sw) (owM sc cl) le i).2)), (4, .int (nI i))]) hx hb dX8_bestOf_59 hl (by decide) rfl (fun ls hl => ?_)
            refine lv_iload hx hb dX8_bestOf_61 (lv_at hl 1 rfl) ?_
            refine lv_aload_n hx hb dX8_bestOf_63 rfl (lv_at hl 2 rfl) ?_
            refine m_get (ci := 8) (C := RX8) (T := TX8) (n := 35) (v := .int (sf 2)) hx hb hts inX8_ hown hK rfl (hM.cel (by omega) (show (mw ac adr sf (va_up af 23 Tz)) 0 = .inr (8, mfs adr sf) from rfl)) 3 (by decide) (hts _ (by decide +kernel)) rfl dX8_bestOf_64 ?_
            refine m_top (show (sf 2) = le from hp.1) ?_
            refine lv_icmp_lt (tgt := 80) hx hb dX8_bestOf_67 (by decide) (fun c67 => ?_) (fun c67 => ?_)
            · refine lv_iconst (v := 0) hx hb dX8_bestOf_80 (by decide) ?_
              refine lv_istore (lv' := [(7, .int 0), (6, .int (2 * (mit (af 19) (lkM n f sn sw) i) + owM sc cl i)), (5, .int (mit (af 19) (lkM n f sn sw) i)), (0, .ref (adr 0)), (1, .int cl), (2, .int ((mbs (af 19) (lkM n f sn sw) (owM sc cl) le i).1)), (3, .int ((mbs (af 19) (lkM n f sn sw) (owM sc cl) le i).2)), (4, .int (nI i))]) hx hb dX8_bestOf_81 hl (by decide) rfl (fun ls hl => ?_)
              refine lv_iload hx hb dX8_bestOf_83 (lv_at hl 0 rfl) ?_
              refine lv_if_eq (tgt := 93) hx hb dX8_bestOf_85 (by decide) (fun c85 => ?_) (fun c85 => ?_)
              · refine lv_iload_n hx hb dX8_bestOf_93 rfl (lv_at hl 5 rfl) ?_
                refine m_top (show ((mbs (af 19) (lkM n f sn sw) (owM sc cl) le i).1 : Int32) = (mbs (af 19) (lkM n f sn sw) (owM sc cl) le (i + 1)).1 from by first | (rw [mbs_t (by assumption) (by assumption)]; done) | (rw [mbs_n (Or.inl (by assumption))]; done) | (rw [mbs_n (Or.inr (by assumption))]; done)) ?_
                refine lv_istore_n (lv' := [(2, .int ((mbs (af 19) (lkM n f sn sw) (owM sc cl) le (i + 1)).1)), (7, .int 0), (6, .int (2 * (mit (af 19) (lkM n f sn sw) i) + owM sc cl i)), (5, .int (mit (af 19) (lkM n f sn sw) i)), (0, .ref (adr 0)), (1, .int cl), (3, .int ((mbs (af 19) (lkM n f sn sw) (owM sc cl) le i).2)), (4, .int (nI i))]) hx hb dX8_bestOf_94 rfl hl (by decide) rfl (fun ls hl => ?_)
                refine lv_iload hx hb dX8_bestOf_95 (lv_at hl 1 rfl) ?_
                refine lv_if_eq (tgt := 105) hx hb dX8_bestOf_97 (by decide) (fun c97 => ?_) (fun c97 => ?_)
                · refine lv_iload_n hx hb dX8_bestOf_105 rfl (lv_at hl 6 rfl) ?_
                  refine m_top (show ((mbs (af 19) (lkM n f sn sw) (owM sc cl) le i).2 : Int32) = (mbs (af 19) (lkM n f sn sw) (owM sc cl) le (i + 1)).2 from by first | (rw [mbs_t (by assumption) (by assumption)]; done) | (rw [mbs_n (Or.inl (by assumption))]; done) | (rw [mbs_n (Or.inr (by assumption))]; done)) ?_
                  refine lv_istore_n (lv' := [(3, .int ((mbs (af 19) (lkM n f sn sw) (owM sc cl) le (i + 1)).2)), (2, .int ((mbs (af 19) (lkM n f sn sw) (owM sc cl) le (i + 1)).1)), (7, .int 0), (6, .int (2 * (mit (af 19) (lkM n f sn sw) i) + owM sc cl i)), (5, .int (mit (af 19) (lkM n f sn sw) i)), (0, .ref (adr 0)), (1, .int cl), (4, .int (nI i))]) hx hb dX8_bestOf_106 rfl hl (by decide) rfl (fun ls hl => ?_)
                  refine lv_iinc (v := nI (i + 1)) (lv' := [(4, .int (nI (i + 1))), (3, .int ((mbs (af 19) (lkM n f sn sw) (owM sc cl) le (i + 1)).2)), (2, .int ((mbs (af 19) (lkM n f sn sw) (owM sc cl) le (i + 1)).1)), (7, .int 0), (6, .int (2 * (mit (af 19) (lkM n f sn sw) i) + owM sc cl i)), (5, .int (mit (af 19) (lkM n f sn sw) i)), (0, .ref (adr 0)), (1, .int cl)]) hx hb dX8_bestOf_107 hl (k := 7) rfl (nI_1 _) (by decide) rfl (fun ls hl => ?_)
                  refine lv_goto (tgt := 7) hx hb dX8_bestOf_110 (by decide) ?_
                  exact ih7 (i + 1) Tz (by omega) (by omega) _ _ (MW.cg hM (fun _ => rfl) (fun j9 => if q0_ : j9 = 23 then (by subst q0_; rfl) else (by first | rfl | simp only [va_up, if_neg q0_]))) hS ls (lv_sub hl [6, 7, 2, 1, 0] rfl)
                · exact absurd c97 (by decide)
              · exact absurd c85 (by decide)
            · refine lv_iload hx hb dX8_bestOf_70 (lv_at hl 0 rfl) ?_
              refine lv_iload_n hx hb dX8_bestOf_72 rfl (lv_at hl 5 rfl) ?_
              refine lv_icmp_lt (tgt := 80) hx hb dX8_bestOf_73 (by decide) (fun c73 => ?_) (fun c73 => ?_)
              · refine lv_iconst (v := 0) hx hb dX8_bestOf_80 (by decide) ?_
                refine lv_istore (lv' := [(7, .int 0), (6, .int (2 * (mit (af 19) (lkM n f sn sw) i) + owM sc cl i)), (5, .int (mit (af 19) (lkM n f sn sw) i)), (0, .ref (adr 0)), (1, .int cl), (2, .int ((mbs (af 19) (lkM n f sn sw) (owM sc cl) le i).1)), (3, .int ((mbs (af 19) (lkM n f sn sw) (owM sc cl) le i).2)), (4, .int (nI i))]) hx hb dX8_bestOf_81 hl (by decide) rfl (fun ls hl => ?_)
                refine lv_iload hx hb dX8_bestOf_83 (lv_at hl 0 rfl) ?_
                refine lv_if_eq (tgt := 93) hx hb dX8_bestOf_85 (by decide) (fun c85 => ?_) (fun c85 => ?_)
                · refine lv_iload_n hx hb dX8_bestOf_93 rfl (lv_at hl 5 rfl) ?_
                  refine m_top (show ((mbs (af 19) (lkM n f sn sw) (owM sc cl) le i).1 : Int32) = (mbs (af 19) (lkM n f sn sw) (owM sc cl) le (i + 1)).1 from by first | (rw [mbs_t (by assumption) (by assumption)]; done) | (rw [mbs_n (Or.inl (by assumption))]; done) | (rw [mbs_n (Or.inr (by assumption))]; done)) ?_
                  refine lv_istore_n (lv' := [(2, .int ((mbs (af 19) (lkM n f sn sw) (owM sc cl) le (i + 1)).1)), (7, .int 0), (6, .int (2 * (mit (af 19) (lkM n f sn sw) i) + owM sc cl i)), (5, .int (mit (af 19) (lkM n f sn sw) i)), (0, .ref (adr 0)), (1, .int cl), (3, .int ((mbs (af 19) (lkM n f sn sw) (owM sc cl) le i).2)), (4, .int (nI i))]) hx hb dX8_bestOf_94 rfl hl (by decide) rfl (fun ls hl => ?_)
                  refine lv_iload hx hb dX8_bestOf_95 (lv_at hl 1 rfl) ?_
                  refine lv_if_eq (tgt := 105) hx hb dX8_bestOf_97 (by decide) (fun c97 => ?_) (fun c97 => ?_)
                  · refine lv_iload_n hx hb dX8_bestOf_105 rfl (lv_at hl 6 rfl) ?_
                    refine m_top (show ((mbs (af 19) (lkM n f sn sw) (owM sc cl) le i).2 : Int32) = (mbs (af 19) (lkM n f sn sw) (owM sc cl) le (i + 1)).2 from by first | (rw [mbs_t (by assumption) (by assumption)]; done) | (rw [mbs_n (Or.inl (by assumption))]; done) | (rw [mbs_n (Or.inr (by assumption))]; done)) ?_
                    refine lv_istore_n (lv' := [(3, .int ((mbs (af 19) (lkM n f sn sw) (owM sc cl) le (i + 1)).2)), (2, .int ((mbs (af 19) (lkM n f sn sw) (owM sc cl) le (i + 1)).1)), (7, .int 0), (6, .int (2 * (mit (af 19) (lkM n f sn sw) i) + owM sc cl i)), (5, .int (mit (af 19) (lkM n f sn sw) i)), (0, .ref (adr 0)), (1, .int cl), (4, .int (nI i))]) hx hb dX8_bestOf_106 rfl hl (by decide) rfl (fun ls hl => ?_)
                    refine lv_iinc (v := nI (i + 1)) (lv' := [(4, .int (nI (i + 1))), (3, .int ((mbs (af 19) (lkM n f sn sw) (owM sc cl) le (i + 1)).2)), (2, .int ((mbs (af 19) (lkM n f sn sw) (owM sc cl) le (i + 1)).1)), (7, .int 0), (6, .int (2 * (mit (af 19) (lkM n f sn sw) i) + owM sc cl i)), (5, .int (mit (af 19) (lkM n f sn sw) i)), (0, .ref (adr 0)), (1, .int cl)]) hx hb dX8_bestOf_107 hl (k := 7) rfl (nI_1 _) (by decide) rfl (fun ls hl => ?_)
                    refine lv_goto (tgt := 7) hx hb dX8_bestOf_110 (by decide) ?_
                    exact ih7 (i + 1) Tz (by omega) (by omega) _ _ (MW.cg hM (fun _ => rfl) (fun j9 => if q0_ : j9 = 23 then (by subst q0_; rfl) else (by first | rfl | simp only [va_up, if_neg q0_]))) hS ls (lv_sub hl [6, 7, 2, 1, 0] rfl)
                  · exact absurd c97 (by decide)
                · exact absurd c85 (by decide)
              · refine lv_iconst (v := 1) hx hb dX8_bestOf_76 (by decide) ?_
                refine lv_goto (tgt := 81) hx hb dX8_bestOf_77 (by decide) ?_
                refine lv_istore (lv' := [(7, .int 1), (6, .int (2 * (mit (af 19) (lkM n f sn sw) i) + owM sc cl i)), (5, .int (mit (af 19) (lkM n f sn sw) i)), (0, .ref (adr 0)), (1, .int cl), (2, .int ((mbs (af 19) (lkM n f sn sw) (owM sc cl) le i).1)), (3, .int ((mbs (af 19) (lkM n f sn sw) (owM sc cl) le i).2)), (4, .int (nI i))]) hx hb dX8_bestOf_81 hl (by decide) rfl (fun ls hl => ?_)
                refine lv_iload hx hb dX8_bestOf_83 (lv_at hl 0 rfl) ?_
                refine lv_if_eq (tgt := 93) hx hb dX8_bestOf_85 (by decide) (fun c85 => ?_) (fun c85 => ?_)
                · exact absurd c85 (by decide)
                · refine lv_iload hx hb dX8_bestOf_88 (lv_at hl 7 rfl) ?_
                  refine lv_goto (tgt := 94) hx hb dX8_bestOf_90 (by decide) ?_
                  refine m_top (show (nI i : Int32) = (mbs (af 19) (lkM n f sn sw) (owM sc cl) le (i + 1)).1 from by first | (rw [mbs_t (by assumption) (by assumption)]; done) | (rw [mbs_n (Or.inl (by assumption))]; done) | (rw [mbs_n (Or.inr (by assumption))]; done)) ?_
                  refine lv_istore_n (lv' := [(2, .int ((mbs (af 19) (lkM n f sn sw) (owM sc cl) le (i + 1)).1)), (7, .int 1), (6, .int (2 * (mit (af 19) (lkM n f sn sw) i) + owM sc cl i)), (5, .int (mit (af 19) (lkM n f sn sw) i)), (0, .ref (adr 0)), (1, .int cl), (3, .int ((mbs (af 19) (lkM n f sn sw) (owM sc cl) le i).2)), (4, .int (nI i))]) hx hb dX8_bestOf_94 rfl hl (by decide) rfl (fun ls hl => ?_)
                  refine lv_iload hx hb dX8_bestOf_95 (lv_at hl 1 rfl) ?_
                  refine lv_if_eq (tgt := 105) hx hb dX8_bestOf_97 (by decide) (fun c97 => ?_) (fun c97 => ?_)
                  · exact absurd c97 (by decide)
                  · refine lv_iload hx hb dX8_bestOf_100 (lv_at hl 2 rfl) ?_
                    refine lv_goto (tgt := 106) hx hb dX8_bestOf_102 (by decide) ?_
                    refine m_top (show (2 * (mit (af 19) (lkM n f sn sw) i) + owM sc cl i : Int32) = (mbs (af 19) (lkM n f sn sw) (owM sc cl) le (i + 1)).2 from by first | (rw [mbs_t (by assumption) (by assumption)]; done) | (rw [mbs_n (Or.inl (by assumption))]; done) | (rw [mbs_n (Or.inr (by assumption))]; done)) ?_
                    refine lv_istore_n (lv' := [(3, .int ((mbs (af 19) (lkM n f sn sw) (owM sc cl) le (i + 1)).2)), (2, .int ((mbs (af 19) (lkM n f sn sw) (owM sc cl) le (i + 1)).1)), (7, .int 1), (6, .int (2 * (mit (af 19) (lkM n f sn sw) i) + owM sc cl i)), (5, .int (mit (af 19) (lkM n f sn sw) i)), (0, .ref (adr 0)), (1, .int cl), (4, .int (nI i))]) hx hb dX8_bestOf_106 rfl hl (by decide) rfl (fun ls hl => ?_)
                    refine lv_iinc (v := nI (i + 1)) (lv' := [(4, .int (nI (i + 1))), (3, .int ((mbs (af 19) (lkM n f sn sw) (owM sc cl) le (i + 1)).2)), (2, .int ((mbs (af 19) (lkM n f sn sw) (owM sc cl) le (i + 1)).1)), (7, .int 1), (6, .int (2 * (mit (af 19) (lkM n f sn sw) i) + owM sc cl i)), (5, .int (mit (af 19) (lkM n f sn sw) i)), (0, .ref (adr 0)), (1, .int cl)]) hx hb dX8_bestOf_107 hl (k := 7) rfl (nI_1 _) (by decide) rfl (fun ls hl => ?_)
                    refine lv_goto (tgt := 7) hx hb dX8_bestOf_110 (by decide) ?_
                    exact ih7 (i + 1) Tz (by omega) (by omega) _ _ (MW.cg hM (fun _ => rfl) (fun j9 => if q0_ : j9 = 23 then (by subst q0_; rfl) else (by first | rfl | simp only [va_up, if_neg q0_]))) hS ls (lv_sub hl [6, 7, 2, 1, 0] rfl)
  exact L7 _ 0 (af 23) (Nat.lt_succ_self _) (Nat.zero_le _) _ _ (MW.cg hM (fun _ => rfl) (fun j9 => if q0_ : j9 = 23 then (by subst q0_; rfl) else (by first | rfl | simp only [va_up, if_neg q0_]))) hS ls (lv_sub hl [3, 4, 2, 1, 0] rfl)
set_option maxHeartbeats 4000000 in
set_option maxRecDepth 100000 in
/-- X8_shareOf -/
theorem k_X8_shareOf (l : Launch) (D : va_G) (ac : Nat → ClassId) (H : Heap) (A : Nat → Prop) (adr : Nat → Nat) (sf : Nat → Int32) (af : Nat → Nat → Int32) (hM : MW D A 24 adr (mw ac adr sf af) H) (ns : Nat) (sc sn : Nat → Nat) (sw : Nat → Nat → Nat) (sb : Nat → Nat → Int32) (hs : MSen sf af ns sc sn sw sb) (n : Nat) (f : Nat → Int32) (hw : MRow sf af n f) (x : Int32) (hx9 : x = -1 ∨ ∃ i, i < ns ∧ x = nI i) : WRi l yX8_shareOf wsX8_shareOf ({ frames := 3, cells := 0, slots := 0, locals := 68 }) [.ref (adr 0), .int x] D ac H A 24 adr (fun r w1 => r = shM n f sn sw ns x ∧ ∃ T1 : Nat → Int32, w1 = mw ac adr sf (va_up af 23 T1)) := by
  refine Met.ofW (cc := cX8_shareOf) (maxL := 3) (ret := (some .int)) (by decide) rfl ?_
  intro p e s m args below meth c s₁ B hml hv
  obtain ⟨hargs, hsz, hK⟩ := hv
  have hx := B.exec
  have hb := B.bytes
  have hr := B.returns
  have hts := atoms_spec (ws := wsX8_shareOf) B.pre
  have hown : s.vm.findClass RX8 = some m.cls := findClass_of_methodNamed B.named
  have hlocks := B.notSynchronized
  subst hsz
  have hS : va_S A s.heap s.heap [] := va_S.rf
  have hl := lv_entry ([.ref (adr 0), .int x]) (n := 3) (Nat.le_of_ble_eq_true rfl)
  have hen := lg_entry_eq m [.ref (adr 0), .int x] 3
  rw [← hargs] at hen
  rw [hen]
  generalize (lg_sl ([.ref (adr 0), .int x]) ++ List.replicate (3 - (lg_sl ([.ref (adr 0), .int x])).length) Slot.unset).toArray = ls at hl ⊢
  have hl : lv_has ls 3 [(0, .ref (adr 0)), (1, .int x)] := hl
  have h8 := hs.2.1
  rcases hx9 with rfl | ⟨i, hi, rfl⟩
  · have hM := MW.cg (s1 := sf) (a1 := (va_up af 23 (af 23))) hM (fun _ => rfl) (fun j9 => if q0_ : j9 = 23 then (by subst q0_; show af 23 = af 23; exact (rfl)) else (by first | rfl | simp only [va_up, if_neg q0_]))
    refine lv_iload_n hx hb dX8_shareOf_0 rfl (lv_at hl 1 rfl) ?_
    refine lv_iconst (v := (-1)) hx hb dX8_shareOf_1 (by decide) ?_
    refine lv_icmp_ne (tgt := 9) hx hb dX8_shareOf_2 (by decide) (fun c2 => ?_) (fun c2 => ?_)
    · exact absurd c2 (by decide)
    · refine lv_iconst (v := 0) hx hb dX8_shareOf_5 (by decide) ?_
      refine lv_goto (tgt := 14) hx hb dX8_shareOf_6 (by decide) ?_
      refine lv_istore_n (lv' := [(2, .int 0), (0, .ref (adr 0)), (1, .int (-1))]) hx hb dX8_shareOf_14 rfl hl (by decide) rfl (fun ls hl => ?_)
      refine lv_iload_n hx hb dX8_shareOf_15 rfl (lv_at hl 2 rfl) ?_
      refine lv_iconst (v := (-1)) hx hb dX8_shareOf_16 (by decide) ?_
      refine lv_icmp_ne (tgt := 25) hx hb dX8_shareOf_17 (by decide) (fun c17 => ?_) (fun c17 => ?_)
      · exact absurd c17 (by decide)
      · refine lv_bipush (v := 100) hx hb dX8_shareOf_20 (by decide) ?_
        refine lv_goto (tgt := 60) hx hb dX8_shareOf_22 (by decide) ?_
        exact e_wi hx hb hlocks hr dX8_shareOf_60 hM hS (⟨shM_n, af 23, rfl⟩)
  · refine lv_iload_n hx hb dX8_shareOf_0 rfl (lv_at hl 1 rfl) ?_
    refine lv_iconst (v := (-1)) hx hb dX8_shareOf_1 (by decide) ?_
    refine lv_icmp_ne (tgt := 9) hx hb dX8_shareOf_2 (by decide) (fun c2 => ?_) (fun c2 => ?_)
    · refine lv_aload_n hx hb dX8_shareOf_9 rfl (lv_at hl 0 rfl) ?_
      refine lv_iload_n hx hb dX8_shareOf_10 rfl (lv_at hl 1 rfl) ?_
      refine w_calli (va_runV (As := [.int (nI i)]) (rest := []) ⟨hx, hb, hml, hown, hts⟩ (k_X8_likenessOf l D ac _ A adr sf af hM ns sc sn sw sb (hs.t rfl rfl rfl rfl rfl) n f (hw.t rfl rfl) i (by omega)) (cwV 1 hts gX8_shareOf_X8_likenessOf rfl rfl rfl (by decide +kernel) ⟨Nat.le_of_ble_eq_true rfl, Nat.le_of_ble_eq_true rfl⟩) (pV hK (ci := 8) rfl (hM.cel (by omega) (show (mw ac adr sf af) 0 = .inr (8, mfs adr sf) from rfl))) rfl rfl hl.1 rfl (lv_room (Nat.le_of_ble_eq_true rfl)) dX8_shareOf_11 ⟨Nat.le_of_ble_eq_true rfl, Nat.le_of_ble_eq_true rfl⟩) hS (fun rv_2 w_3 H locs hw_3 hM hS => ?_)
      obtain ⟨hrv_2, T_1, he_4⟩ := hw_3
      rw [he_4] at hM
      have hM := (MW.cg (s1 := sf) (a1 := (va_up af 23 T_1)) hM (fun _ => rfl) (fun j9 => if q0_ : j9 = 23 then (by subst q0_; rfl) else (by first | rfl | simp only [va_up, if_neg q0_])))
      subst hrv_2
      refine lv_istore_n (lv' := [(2, .int (lkM n f sn sw i)), (0, .ref (adr 0)), (1, .int (nI i))]) hx hb dX8_shareOf_14 rfl hl (by decide) rfl (fun ls hl => ?_)
      refine lv_iload_n hx hb dX8_shareOf_15 rfl (lv_at hl 2 rfl) ?_
      refine lv_iconst (v := (-1)) hx hb dX8_shareOf_16 (by decide) ?_
      refine lv_icmp_ne (tgt := 25) hx hb dX8_shareOf_17 (by decide) (fun c17 => ?_) (fun c17 => ?_)
      · refine lv_iload_n hx hb dX8_shareOf_25 rfl (lv_at hl 0 rfl) ?_
        refine lv_bipush (v := 100) hx hb dX8_shareOf_26 (by decide) ?_
        refine lv_icmp_ne (tgt := 36) hx hb dX8_shareOf_28 (by decide) (fun c28 => ?_) (fun c28 => ?_)
        · refine lv_iload_n hx hb dX8_shareOf_36 rfl (lv_at hl 0 rfl) ?_
          refine lv_bipush (v := 85) hx hb dX8_shareOf_37 (by decide) ?_
          refine lv_icmp_lt (tgt := 47) hx hb dX8_shareOf_39 (by decide) (fun c39 => ?_) (fun c39 => ?_)
          · refine lv_iload_n hx hb dX8_shareOf_47 rfl (lv_at hl 0 rfl) ?_
            refine lv_bipush (v := 70) hx hb dX8_shareOf_48 (by decide) ?_
            refine lv_icmp_lt (tgt := 58) hx hb dX8_shareOf_50 (by decide) (fun c50 => ?_) (fun c50 => ?_)
            · refine lv_bipush (v := 90) hx hb dX8_shareOf_58 (by decide) ?_
              exact e_wi hx hb hlocks hr dX8_shareOf_60 hM hS (⟨shM_i hi h8 (by unfold shN; first | (rw [if_pos (c28)]; done) | (rw [if_neg c28, if_pos (ge_of_nlt c39)]; done) | (rw [if_neg c28, if_neg (nge_of_lt c39), if_pos (ge_of_nlt c50)]; done) | (rw [if_neg c28, if_neg (nge_of_lt c39), if_neg (nge_of_lt c50)]; done)), T_1, rfl⟩)
            · refine lv_bipush (v := 70) hx hb dX8_shareOf_53 (by decide) ?_
              refine lv_goto (tgt := 60) hx hb dX8_shareOf_55 (by decide) ?_
              exact e_wi hx hb hlocks hr dX8_shareOf_60 hM hS (⟨shM_i hi h8 (by unfold shN; first | (rw [if_pos (c28)]; done) | (rw [if_neg c28, if_pos (ge_of_nlt c39)]; done) | (rw [if_neg c28, if_neg (nge_of_lt c39), if_pos (ge_of_nlt c50)]; done) | (rw [if_neg c28, if_neg (nge_of_lt c39), if_neg (nge_of_lt c50)]; done)), T_1, rfl⟩)
          · refine lv_bipush (v := 50) hx hb dX8_shareOf_42 (by decide) ?_
            refine lv_goto (tgt := 60) hx hb dX8_shareOf_44 (by decide) ?_
            exact e_wi hx hb hlocks hr dX8_shareOf_60 hM hS (⟨shM_i hi h8 (by unfold shN; first | (rw [if_pos (c28)]; done) | (rw [if_neg c28, if_pos (ge_of_nlt c39)]; done) | (rw [if_neg c28, if_neg (nge_of_lt c39), if_pos (ge_of_nlt c50)]; done) | (rw [if_neg c28, if_neg (nge_of_lt c39), if_neg (nge_of_lt c50)]; done)), T_1, rfl⟩)
        · refine lv_bipush (v := 20) hx hb dX8_shareOf_31 (by decide) ?_
          refine lv_goto (tgt := 60) hx hb dX8_shareOf_33 (by decide) ?_
          exact e_wi hx hb hlocks hr dX8_shareOf_60 hM hS (⟨shM_i hi h8 (by unfold shN; first | (rw [if_pos (c28)]; done) | (rw [if_neg c28, if_pos (ge_of_nlt c39)]; done) | (rw [if_neg c28, if_neg (nge_of_lt c39), if_pos (ge_of_nlt c50)]; done) | (rw [if_neg c28, if_neg (nge_of_lt c39), if_neg (nge_of_lt c50)]; done)), T_1, rfl⟩)
      · exact absurd (c17) (nI_m1 (by omega))
    · exact absurd (c2) (nI_m1 (by omega))
set_option maxHeartbeats 4000000 in
set_option maxRecDepth 100000 in
/-- X8_costOf -/
theorem k_X8_costOf (l : Launch) (D : va_G) (ac : Nat → ClassId) (H : Heap) (A : Nat → Prop) (adr : Nat → Nat) (sf : Nat → Int32) (af : Nat → Nat → Int32) (hM : MW D A 24 adr (mw ac adr sf af) H) (ns : Nat) (sc sn : Nat → Nat) (sw : Nat → Nat → Nat) (sb : Nat → Nat → Int32) (hs : MSen sf af ns sc sn sw sb) (n : Nat) (f : Nat → Int32) (hw : MRow sf af n f) (le pr ra : Int32) (hp : MPri sf le pr ra) (x : Int32) (hx9 : x = -1 ∨ ∃ i, i < ns ∧ x = nI i) (b : Int32) : WRi l yX8_costOf wsX8_costOf ({ frames := 4, cells := 0, slots := 0, locals := 90 }) [.ref (adr 0), .int x, .int b] D ac H A 24 adr (fun r w1 => r = cstI (nI n) pr (shM n f sn sw ns x) b ∧ ∃ T1 : Nat → Int32, w1 = mw ac adr sf (va_up af 23 T1)) := by
  refine Met.ofW (cc := cX8_costOf) (maxL := 4) (ret := (some .int)) (by decide) rfl ?_
  intro p e s m args below meth c s₁ B hml hv
  obtain ⟨hargs, hsz, hK⟩ := hv
  have hx := B.exec
  have hb := B.bytes
  have hr := B.returns
  have hts := atoms_spec (ws := wsX8_costOf) B.pre
  have hown : s.vm.findClass RX8 = some m.cls := findClass_of_methodNamed B.named
  have hlocks := B.notSynchronized
  subst hsz
  have inX8_ : ∀ w ∈ wsX80, w ∈ wsX8_costOf := by decide +kernel
  have hS : va_S A s.heap s.heap [] := va_S.rf
  have hl := lv_entry ([.ref (adr 0), .int x, .int b]) (n := 4) (Nat.le_of_ble_eq_true rfl)
  have hen := lg_entry_eq m [.ref (adr 0), .int x, .int b] 4
  rw [← hargs] at hen
  rw [hen]
  generalize (lg_sl ([.ref (adr 0), .int x, .int b]) ++ List.replicate (4 - (lg_sl ([.ref (adr 0), .int x, .int b])).length) Slot.unset).toArray = ls at hl ⊢
  have hl : lv_has ls 4 [(0, .ref (adr 0)), (1, .int x), (2, .int b)] := hl
  refine lv_aload_n hx hb dX8_costOf_0 rfl (lv_at hl 0 rfl) ?_
  refine m_get (ci := 8) (C := RX8) (T := TX8) (n := 35) (v := .int (sf 11)) hx hb hts inX8_ hown hK rfl (hM.cel (by omega) (show (mw ac adr sf af) 0 = .inr (8, mfs adr sf) from rfl)) 32 (by decide) (hts _ (by decide +kernel)) rfl dX8_costOf_1 ?_
  refine m_top (show (sf 11) = nI n from hw.1) ?_
  refine lv_aload_n hx hb dX8_costOf_4 rfl (lv_at hl 0 rfl) ?_
  refine m_get (ci := 8) (C := RX8) (T := TX8) (n := 35) (v := .int (sf 3)) hx hb hts inX8_ hown hK rfl (hM.cel (by omega) (show (mw ac adr sf af) 0 = .inr (8, mfs adr sf) from rfl)) 4 (by decide) (hts _ (by decide +kernel)) rfl dX8_costOf_5 ?_
  refine m_top (show (sf 3) = pr from hp.2.1) ?_
  refine lv_imul hx hb dX8_costOf_8 ?_
  refine lv_aload_n hx hb dX8_costOf_9 rfl (lv_at hl 0 rfl) ?_
  refine lv_iload_n hx hb dX8_costOf_10 rfl (lv_at hl 1 rfl) ?_
  refine w_calli (va_runV (As := [.int x]) (rest := [.int ((nI n) * pr)]) ⟨hx, hb, hml, hown, hts⟩ (k_X8_shareOf l D ac _ A adr sf af hM ns sc sn sw sb (hs.t rfl rfl rfl rfl rfl) n f (hw.t rfl rfl) x hx9) (cwV 1 hts gX8_costOf_X8_shareOf rfl rfl rfl (by decide +kernel) ⟨Nat.le_of_ble_eq_true rfl, Nat.le_of_ble_eq_true rfl⟩) (pV hK (ci := 8) rfl (hM.cel (by omega) (show (mw ac adr sf af) 0 = .inr (8, mfs adr sf) from rfl))) rfl rfl hl.1 rfl (lv_room (Nat.le_of_ble_eq_true rfl)) dX8_costOf_11 ⟨Nat.le_of_ble_eq_true rfl, Nat.le_of_ble_eq_true rfl⟩) hS (fun rv_2 w_3 H locs hw_3 hM hS => ?_)
  obtain ⟨hrv_2, T_1, he_4⟩ := hw_3
  rw [he_4] at hM
  have hM := (MW.cg (s1 := sf) (a1 := (va_up af 23 T_1)) hM (fun _ => rfl) (fun j9 => if q0_ : j9 = 23 then (by subst q0_; rfl) else (by first | rfl | simp only [va_up, if_neg q0_])))
  subst hrv_2
  refine lv_imul hx hb dX8_costOf_14 ?_
  refine lv_bipush (v := 100) hx hb dX8_costOf_15 (by decide) ?_
  refine lv_idiv hx hb dX8_costOf_17 (by decide) ?_
  refine lv_istore_n (lv' := [(3, .int ((((nI n) * pr) * (shM n f sn sw ns x)) / 100)), (0, .ref (adr 0)), (1, .int x), (2, .int b)]) hx hb dX8_costOf_18 rfl hl (by decide) rfl (fun ls hl => ?_)
  refine lv_iload_n hx hb dX8_costOf_19 rfl (lv_at hl 3 rfl) ?_
  refine lv_if_eq (tgt := 31) hx hb dX8_costOf_20 (by decide) (fun c20 => ?_) (fun c20 => ?_)
  · refine lv_iload_n hx hb dX8_costOf_31 rfl (lv_at hl 0 rfl) ?_
    exact e_wi hx hb hlocks hr dX8_costOf_32 hM hS (⟨by unfold cstI; first | rw [if_pos c20] | rw [if_neg c20], T_1, rfl⟩)
  · refine lv_iload_n hx hb dX8_costOf_23 rfl (lv_at hl 0 rfl) ?_
    refine lv_iload_n hx hb dX8_costOf_24 rfl (lv_at hl 0 rfl) ?_
    refine lv_iconst (v := 2) hx hb dX8_costOf_25 (by decide) ?_
    refine lv_idiv hx hb dX8_costOf_26 (by decide) ?_
    refine lv_iadd hx hb dX8_costOf_27 ?_
    refine lv_goto (tgt := 32) hx hb dX8_costOf_28 (by decide) ?_
    exact e_wi hx hb hlocks hr dX8_costOf_32 hM hS (⟨by unfold cstI; first | rw [if_pos c20] | rw [if_neg c20], T_1, rfl⟩)
