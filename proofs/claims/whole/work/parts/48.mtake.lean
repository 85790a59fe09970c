/-- eight places of a long row, those of o -/
def blk (o : Nat) (b B : Nat → Int32) : Nat → Int32 := fun k => if 8 * o ≤ k ∧ k < 8 * o + 8 then b (k - 8 * o) else B k
section BLK
variable {o o2 i j : Nat} {b B : Nat → Int32} {v : Int32}
theorem blk_0 : blk o (fun j => B (8 * o + j)) B = B := by
  funext k
  unfold blk
  by_cases h : 8 * o ≤ k ∧ k < 8 * o + 8
  · rw [if_pos h]
    show B (8 * o + (k - 8 * o)) = B k
    rw [show 8 * o + (k - 8 * o) = k by omega]
  · rw [if_neg h]
theorem blk_u (hi : i < 8) : upd (blk o b B) (8 * o + i) v = blk o (upd b i v) B := by
  funext k
  unfold blk upd
  dsimp only
  by_cases h : k = 8 * o + i
  · subst h
    rw [if_pos rfl, if_pos (by omega), if_pos (by omega)]
  · rw [if_neg h]
    by_cases h2 : 8 * o ≤ k ∧ k < 8 * o + 8
    · rw [if_pos h2, if_pos h2, if_neg (by omega)]
    · rw [if_neg h2, if_neg h2]
theorem blk_at (hj : j < 8) : blk o b B (8 * o + j) = b j := by
  unfold blk
  rw [if_pos (by omega), show 8 * o + j - 8 * o = j by omega]
theorem blk_ne (h : ¬ o2 = o) (hj : j < 8) : blk o b B (8 * o2 + j) = B (8 * o2 + j) := by
  unfold blk
  rw [if_neg (by omega)]
end BLK
def nxB (rb tu : Nat → Int32) (i f : Nat) : Bool := if rb i = rb f then decide (tu i < tu f) else decide (¬ rb i = 0)
/-- the order that is next: of the first i that wait, a rush one, the one whose turn is first -/
def nxF (st rb tu : Nat → Int32) : Nat → Option Nat
  | 0 => none
  | i + 1 => if st i = -1 ∧ (nxF st rb tu i).elim true (nxB rb tu i) = true then some i else nxF st rb tu i
section NX
variable {st rb tu : Nat → Int32} {i f : Nat}
theorem nxF_y (h : st i = -1) (h2 : (nxF st rb tu i).elim true (nxB rb tu i) = true) : nxF st rb tu (i + 1) = some i := if_pos ⟨h, h2⟩
theorem nxF_n (h : ¬ st i = -1 ∨ ¬ (nxF st rb tu i).elim true (nxB rb tu i) = true) : nxF st rb tu (i + 1) = nxF st rb tu i := if_neg (fun q => h.elim (fun z => z q.1) (fun z => z q.2))
theorem nxF_lt : ∀ {i f : Nat}, nxF st rb tu i = some f → f < i := by
  intro i
  induction i with
  | zero => intro f h; cases h
  | succ i ih =>
    intro f h
    simp only [nxF] at h
    split at h
    · cases h; exact Nat.lt_succ_self _
    · exact Nat.lt_succ_of_lt (ih h)
theorem nxB_1 (h : ¬ rb i = rb f) (h2 : ¬ rb i = 0) : nxB rb tu i f = true := by
  unfold nxB
  rw [if_neg h]
  exact decide_eq_true h2
theorem nxB_2 (h : rb i = rb f) (h2 : ¬ tu f ≤ tu i) : nxB rb tu i f = true := by
  unfold nxB
  rw [if_pos h]
  exact decide_eq_true (gt_of_nle h2)
theorem nxB_3 (h : ¬ rb i = rb f) (h2 : rb i = 0) : ¬ nxB rb tu i f = true := by
  unfold nxB
  rw [if_neg h]
  exact fun q => of_decide_eq_true q h2
theorem nxB_4 (h : rb i = rb f) (h2 : tu f ≤ tu i) : ¬ nxB rb tu i f = true := by
  unfold nxB
  rw [if_pos h]
  exact fun q => ngt_of_le h2 (of_decide_eq_true q)
end NX
theorem nar01 {b : Int32} (h : b = 0 ∨ b = 1) : vp_nar .boolean b = b := by
  rcases h with h | h <;> subst h <;> decide
/-- what a row has become by pairing with the sentence x -/
def lnM (n : Nat) (f : Nat → Int32) (sn : Nat → Nat) (sw : Nat → Nat → Nat) (sb : Nat → Nat → Int32) (ns : Nat) (b0 : Nat → Int32) (x : Int32) : Nat → Int32 := (ix x ns).elim b0 (fun i => lendF f (fun j => nI (sw i j)) (sb i) 16 n (sn i) b0)
section LN
variable {n : Nat} {f : Nat → Int32} {sn : Nat → Nat} {sw : Nat → Nat → Nat} {sb : Nat → Nat → Int32} {ns i : Nat} {b0 : Nat → Int32} {x : Int32}
theorem lnM_n (h : x = -1) : lnM n f sn sw sb ns b0 x = b0 := by
  subst h
  unfold lnM
  rw [ix_neg (by decide)]
  rfl
theorem lnM_i (h : x = nI i) (hi : i < ns) (hn : ns ≤ 40) : lnM n f sn sw sb ns b0 x = lendF f (fun j => nI (sw i j)) (sb i) 16 n (sn i) b0 := by
  subst h
  unfold lnM
  rw [ix_nI hi (by omega)]
  rfl
end LN
section LE
variable {f g lb b : Nat → Int32} {F i j : Nat}
theorem lendF_o (hi : 0 < i) (hj : 0 < j) (h : ¬ f (i - 1) = g (j - 1)) (h1 : ed f g (i - 1) j ≤ ed f g i (j - 1)) (h2 : ed f g (i - 1) j ≤ ed f g (i - 1) (j - 1)) : lendF f g lb (F + 1) i j b = lendF f g lb F (i - 1) j b := by
  rw [lendF_n hi hj h, skp0 h1 h2, if_neg (by decide), if_pos rfl]
  rfl
theorem lendF_t (hi : 0 < i) (hj : 0 < j) (h : ¬ f (i - 1) = g (j - 1)) (h1 : ¬ (ed f g (i - 1) j ≤ ed f g i (j - 1) ∧ ed f g (i - 1) j ≤ ed f g (i - 1) (j - 1))) (h2 : ed f g i (j - 1) ≤ ed f g (i - 1) (j - 1)) : lendF f g lb (F + 1) i j b = lendF f g lb F i (j - 1) b := by
  rw [lendF_n hi hj h, skp1 h1 h2, if_pos rfl, if_neg (by decide)]
  rfl
theorem lendF_b (hi : 0 < i) (hj : 0 < j) (h : ¬ f (i - 1) = g (j - 1)) (h1 : ¬ (ed f g (i - 1) j ≤ ed f g i (j - 1) ∧ ed f g (i - 1) j ≤ ed f g (i - 1) (j - 1))) (h2 : ¬ ed f g i (j - 1) ≤ ed f g (i - 1) (j - 1)) : lendF f g lb (F + 1) i j b = lendF f g lb F (i - 1) (j - 1) b := by
  rw [lendF_n hi hj h, skp2 h1 h2, if_neg (by decide), if_neg (by decide)]
end LE
set_option maxHeartbeats 4000000 in
set_option maxRecDepth 100000 in
/-- X8_next -/
theorem k_X8_next (l : Launch) (D : va_G) (ac : Nat → ClassId) (H : Heap) (A : Nat → Prop) (adr : Nat → Nat) (sf : Nat → Int32) (af : Nat → Nat → Int32) (hM : MW D A 24 adr (mw ac adr sf af) H) (no : Nat) (oc on_ : Nat → Nat) (owd : Nat → Nat → Nat) (rb st : Nat → Int32) (ho : MOrd sf af no oc on_ owd rb st) : ROi l yX8_next wsX8_next ({ frames := 0, cells := 0, slots := 0, locals := 0 }) [.ref (adr 0)] D ac H (fun r => r = (nxF (af 11) (af 10) (af 12) no).elim (-1) nI) := by
  refine Met.ofW (cc := cX8_next) (maxL := 5) (ret := (some .int)) (by decide) rfl ?_
  intro p e s m args below meth c s₁ B hml hv
  obtain ⟨hargs, hsz, hK⟩ := hv
  have hx := B.exec
  have hb := B.bytes
  have hr := B.returns
  have hts := atoms_spec (ws := wsX8_next) B.pre
  have hown : s.vm.findClass RX8 = some m.cls := findClass_of_methodNamed B.named
  have hlocks := B.notSynchronized
  subst hsz
  have inX8_ : ∀ w ∈ wsX80, w ∈ wsX8_next := by decide +kernel
  have hS : va_S (fun _ => False) s.heap s.heap [] := va_S.rf
  have hl := lv_entry ([.ref (adr 0)]) (n := 5) (Nat.le_of_ble_eq_true rfl)
  have hen := lg_entry_eq m [.ref (adr 0)] 5
  rw [← hargs] at hen
  rw [hen]
  generalize (lg_sl ([.ref (adr 0)]) ++ List.replicate (5 - (lg_sl ([.ref (adr 0)])).length) Slot.unset).toArray = ls at hl ⊢
  have hl : lv_has ls 5 [(0, .ref (adr 0))] := hl
  obtain ⟨Q0, hQ0⟩ : ∃ z0_, z0_ = MQ below (va_Qi (fun r (_ : Unit) => (fun r => r = (nxF (af 11) (af 10) (af 12) no).elim (-1) nI) r) (fun _ t => t.heap = s.heap) (fun _ => False)) args s 0 0 (fun _ => False) := ⟨_, rfl⟩
  rw [← hQ0]
  have h60 := ho.2.1
  refine lv_iconst (v := (-1)) hx hb dX8_next_0 (by decide) ?_
  refine lv_istore_n (lv' := [(1, .int (-1)), (0, .ref (adr 0))]) hx hb dX8_next_1 rfl hl (by decide) rfl (fun ls hl => ?_)
  refine lv_iconst (v := 0) hx hb dX8_next_2 (by decide) ?_
  refine lv_istore_n (lv' := [(2, .int 0), (1, .int (-1)), (0, .ref (adr 0))]) hx hb dX8_next_3 rfl hl (by decide) rfl (fun ls hl => ?_)
  have L4 : ∀ (k9 : Nat) (i : Nat) (hk : no - i < k9) (hi : i ≤ no) (locs : List Loc) (hS : va_S (fun _ => False) s.heap s.heap locs) (ls : Array Slot) (hl : lv_has ls 5 [(0, .ref (adr 0)), (1, .int ((nxF (af 11) (af 10) (af 12) i).elim (-1) nI)), (2, .int (nI i))]), W p l e (headSpec wsX8_next ({ frames := 0, cells := 0, slots := 0, locals := 0 })).room s m args below meth c s.heap locs 0 0 Q0 (F0 m 4 ls []) := by
    intro k9
    induction k9 with
    | zero => intro i hk hi locs hS ls hl; exact absurd hk (Nat.not_lt_zero _)
    | succ k9 ih4 =>
      intro i hk hi locs hS ls hl
      refine lv_iload_n hx hb dX8_next_4 rfl (lv_at hl 2 rfl) ?_
      refine lv_aload_n hx hb dX8_next_5 rfl (lv_at hl 0 rfl) ?_
      refine m_get (ci := 8) (C := RX8) (T := TX8) (n := 35) (v := .int (sf 6)) hx hb hts inX8_ hown hK rfl (hM.cel (by omega) (show (mw ac adr sf af) 0 = .inr (8, mfs adr sf) from rfl)) 12 (by decide) (hts _ (by decide +kernel)) rfl dX8_next_6 ?_
      refine m_top (show (sf 6) = nI no from ho.1) ?_
      refine lv_icmp_ge (tgt := 103) hx hb dX8_next_9 (by decide) (fun c9 => ?_) (fun c9 => ?_)
      · have e9 : i = no := by have := le_le c9 (by omega) (by omega); omega
        refine lv_iload_n hx hb dX8_next_103 rfl (lv_at hl 1 rfl) ?_
        rw [hQ0]
        exact e_i hx hb hlocks hr dX8_next_104 hS (by rw [e9])
      · have hin : i < no := nle_lt c9 (by omega) (by omega)
        rcases ef : nxF (af 11) (af 10) (af 12) i with _ | f
        · rw [ef] at hl
          have hl : lv_has ls 5 [(0, .ref (adr 0)), (1, .int (-1)), (2, .int (nI i))] := hl
          refine lv_aload_n hx hb dX8_next_12 rfl (lv_at hl 0 rfl) ?_
          refine m_get (ci := 8) (C := RX8) (T := TX8) (n := 35) (v := .ref (adr 11)) hx hb hts inX8_ hown hK rfl (hM.cel (by omega) (show (mw ac adr sf af) 0 = .inr (8, mfs adr sf) from rfl)) 17 (by decide) (hts _ (by decide +kernel)) rfl dX8_next_13 ?_
          refine lv_iload_n hx hb dX8_next_16 rfl (lv_at hl 2 rfl) ?_
          refine m_iald hx hb hK (hM.cel (by omega) (show (mw ac adr sf af) 11 = .inl (ac 0, 60, .inl (af 11)) from rfl)) (vp_in_nI (by omega) (by decide)) dX8_next_17 ?_
          refine m_top (show ((af 11) (nI i).toNatClampNeg) = (af 11) i from by rw [nI_clamp (by omega)]) ?_
          refine lv_iconst (v := (-1)) hx hb dX8_next_18 (by decide) ?_
          refine lv_icmp_ne (tgt := 26) hx hb dX8_next_19 (by decide) (fun c19 => ?_) (fun c19 => ?_)
          · refine lv_iconst (v := 0) hx hb dX8_next_26 (by decide) ?_
            refine lv_istore_n (lv' := [(3, .int 0), (0, .ref (adr 0)), (1, .int (-1)), (2, .int (nI i))]) hx hb dX8_next_27 rfl hl (by decide) rfl (fun ls hl => ?_)
            refine lv_iload_n hx hb dX8_next_28 rfl (lv_at hl 2 rfl) ?_
            refine lv_iconst (v := (-1)) hx hb dX8_next_29 (by decide) ?_
            refine lv_icmp_eq (tgt := 75) hx hb dX8_next_30 (by decide) (fun c30 => ?_) (fun c30 => ?_)
            · refine lv_iconst (v := 1) hx hb dX8_next_75 (by decide) ?_
              refine lv_goto (tgt := 80) hx hb dX8_next_76 (by decide) ?_
              refine lv_istore (lv' := [(4, .int 1), (3, .int 0), (0, .ref (adr 0)), (1, .int (-1)), (2, .int (nI i))]) hx hb dX8_next_80 hl (by decide) rfl (fun ls hl => ?_)
              refine lv_iload_n hx hb dX8_next_82 rfl (lv_at hl 1 rfl) ?_
              refine lv_if_eq (tgt := 95) hx hb dX8_next_83 (by decide) (fun c83 => ?_) (fun c83 => ?_)
              · refine lv_iload_n hx hb dX8_next_95 rfl (lv_at hl 3 rfl) ?_
                refine m_top (show ((-1) : Int32) = (nxF (af 11) (af 10) (af 12) (i + 1)).elim (-1) nI from by first | (rw [nxF_y c19 (by rw [ef]; rfl)]; rfl) | (rw [nxF_y c19 (by rw [ef]; exact nxB_1 c45 c54)]; rfl) | (rw [nxF_y c19 (by rw [ef]; exact nxB_2 c45 c72)]; rfl) | (rw [nxF_n (Or.inl c19), ef]; rfl) | (rw [nxF_n (Or.inr (by rw [ef]; exact nxB_3 c45 c54)), ef]; rfl) | (rw [nxF_n (Or.inr (by rw [ef]; exact nxB_4 c45 c72)), ef]; rfl) | fail) ?_
                refine lv_istore_n (lv' := [(1, .int ((nxF (af 11) (af 10) (af 12) (i + 1)).elim (-1) nI)), (4, .int 1), (3, .int 0), (0, .ref (adr 0)), (2, .int (nI i))]) hx hb dX8_next_96 rfl hl (by decide) rfl (fun ls hl => ?_)
                refine lv_iinc (v := nI (i + 1)) (lv' := [(2, .int (nI (i + 1))), (1, .int ((nxF (af 11) (af 10) (af 12) (i + 1)).elim (-1) nI)), (4, .int 1), (3, .int 0), (0, .ref (adr 0))]) hx hb dX8_next_97 hl (k := 4) rfl (nI_1 _) (by decide) rfl (fun ls hl => ?_)
                refine lv_goto (tgt := 4) hx hb dX8_next_100 (by decide) ?_
                exact ih4 (i + 1) (by omega) (by omega) _ hS ls (lv_sub hl [4, 1, 0] rfl)
              · exact absurd c83 (by decide)
            · exact absurd c30 (by decide)
          · refine lv_iconst (v := 1) hx hb dX8_next_22 (by decide) ?_
            refine lv_goto (tgt := 27) hx hb dX8_next_23 (by decide) ?_
            refine lv_istore_n (lv' := [(3, .int 1), (0, .ref (adr 0)), (1, .int (-1)), (2, .int (nI i))]) hx hb dX8_next_27 rfl hl (by decide) rfl (fun ls hl => ?_)
            refine lv_iload_n hx hb dX8_next_28 rfl (lv_at hl 2 rfl) ?_
            refine lv_iconst (v := (-1)) hx hb dX8_next_29 (by decide) ?_
            refine lv_icmp_eq (tgt := 75) hx hb dX8_next_30 (by decide) (fun c30 => ?_) (fun c30 => ?_)
            · refine lv_iconst (v := 1) hx hb dX8_next_75 (by decide) ?_
              refine lv_goto (tgt := 80) hx hb dX8_next_76 (by decide) ?_
              refine lv_istore (lv' := [(4, .int 1), (3, .int 1), (0, .ref (adr 0)), (1, .int (-1)), (2, .int (nI i))]) hx hb dX8_next_80 hl (by decide) rfl (fun ls hl => ?_)
              refine lv_iload_n hx hb dX8_next_82 rfl (lv_at hl 1 rfl) ?_
              refine lv_if_eq (tgt := 95) hx hb dX8_next_83 (by decide) (fun c83 => ?_) (fun c83 => ?_)
              · exact absurd c83 (by decide)
              · refine lv_iload hx hb dX8_next_86 (lv_at hl 0 rfl) ?_
                refine lv_if_eq (tgt := 95) hx hb dX8_next_88 (by decide) (fun c88 => ?_) (fun c88 => ?_)
                · exact absurd c88 (by decide)
                · refine lv_iload_n hx hb dX8_next_91 rfl (lv_at hl 4 rfl) ?_
                  refine lv_goto (tgt := 96) hx hb dX8_next_92 (by decide) ?_
                  refine m_top (show (nI i : Int32) = (nxF (af 11) (af 10) (af 12) (i + 1)).elim (-1) nI from by first | (rw [nxF_y c19 (by rw [ef]; rfl)]; rfl) | (rw [nxF_y c19 (by rw [ef]; exact nxB_1 c45 c54)]; rfl) | (rw [nxF_y c19 (by rw [ef]; exact nxB_2 c45 c72)]; rfl) | (rw [nxF_n (Or.inl c19), ef]; rfl) | (rw [nxF_n (Or.inr (by rw [ef]; exact nxB_3 c45 c54)), ef]; rfl) | (rw [nxF_n (Or.inr (by rw [ef]; exact nxB_4 c45 c72)), ef]; rfl) | fail) ?_
                  refine lv_istore_n (lv' := [(1, .int ((nxF (af 11) (af 10) (af 12) (i + 1)).elim (-1) nI)), (4, .int 1), (3, .int 1), (0, .ref (adr 0)), (2, .int (nI i))]) hx hb dX8_next_96 rfl hl (by decide) rfl (fun ls hl => ?_)
                  refine lv_iinc (v := nI (i + 1)) (lv' := [(2, .int (nI (i + 1))), (1, .int ((nxF (af 11) (af 10) (af 12) (i + 1)).elim (-1) nI)), (4, .int 1), (3, .int 1), (0, .ref (adr 0))]) hx hb dX8_next_97 hl (k := 4) rfl (nI_1 _) (by decide) rfl (fun ls hl => ?_)
                  refine lv_goto (tgt := 4) hx hb dX8_next_100 (by decide) ?_
                  exact ih4 (i + 1) (by omega) (by omega) _ hS ls (lv_sub hl [4, 1, 0] rfl)
            · exact absurd c30 (by decide)
        · rw [ef] at hl
          have hl : lv_has ls 5 [(0, .ref (adr 0)), (1, .int (nI f)), (2, .int (nI i))] := hl
          have hf9 : f < i := nxF_lt ef
          refine lv_aload_n hx hb dX8_next_12 rfl (lv_at hl 0 rfl) ?_
          refine m_get (ci := 8) (C := RX8) (T := TX8) (n := 35) (v := .ref (adr 11)) hx hb hts inX8_ hown hK rfl (hM.cel (by omega) (show (mw ac adr sf af) 0 = .inr (8, mfs adr sf) from rfl)) 17 (by decide) (hts _ (by decide +kernel)) rfl dX8_next_13 ?_
          refine lv_iload_n hx hb dX8_next_16 rfl (lv_at hl 2 rfl) ?_
          refine m_iald hx hb hK (hM.cel (by omega) (show (mw ac adr sf af) 11 = .inl (ac 0, 60, .inl (af 11)) from rfl)) (vp_in_nI (by omega) (by decide)) dX8_next_17 ?_
          refine m_top (show ((af 11) (nI i).toNatClampNeg) = (af 11) i from by rw [nI_clamp (by omega)]) ?_
          refine lv_iconst (v := (-1)) hx hb dX8_next_18 (by decide) ?_
          refine lv_icmp_ne (tgt := 26) hx hb dX8_next_19 (by decide) (fun c19 => ?_) (fun c19 => ?_)
          · refine lv_iconst (v := 0) hx hb dX8_next_26 (by decide) ?_
            refine lv_istore_n (lv' := [(3, .int 0), (0, .ref (adr 0)), (1, .int (nI f)), (2, .int (nI i))]) hx hb dX8_next_27 rfl hl (by decide) rfl (fun ls hl => ?_)
            refine lv_iload_n hx hb dX8_next_28 rfl (lv_at hl 2 rfl) ?_
            refine lv_iconst (v := (-1)) hx hb dX8_next_29 (by decide) ?_
            refine lv_icmp_eq (tgt := 75) hx hb dX8_next_30 (by decide) (fun c30 => ?_) (fun c30 => ?_)
            · exact absurd c30 (nI_m1 (by omega))
            · refine lv_aload_n hx hb dX8_next_33 rfl (lv_at hl 1 rfl) ?_
              refine m_get (ci := 8) (C := RX8) (T := TX8) (n := 35) (v := .ref (adr 10)) hx hb hts inX8_ hown hK rfl (hM.cel (by omega) (show (mw ac adr sf af) 0 = .inr (8, mfs adr sf) from rfl)) 16 (by decide) (hts _ (by decide +kernel)) rfl dX8_next_34 ?_
              refine lv_iload_n hx hb dX8_next_37 rfl (lv_at hl 3 rfl) ?_
              refine m_zald hx hb hK (hM.cel (by omega) (show (mw ac adr sf af) 10 = .inl (ac 2, 60, .inl (af 10)) from rfl)) (vp_in_nI (by omega) (by decide)) dX8_next_38 ?_
              refine m_top (show ((af 10) (nI i).toNatClampNeg) = (af 10) i from by rw [nI_clamp (by omega)]) ?_
              refine lv_aload_n hx hb dX8_next_39 rfl (lv_at hl 1 rfl) ?_
              refine m_get (ci := 8) (C := RX8) (T := TX8) (n := 35) (v := .ref (adr 10)) hx hb hts inX8_ hown hK rfl (hM.cel (by omega) (show (mw ac adr sf af) 0 = .inr (8, mfs adr sf) from rfl)) 16 (by decide) (hts _ (by decide +kernel)) rfl dX8_next_40 ?_
              refine lv_iload_n hx hb dX8_next_43 rfl (lv_at hl 2 rfl) ?_
              refine m_zald hx hb hK (hM.cel (by omega) (show (mw ac adr sf af) 10 = .inl (ac 2, 60, .inl (af 10)) from rfl)) (vp_in_nI (by omega) (by decide)) dX8_next_44 ?_
              refine m_top (show ((af 10) (nI f).toNatClampNeg) = (af 10) f from by rw [nI_clamp (by omega)]) ?_
              refine lv_icmp_eq (tgt := 60) hx hb dX8_next_45 (by decide) (fun c45 => ?_) (fun c45 => ?_)
              · refine lv_aload_n hx hb dX8_next_60 rfl (lv_at hl 1 rfl) ?_
                refine m_get (ci := 8) (C := RX8) (T := TX8) (n := 35) (v := .ref (adr 12)) hx hb hts inX8_ hown hK rfl (hM.cel (by omega) (show (mw ac adr sf af) 0 = .inr (8, mfs adr sf) from rfl)) 18 (by decide) (hts _ (by decide +kernel)) rfl dX8_next_61 ?_
                refine lv_iload_n hx hb dX8_next_64 rfl (lv_at hl 3 rfl) ?_
                refine m_iald hx hb hK (hM.cel (by omega) (show (mw ac adr sf af) 12 = .inl (ac 0, 60, .inl (af 12)) from rfl)) (vp_in_nI (by omega) (by decide)) dX8_next_65 ?_
                refine m_top (show ((af 12) (nI i).toNatClampNeg) = (af 12) i from by rw [nI_clamp (by omega)]) ?_
                refine lv_aload_n hx hb dX8_next_66 rfl (lv_at hl 1 rfl) ?_
                refine m_get (ci := 8) (C := RX8) (T := TX8) (n := 35) (v := .ref (adr 12)) hx hb hts inX8_ hown hK rfl (hM.cel (by omega) (show (mw ac adr sf af) 0 = .inr (8, mfs adr sf) from rfl)) 18 (by decide) (hts _ (by decide +kernel)) rfl dX8_next_67 ?_
                refine lv_iload_n hx hb dX8_next_70 rfl (lv_at hl 2 rfl) ?_
                refine m_iald hx hb hK (hM.cel (by omega) (show (mw ac adr sf af) 12 = .inl (ac 0, 60, .inl (af 12)) from rfl)) (vp_in_nI (by omega) (by decide)) dX8_next_71 ?_
                refine m_top (show ((af 12) (nI f).toNatClampNeg) = (af 12) f from by rw [nI_clamp (by omega)]) ?_
                refine lv_icmp_ge (tgt := 79) hx hb dX8_next_72 (by decide) (fun c72 => ?_) (fun c72 => ?_)
                · refine lv_iconst (v := 0) hx hb dX8_next_79 (by decide) ?_
                  refine lv_istore (lv' := [(4, .int 0), (3, .int 0), (0, .ref (adr 0)), (1, .int (nI f)), (2, .int (nI i))]) hx hb dX8_next_80 hl (by decide) rfl (fun ls hl => ?_)
                  refine lv_iload_n hx hb dX8_next_82 rfl (lv_at hl 1 rfl) ?_
                  refine lv_if_eq (tgt := 95) hx hb dX8_next_83 (by decide) (fun c83 => ?_) (fun c83 => ?_)
                  · refine lv_iload_n hx hb dX8_next_95 rfl (lv_at hl 3 rfl) ?_
                    refine m_top (show (nI f : Int32) = (nxF (af 11) (af 10) (af 12) (i + 1)).elim (-1) nI from by first | (rw [nxF_y c19 (by rw [ef]; rfl)]; rfl) | (rw [nxF_y c19 (by rw [ef]; exact nxB_1 c45 c54)]; rfl) | (rw [nxF_y c19 (by rw [ef]; exact nxB_2 c45 c72)]; rfl) | (rw [nxF_n (Or.inl c19), ef]; rfl) | (rw [nxF_n (Or.inr (by rw [ef]; exact nxB_3 c45 c54)), ef]; rfl) | (rw [nxF_n (Or.inr (by rw [ef]; exact nxB_4 c45 c72)), ef]; rfl) | fail) ?_
                    refine lv_istore_n (lv' := [(1, .int ((nxF (af 11) (af 10) (af 12) (i + 1)).elim (-1) nI)), (4, .int 0), (3, .int 0), (0, .ref (adr 0)), (2, .int (nI i))]) hx hb dX8_next_96 rfl hl (by decide) rfl (fun ls hl => ?_)
                    refine lv_iinc (v := nI (i + 1)) (lv' := [(2, .int (nI (i + 1))), (1, .int ((nxF (af 11) (af 10) (af 12) (i + 1)).elim (-1) nI)), (4, .int 0), (3, .int 0), (0, .ref (adr 0))]) hx hb dX8_next_97 hl (k := 4) rfl (nI_1 _) (by decide) rfl (fun ls hl => ?_)
                    refine lv_goto (tgt := 4) hx hb dX8_next_100 (by decide) ?_
                    exact ih4 (i + 1) (by omega) (by omega) _ hS ls (lv_sub hl [4, 1, 0] rfl)
                  · exact absurd c83 (by decide)
                · refine lv_iconst (v := 1) hx hb dX8_next_75 (by decide) ?_
                  refine lv_goto (tgt := 80) hx hb dX8_next_76 (by decide) ?_
                  refine lv_istore (lv' := [(4, .int 1), (3, .int 0), (0, .ref (adr 0)), (1, .int (nI f)), (2, .int (nI i))]) hx hb dX8_next_80 hl (by decide) rfl (fun ls hl => ?_)
                  refine lv_iload_n hx hb dX8_next_82 rfl (lv_at hl 1 rfl) ?_
                  refine lv_if_eq (tgt := 95) hx hb dX8_next_83 (by decide) (fun c83 => ?_) (fun c83 => ?_)
                  · refine lv_iload_n hx hb dX8_next_95 rfl (lv_at hl 3 rfl) ?_
                    refine m_top (show (nI f : Int32) = (nxF (af 11) (af 10) (af 12) (i + 1)).elim (-1) nI from by first | (rw [nxF_y c19 (by rw [ef]; rfl)]; rfl) | (rw [nxF_y c19 (by rw [ef]; exact nxB_1 c45 c54)]; rfl) | (rw [nxF_y c19 (by rw [ef]; exact nxB_2 c45 c72)]; rfl) | (rw [nxF_n (Or.inl c19), ef]; rfl) | (rw [nxF_n (Or.inr (by rw [ef]; exact nxB_3 c45 c54)), ef]; rfl) | (rw [nxF_n (Or.inr (by rw [ef]; exact nxB_4 c45 c72)), ef]; rfl) | fail) ?_
                    refine lv_istore_n (lv' := [(1, .int ((nxF (af 11) (af 10) (af 12) (i + 1)).elim (-1) nI)), (4, .int 1), (3, .int 0), (0, .ref (adr 0)), (2, .int (nI i))]) hx hb dX8_next_96 rfl hl (by decide) rfl (fun ls hl => ?_)
                    refine lv_iinc (v := nI (i + 1)) (lv' := [(2, .int (nI (i + 1))), (1, .int ((nxF (af 11) (af 10) (af 12) (i + 1)).elim (-1) nI)), (4, .int 1), (3, .int 0), (0, .ref (adr 0))]) hx hb dX8_next_97 hl (k := 4) rfl (nI_1 _) (by decide) rfl (fun ls hl => ?_)
                    refine lv_goto (tgt := 4) hx hb dX8_next_100 (by decide) ?_
                    exact ih4 (i + 1) (by omega) (by omega) _ hS ls (lv_sub hl [4, 1, 0] rfl)
                  · exact absurd c83 (by decide)
              · refine lv_aload_n hx hb dX8_next_48 rfl (lv_at hl 1 rfl) ?_
                refine m_get (ci := 8) (C := RX8) (T := TX8) (n := 35) (v := .ref (adr 10)) hx hb hts inX8_ hown hK rfl (hM.cel (by omega) (show (mw ac adr sf af) 0 = .inr (8, mfs adr sf) from rfl)) 16 (by decide) (hts _ (by decide +kernel)) rfl dX8_next_49 ?_
                refine lv_iload_n hx hb dX8_next_52 rfl (lv_at hl 3 rfl) ?_
                refine m_zald hx hb hK (hM.cel (by omega) (show (mw ac adr sf af) 10 = .inl (ac 2, 60, .inl (af 10)) from rfl)) (vp_in_nI (by omega) (by decide)) dX8_next_53 ?_
                refine m_top (show ((af 10) (nI i).toNatClampNeg) = (af 10) i from by rw [nI_clamp (by omega)]) ?_
                refine lv_if_eq (tgt := 79) hx hb dX8_next_54 (by decide) (fun c54 => ?_) (fun c54 => ?_)
                · refine lv_iconst (v := 0) hx hb dX8_next_79 (by decide) ?_
                  refine lv_istore (lv' := [(4, .int 0), (3, .int 0), (0, .ref (adr 0)), (1, .int (nI f)), (2, .int (nI i))]) hx hb dX8_next_80 hl (by decide) rfl (fun ls hl => ?_)
                  refine lv_iload_n hx hb dX8_next_82 rfl (lv_at hl 1 rfl) ?_
                  refine lv_if_eq (tgt := 95) hx hb dX8_next_83 (by decide) (fun c83 => ?_) (fun c83 => ?_)
                  · refine lv_iload_n hx hb dX8_next_95 rfl (lv_at hl 3 rfl) ?_
                    refine m_top (show (nI f : Int32) = (nxF (af 11) (af 10) (af 12) (i + 1)).elim (-1) nI from by first | (rw [nxF_y c19 (by rw [ef]; rfl)]; rfl) | (rw [nxF_y c19 (by rw [ef]; exact nxB_1 c45 c54)]; rfl) | (rw [nxF_y c19 (by rw [ef]; exact nxB_2 c45 c72)]; rfl) | (rw [nxF_n (Or.inl c19), ef]; rfl) | (rw [nxF_n (Or.inr (by rw [ef]; exact nxB_3 c45 c54)), ef]; rfl) | (rw [nxF_n (Or.inr (by rw [ef]; exact nxB_4 c45 c72)), ef]; rfl) | fail) ?_
                    refine lv_istore_n (lv' := [(1, .int ((nxF (af 11) (af 10) (af 12) (i + 1)).elim (-1) nI)), (4, .int 0), (3, .int 0), (0, .ref (adr 0)), (2, .int (nI i))]) hx hb dX8_next_96 rfl hl (by decide) rfl (fun ls hl => ?_)
                    refine lv_iinc (v := nI (i + 1)) (lv' := [(2, .int (nI (i + 1))), (1, .int ((nxF (af 11) (af 10) (af 12) (i + 1)).elim (-1) nI)), (4, .int 0), (3, .int 0), (0, .ref (adr 0))]) hx hb dX8_next_97 hl (k := 4) rfl (nI_1 _) (by decide) rfl (fun ls hl => ?_)
                    refine lv_goto (tgt := 4) hx hb dX8_next_100 (by decide) ?_
                    exact ih4 (i + 1) (by omega) (by omega) _ hS ls (lv_sub hl [4, 1, 0] rfl)
                  · exact absurd c83 (by decide)
                · refine lv_goto (tgt := 75) hx hb dX8_next_57 (by decide) ?_
                  refine lv_iconst (v := 1) hx hb dX8_next_75 (by decide) ?_
                  refine lv_goto (tgt := 80) hx hb dX8_next_76 (by decide) ?_
                  refine lv_istore (lv' := [(4, .int 1), (3, .int 0), (0, .ref (adr 0)), (1, .int (nI f)), (2, .int (nI i))]) hx hb dX8_next_80 hl (by decide) rfl (fun ls hl => ?_)
                  refine lv_iload_n hx hb dX8_next_82 rfl (lv_at hl 1 rfl) ?_
                  refine lv_if_eq (tgt := 95) hx hb dX8_next_83 (by decide) (fun c83 => ?_) (fun c83 => ?_)
                  · refine lv_iload_n hx hb dX8_next_95 rfl (lv_at hl 3 rfl) ?_
                    refine m_top (show (nI f : Int32) = (nxF (af 11) (af 10) (af 12) (i + 1)).elim (-1) nI from by first | (rw [nxF_y c19 (by rw [ef]; rfl)]; rfl) | (rw [nxF_y c19 (by rw [ef]; exact nxB_1 c45 c54)]; rfl) | (rw [nxF_y c19 (by rw [ef]; exact nxB_2 c45 c72)]; rfl) | (rw [nxF_n (Or.inl c19), ef]; rfl) | (rw [nxF_n (Or.inr (by rw [ef]; exact nxB_3 c45 c54)), ef]; rfl) | (rw [nxF_n (Or.inr (by rw [ef]; exact nxB_4 c45 c72)), ef]; rfl) | fail) ?_
                    refine lv_istore_n (lv' := [(1, .int ((nxF (af 11) (af 10) (af 12) (i + 1)).elim (-1) nI)), (4, .int 1), (3, .int 0), (0, .ref (adr 0)), (2, .int (nI i))]) hx hb dX8_next_96 rfl hl (by decide) rfl (fun ls hl => ?_)
                    refine lv_iinc (v := nI (i + 1)) (lv' := [(2, .int (nI (i + 1))), (1, .int ((nxF (af 11) (af 10) (af 12) (i + 1)).elim (-1) nI)), (4, .int 1), (3, .int 0), (0, .ref (adr 0))]) hx hb dX8_next_97 hl (k := 4) rfl (nI_1 _) (by decide) rfl (fun ls hl => ?_)
                    refine lv_goto (tgt := 4) hx hb dX8_next_100 (by decide) ?_
                    exact ih4 (i + 1) (by omega) (by omega) _ hS ls (lv_sub hl [4, 1, 0] rfl)
                  · exact absurd c83 (by decide)
          · refine lv_iconst (v := 1) hx hb dX8_next_22 (by decide) ?_
            refine lv_goto (tgt := 27) hx hb dX8_next_23 (by decide) ?_
            refine lv_istore_n (lv' := [(3, .int 1), (0, .ref (adr 0)), (1, .int (nI f)), (2, .int (nI i))]) hx hb dX8_next_27 rfl hl (by decide) rfl (fun ls hl => ?_)
            refine lv_iload_n hx hb dX8_next_28 rfl (lv_at hl 2 rfl) ?_
            refine lv_iconst (v := (-1)) hx hb dX8_next_29 (by decide) ?_
            refine lv_icmp_eq (tgt := 75) hx hb dX8_next_30 (by decide) (fun c30 => ?_) (fun c30 => ?_)
            · exact absurd c30 (nI_m1 (by omega))
            · refine lv_aload_n hx hb dX8_next_33 rfl (lv_at hl 1 rfl) ?_
              refine m_get (ci := 8) (C := RX8) (T := TX8) (n := 35) (v := .ref (adr 10)) hx hb hts inX8_ hown hK rfl (hM.cel (by omega) (show (mw ac adr sf af) 0 = .inr (8, mfs adr sf) from rfl)) 16 (by decide) (hts _ (by decide +kernel)) rfl dX8_next_34 ?_
              refine lv_iload_n hx hb dX8_next_37 rfl (lv_at hl 3 rfl) ?_
              refine m_zald hx hb hK (hM.cel (by omega) (show (mw ac adr sf af) 10 = .inl (ac 2, 60, .inl (af 10)) from rfl)) (vp_in_nI (by omega) (by decide)) dX8_next_38 ?_
              refine m_top (show ((af 10) (nI i).toNatClampNeg) = (af 10) i from by rw [nI_clamp (by omega)]) ?_
              refine lv_aload_n hx hb dX8_next_39 rfl (lv_at hl 1 rfl) ?_
              refine m_get (ci := 8) (C := RX8) (T := TX8) (n := 35) (v := .ref (adr 10)) hx hb hts inX8_ hown hK rfl (hM.cel (by omega) (show (mw ac adr sf af) 0 = .inr (8, mfs adr sf) from rfl)) 16 (by decide) (hts _ (by decide +kernel)) rfl dX8_next_40 ?_
              refine lv_iload_n hx hb dX8_next_43 rfl (lv_at hl 2 rfl) ?_
              refine m_zald hx hb hK (hM.cel (by omega) (show (mw ac adr sf af) 10 = .inl (ac 2, 60, .inl (af 10)) from rfl)) (vp_in_nI (by omega) (by decide)) dX8_next_44 ?_
              refine m_top (show ((af 10) (nI f).toNatClampNeg) = (af 10) f from by rw [nI_clamp (by omega)]) ?_
              refine lv_icmp_eq (tgt := 60) hx hb dX8_next_45 (by decide) (fun c45 => ?_) (fun c45 => ?_)
              · refine lv_aload_n hx hb dX8_next_60 rfl (lv_at hl 1 rfl) ?_
                refine m_get (ci := 8) (C := RX8) (T := TX8) (n := 35) (v := .ref (adr 12)) hx hb hts inX8_ hown hK rfl (hM.cel (by omega) (show (mw ac adr sf af) 0 = .inr (8, mfs adr sf) from rfl)) 18 (by decide) (hts _ (by decide +kernel)) rfl dX8_next_61 ?_
                refine lv_iload_n hx hb dX8_next_64 rfl (lv_at hl 3 rfl) ?_
                refine m_iald hx hb hK (hM.cel (by omega) (show (mw ac adr sf af) 12 = .inl (ac 0, 60, .inl (af 12)) from rfl)) (vp_in_nI (by omega) (by decide)) dX8_next_65 ?_
                refine m_top (show ((af 12) (nI i).toNatClampNeg) = (af 12) i from by rw [nI_clamp (by omega)]) ?_
                refine lv_aload_n hx hb dX8_next_66 rfl (lv_at hl 1 rfl) ?_
                refine m_get (ci := 8) (C := RX8) (T := TX8) (n := 35) (v := .ref (adr 12)) hx hb hts inX8_ hown hK rfl (hM.cel (by omega) (show (mw ac adr sf af) 0 = .inr (8, mfs adr sf) from rfl)) 18 (by decide) (hts _ (by decide +kernel)) rfl dX8_next_67 ?_
                refine lv_iload_n hx hb dX8_next_70 rfl (lv_at hl 2 rfl) ?_
                refine m_iald hx hb hK (hM.cel (by omega) (show (mw ac adr sf af) 12 = .inl (ac 0, 60, .inl (af 12)) from rfl)) (vp_in_nI (by omega) (by decide)) dX8_next_71 ?_
                refine m_top (show ((af 12) (nI f).toNatClampNeg) = (af 12) f from by rw [nI_clamp (by omega)]) ?_
                refine lv_icmp_ge (tgt := 79) hx hb dX8_next_72 (by decide) (fun c72 => ?_) (fun c72 => ?_)
                · refine lv_iconst (v := 0) hx hb dX8_next_79 (by decide) ?_
                  refine lv_istore (lv' := [(4, .int 0), (3, .int 1), (0, .ref (adr 0)), (1, .int (nI f)), (2, .int (nI i))]) hx hb dX8_next_80 hl (by decide) rfl (fun ls hl => ?_)
                  refine lv_iload_n hx hb dX8_next_82 rfl (lv_at hl 1 rfl) ?_
                  refine lv_if_eq (tgt := 95) hx hb dX8_next_83 (by decide) (fun c83 => ?_) (fun c83 => ?_)
                  · exact absurd c83 (by decide)
                  · refine lv_iload hx hb dX8_next_86 (lv_at hl 0 rfl) ?_
                    refine lv_if_eq (tgt := 95) hx hb dX8_next_88 (by decide) (fun c88 => ?_) (fun c88 => ?_)
                    · refine lv_iload_n hx hb dX8_next_95 rfl (lv_at hl 3 rfl) ?_
                      refine m_top (show (nI f : Int32) = (nxF (af 11) (af 10) (af 12) (i + 1)).elim (-1) nI from by first | (rw [nxF_y c19 (by rw [ef]; rfl)]; rfl) | (rw [nxF_y c19 (by rw [ef]; exact nxB_1 c45 c54)]; rfl) | (rw [nxF_y c19 (by rw [ef]; exact nxB_2 c45 c72)]; rfl) | (rw [nxF_n (Or.inl c19), ef]; rfl) | (rw [nxF_n (Or.inr (by rw [ef]; exact nxB_3 c45 c54)), ef]; rfl) | (rw [nxF_n (Or.inr (by rw [ef]; exact nxB_4 c45 c72)), ef]; rfl) | fail) ?_
                      refine lv_istore_n (lv' := [(1, .int ((nxF (af 11) (af 10) (af 12) (i + 1)).elim (-1) nI)), (4, .int 0), (3, .int 1), (0, .ref (adr 0)), (2, .int (nI i))]) hx hb dX8_next_96 rfl hl (by decide) rfl (fun ls hl => ?_)
                      refine lv_iinc (v := nI (i + 1)) (lv' := [(2, .int (nI (i + 1))), (1, .int ((nxF (af 11) (af 10) (af 12) (i + 1)).elim (-1) nI)), (4, .int 0), (3, .int 1), (0, .ref (adr 0))]) hx hb dX8_next_97 hl (k := 4) rfl (nI_1 _) (by decide) rfl (fun ls hl => ?_)
                      refine lv_goto (tgt := 4) hx hb dX8_next_100 (by decide) ?_
                      exact ih4 (i + 1) (by omega) (by omega) _ hS ls (lv_sub hl [4, 1, 0] rfl)
                    · exact absurd c88 (by decide)
                · refine lv_iconst (v := 1) hx hb dX8_next_75 (by decide) ?_
                  refine lv_goto (tgt := 80) hx hb dX8_next_76 (by decide) ?_
                  refine lv_istore (lv' := [(4, .int 1), (3, .int 1), (0, .ref (adr 0)), (1, .int (nI f)), (2, .int (nI i))]) hx hb dX8_next_80 hl (by decide) rfl (fun ls hl => ?_)
                  refine lv_iload_n hx hb dX8_next_82 rfl (lv_at hl 1 rfl) ?_
                  refine lv_if_eq (tgt := 95) hx hb dX8_next_83 (by decide) (fun c83 => ?_) (fun c83 => ?_)
                  · exact absurd c83 (by decide)
                  · refine lv_iload hx hb dX8_next_86 (lv_at hl 0 rfl) ?_
                    refine lv_if_eq (tgt := 95) hx hb dX8_next_88 (by decide) (fun c88 => ?_) (fun c88 => ?_)
                    · exact absurd c88 (by decide)
                    · refine lv_iload_n hx hb dX8_next_91 rfl (lv_at hl 4 rfl) ?_
                      refine lv_goto (tgt := 96) hx hb dX8_next_92 (by decide) ?_
                      refine m_top (show (nI i : Int32) = (nxF (af 11) (af 10) (af 12) (i + 1)).elim (-1) nI from by first | (rw [nxF_y c19 (by rw [ef]; rfl)]; rfl) | (rw [nxF_y c19 (by rw [ef]; exact nxB_1 c45 c54)]; rfl) | (rw [nxF_y c19 (by rw [ef]; exact nxB_2 c45 c72)]; rfl) | (rw [nxF_n (Or.inl c19), ef]; rfl) | (rw [nxF_n (Or.inr (by rw [ef]; exact nxB_3 c45 c54)), ef]; rfl) | (rw [nxF_n (Or.inr (by rw [ef]; exact nxB_4 c45 c72)), ef]; rfl) | fail) ?_
                      refine lv_istore_n (lv' := [(1, .int ((nxF (af 11) (af 10) (af 12) (i + 1)).elim (-1) nI)), (4, .int 1), (3, .int 1), (0, .ref (adr 0)), (2, .int (nI i))]) hx hb dX8_next_96 rfl hl (by decide) rfl (fun ls hl => ?_)
                      refine lv_iinc (v := nI (i + 1)) (lv' := [(2, .int (nI (i + 1))), (1, .int ((nxF (af 11) (af 10) (af 12) (i + 1)).elim (-1) nI)), (4, .int 1), (3, .int 1), (0, .ref (adr 0))]) hx hb dX8_next_97 hl (k := 4) rfl (nI_1 _) (by decide) rfl (fun ls hl => ?_)
                      refine lv_goto (tgt := 4) hx hb dX8_next_100 (by decide) ?_
                      exact ih4 (i + 1) (by omega) (by omega) _ hS ls (lv_sub hl [4, 1, 0] rfl)
              · refine lv_aload_n hx hb dX8_next_48 rfl (lv_at hl 1 rfl) ?_
                refine m_get (ci := 8) (C := RX8) (T := TX8) (n := 35) (v := .ref (adr 10)) hx hb hts inX8_ hown hK rfl (hM.cel (by omega) (show (mw ac adr sf af) 0 = .inr (8, mfs adr sf) from rfl)) 16 (by decide) (hts _ (by decide +kernel)) rfl dX8_next_49 ?_
                refine lv_iload_n hx hb dX8_next_52 rfl (lv_at hl 3 rfl) ?_
                refine m_zald hx hb hK (hM.cel (by omega) (show (mw ac adr sf af) 10 = .inl (ac 2, 60, .inl (af 10)) from rfl)) (vp_in_nI (by omega) (by decide)) dX8_next_53 ?_
                refine m_top (show ((af 10) (nI i).toNatClampNeg) = (af 10) i from by rw [nI_clamp (by omega)]) ?_
                refine lv_if_eq (tgt := 79) hx hb dX8_next_54 (by decide) (fun c54 => ?_) (fun c54 => ?_)
                · refine lv_iconst (v := 0) hx hb dX8_next_79 (by decide) ?_
                  refine lv_istore (lv' := [(4, .int 0), (3, .int 1), (0, .ref (adr 0)), (1, .int (nI f)), (2, .int (nI i))]) hx hb dX8_next_80 hl (by decide) rfl (fun ls hl => ?_)
                  refine lv_iload_n hx hb dX8_next_82 rfl (lv_at hl 1 rfl) ?_
                  refine lv_if_eq (tgt := 95) hx hb dX8_next_83 (by decide) (fun c83 => ?_) (fun c83 => ?_)
                  · exact absurd c83 (by decide)
                  · refine lv_iload hx hb dX8_next_86 (lv_at hl 0 rfl) ?_
                    refine lv_if_eq (tgt := 95) hx hb dX8_next_88 (by decide) (fun c88 => ?_) (fun c88 => ?_)
                    · refine lv_iload_n hx hb dX8_next_95 rfl (lv_at hl 3 rfl) ?_
                      refine m_top (show (nI f : Int32) = (nxF (af 11) (af 10) (af 12) (i + 1)).elim (-1) nI from by first | (rw [nxF_y c19 (by rw [ef]; rfl)]; rfl) | (rw [nxF_y c19 (by rw [ef]; exact nxB_1 c45 c54)]; rfl) | (rw [nxF_y c19 (by rw [ef]; exact nxB_2 c45 c72)]; rfl) | (rw [nxF_n (Or.inl c19), ef]; rfl) | (rw [nxF_n (Or.inr (by rw [ef]; exact nxB_3 c45 c54)), ef]; rfl) | (rw [nxF_n (Or.inr (by rw [ef]; exact nxB_4 c45 c72)), ef]; rfl) | fail) ?_
                      refine lv_istore_n (lv' := [(1, .int ((nxF (af 11) (af 10) (af 12) (i + 1)).elim (-1) nI)), (4, .int 0), (3, .int 1), (0, .ref (adr 0)), (2, .int (nI i))]) hx hb dX8_next_96 rfl hl (by decide) rfl (fun ls hl => ?_)
                      refine lv_iinc (v := nI (i + 1)) (lv' := [(2, .int (nI (i + 1))), (1, .int ((nxF (af 11) (af 10) (af 12) (i + 1)).elim (-1) nI)), (4, .int 0), (3, .int 1), (0, .ref (adr 0))]) hx hb dX8_next_97 hl (k := 4) rfl (nI_1 _) (by decide) rfl (fun ls hl => ?_)
                      refine lv_goto (tgt := 4) hx hb dX8_next_100 (by decide) ?_
                      exact ih4 (i + 1) (by omega) (by omega) _ hS ls (lv_sub hl [4, 1, 0] rfl)
                    · exact absurd c88 (by decide)
                · refine lv_goto (tgt := 75) hx hb dX8_next_57 (by decide) ?_
                  refine lv_iconst (v := 1) hx hb dX8_next_75 (by decide) ?_
                  refine lv_goto (tgt := 80) hx hb dX8_next_76 (by decide) ?_
                  refine lv_istore (lv' := [(4, .int 1), (3, .int 1), (0, .ref (adr 0)), (1, .int (nI f)), (2, .int (nI i))]) hx hb dX8_next_80 hl (by decide) rfl (fun ls hl => ?_)
                  refine lv_iload_n hx hb dX8_next_82 rfl (lv_at hl 1 rfl) ?_
                  refine lv_if_eq (tgt := 95) hx hb dX8_next_83 (by decide) (fun c83 => ?_) (fun c83 => ?_)
                  · exact absurd c83 (by decide)
                  · refine lv_iload hx hb dX8_next_86 (lv_at hl 0 rfl) ?_
                    refine lv_if_eq (tgt := 95) hx hb dX8_next_88 (by decide) (fun c88 => ?_) (fun c88 => ?_)
                    · exact absurd c88 (by decide)
                    · refine lv_iload_n hx hb dX8_next_91 rfl (lv_at hl 4 rfl) ?_
                      refine lv_goto (tgt := 96) hx hb dX8_next_92 (by decide) ?_
                      refine m_top (show (nI i : Int32) = (nxF (af 11) (af 10) (af 12) (i + 1)).elim (-1) nI from by first | (rw [nxF_y c19 (by rw [ef]; rfl)]; rfl) | (rw [nxF_y c19 (by rw [ef]; exact nxB_1 c45 c54)]; rfl) | (rw [nxF_y c19 (by rw [ef]; exact nxB_2 c45 c72)]; rfl) | (rw [nxF_n (Or.inl c19), ef]; rfl) | (rw [nxF_n (Or.inr (by rw [ef]; exact nxB_3 c45 c54)), ef]; rfl) | (rw [nxF_n (Or.inr (by rw [ef]; exact nxB_4 c45 c72)), ef]; rfl) | fail) ?_
                      refine lv_istore_n (lv' := [(1, .int ((nxF (af 11) (af 10) (af 12) (i + 1)).elim (-1) nI)), (4, .int 1), (3, .int 1), (0, .ref (adr 0)), (2, .int (nI i))]) hx hb dX8_next_96 rfl hl (by decide) rfl (fun ls hl => ?_)
                      refine lv_iinc (v := nI (i + 1)) (lv' := [(2, .int (nI (i + 1))), (1, .int ((nxF (af 11) (af 10) (af 12) (i + 1)).elim (-1) nI)), (4, .int 1), (3, .int 1), (0, .ref (adr 0))]) hx hb dX8_next_97 hl (k := 4) rfl (nI_1 _) (by decide) rfl (fun ls hl => ?_)
                      refine lv_goto (tgt := 4) hx hb dX8_next_100 (by decide) ?_
                      exact ih4 (i + 1) (by omega) (by omega) _ hS ls (lv_sub hl [4, 1, 0] rfl)
  exact L4 _ 0 (Nat.lt_succ_self _) (Nat.zero_le _) _ hS ls (lv_sub hl [2, 1, 0] rfl)
set_option maxHeartbeats 4000000 in
set_option maxRecDepth 100000 in
/-- X8_order -/
theorem k_X8_order (l : Launch) (D : va_G) (ac : Nat → ClassId) (H : Heap) (A : Nat → Prop) (adr : Nat → Nat) (sf : Nat → Int32) (af : Nat → Nat → Int32) (hM : MW D A 24 adr (mw ac adr sf af) H) (no : Nat) (oc on_ : Nat → Nat) (owd : Nat → Nat → Nat) (rb st : Nat → Int32) (ho : MOrd sf af no oc on_ owd rb st) (dl : Nat) (dw : Nat → Nat) (hd : MDra sf af dl dw) (x b : Int32) (hbv : b = 0 ∨ b = 1) : WRi l yX8_order wsX8_order ({ frames := 1, cells := 0, slots := 0, locals := 21 }) [.ref (adr 0), .int x, .int b] D ac H A 24 adr (MPo ac adr sf af (cd2 (ix x 4).isNone (decide (dl = 0) || decide (no = 60))) (fun r s1 a1 => ∃ k, k < 4 ∧ x = nI k ∧ 0 < dl ∧ no < 60 ∧ r = nI no ∧ s1 = (va_up (va_up (va_up sf 0 0) 6 (nI (no + 1))) 8 (sf 8 + 1)) ∧ a1 = (va_up (va_up (va_up (va_up (va_up (va_up af 7 (upd (af 7) no (nI k))) 8 (upd (af 8) no (nI dl))) 9 (blk no (mixF dl (af 1) (fun j => af 9 (8 * no + j))) (af 9))) 10 (upd (af 10) no b)) 11 (upd (af 11) no (-1))) 12 (upd (af 12) no (sf 8 + 1))))) := by
  refine Met.ofW (cc := cX8_order) (maxL := 4) (ret := (some .int)) (by decide) rfl ?_
  intro p e s m args below meth c s₁ B hml hv
  obtain ⟨hargs, hsz, hK⟩ := hv
  have hx := B.exec
  have hb := B.bytes
  have hr := B.returns
  have hts := atoms_spec (ws := wsX8_order) B.pre
  have hown : s.vm.findClass RX8 = some m.cls := findClass_of_methodNamed B.named
  have hlocks := B.notSynchronized
  subst hsz
  have inX8_ : ∀ w ∈ wsX80, w ∈ wsX8_order := by decide +kernel
  have hS : va_S A s.heap s.heap [] := va_S.rf
  have hl := lv_entry ([.ref (adr 0), .int x, .int b]) (n := 4) (Nat.le_of_ble_eq_true rfl)
  have hen := lg_entry_eq m [.ref (adr 0), .int x, .int b] 4
  rw [← hargs] at hen
  rw [hen]
  generalize (lg_sl ([.ref (adr 0), .int x, .int b]) ++ List.replicate (4 - (lg_sl ([.ref (adr 0), .int x, .int b])).length) Slot.unset).toArray = ls at hl ⊢
  have hl : lv_has ls 4 [(0, .ref (adr 0)), (1, .int x), (2, .int b)] := hl
  obtain ⟨Q0, hQ0⟩ : ∃ z0_, z0_ = MQ below (va_Qi (MPo ac adr sf af (cd2 (ix x 4).isNone (decide (dl = 0) || decide (no = 60))) (fun r s1 a1 => ∃ k, k < 4 ∧ x = nI k ∧ 0 < dl ∧ no < 60 ∧ r = nI no ∧ s1 = (va_up (va_up (va_up sf 0 0) 6 (nI (no + 1))) 8 (sf 8 + 1)) ∧ a1 = (va_up (va_up (va_up (va_up (va_up (va_up af 7 (upd (af 7) no (nI k))) 8 (upd (af 8) no (nI dl))) 9 (blk no (mixF dl (af 1) (fun j => af 9 (8 * no + j))) (af 9))) 10 (upd (af 10) no b)) 11 (upd (af 11) no (-1))) 12 (upd (af 12) no (sf 8 + 1))))) (fun c t => MW D A 24 adr c t.heap) A) args s 0 0 A := ⟨_, rfl⟩
  rw [← hQ0]
  have h60 := ho.2.1
  have h8 := hd.2.1
  refine lv_aload_n hx hb dX8_order_0 rfl (lv_at hl 0 rfl) ?_
  refine lv_iload_n hx hb dX8_order_1 rfl (lv_at hl 1 rfl) ?_
  refine lv_iconst (v := 4) hx hb dX8_order_2 (by decide) ?_
  refine m_top (show (4 : Int32) = nI 4 from rfl) ?_
  refine r_calli (va_runS (As := [.int x, .int (nI 4)]) (rest := [.ref (adr 0)]) ⟨hx, hb, hml, hown, hts⟩ (k_X8_isIn l D ac _ x 4 (by omega)) (va_cwS 2 hts gX8_order_X8_isIn rfl rfl rfl (by decide +kernel) ⟨Nat.le_of_ble_eq_true rfl, Nat.le_of_ble_eq_true rfl⟩) (pS hK) rfl rfl hl.1 rfl (lv_room (Nat.le_of_ble_eq_true rfl)) dX8_order_3 ⟨Nat.le_of_ble_eq_true rfl, Nat.le_of_ble_eq_true rfl⟩) hS (fun rv_1 locs hrv_1 hS => ?_)
  subst hrv_1
  rcases hi_x : ix x 4 with _ | k_x
  · refine m_top (show _ = (0 : Int32) from rfl) ?_
    refine lv_if_ne (tgt := 13) hx hb dX8_order_6 (by decide) (fun c6 => ?_) (fun c6 => ?_)
    · exact absurd c6 (by decide)
    · refine lv_iconst (v := 1) hx hb dX8_order_9 (by decide) ?_
      refine lv_goto (tgt := 34) hx hb dX8_order_10 (by decide) ?_
      refine w_calli (va_runV (As := [.int 1]) (rest := []) ⟨hx, hb, hml, hown, hts⟩ (k_X8_holds l D ac _ A adr sf af hM 1) (cwV 1 hts gX8_order_X8_holds rfl rfl rfl (by decide +kernel) ⟨Nat.le_of_ble_eq_true rfl, Nat.le_of_ble_eq_true rfl⟩) (pV hK (ci := 8) rfl (hM.cel (by omega) (show (mw ac adr sf af) 0 = .inr (8, mfs adr sf) from rfl))) rfl rfl hl.1 rfl (lv_room (Nat.le_of_ble_eq_true rfl)) dX8_order_34 ⟨Nat.le_of_ble_eq_true rfl, Nat.le_of_ble_eq_true rfl⟩) hS (fun rv_2 w_3 H locs hw_3 hM hS => ?_)
      obtain ⟨hrv_2, he_4⟩ := hw_3
      rw [he_4] at hM
      have hM := (MW.cg (s1 := (va_up sf 0 1)) (a1 := af) hM (fun j9 => if q0_ : j9 = 0 then (by subst q0_; rfl) else (by first | rfl | simp only [va_up, if_neg q0_] | fail)) (fun _ => rfl))
      subst hrv_2
      refine m_top (show _ = (0 : Int32) from rfl) ?_
      refine lv_if_ne (tgt := 42) hx hb dX8_order_37 (by decide) (fun c37 => ?_) (fun c37 => ?_)
      · exact absurd c37 (by decide)
      · refine lv_iconst (v := 0) hx hb dX8_order_40 (by decide) ?_
        rw [hQ0]
        exact e_wi hx hb hlocks hr dX8_order_41 hM hS (MPo.no (c := 1) (by simp [cd1, cd2, cd3, hi_x] : cd2 (ix x 4).isNone (decide (dl = 0) || decide (no = 60)) = 1) (by decide) rfl ⟨fun k9 u1_ u2_ => by first | rfl | simp only [va_up, if_neg u1_, if_neg u2_] | fail, fun k9 u1_ u2_ => by first | rfl | simp only [va_up, if_neg u1_, if_neg u2_] | fail⟩)
  · obtain ⟨b_x, e_x⟩ := ix_of hi_x (by omega)
    refine m_top (show _ = (1 : Int32) from rfl) ?_
    subst e_x
    refine lv_if_ne (tgt := 13) hx hb dX8_order_6 (by decide) (fun c6 => ?_) (fun c6 => ?_)
    · refine lv_aload_n hx hb dX8_order_13 rfl (lv_at hl 0 rfl) ?_
      refine m_get (ci := 8) (C := RX8) (T := TX8) (n := 35) (v := .int (sf 1)) hx hb hts inX8_ hown hK rfl (hM.cel (by omega) (show (mw ac adr sf af) 0 = .inr (8, mfs adr sf) from rfl)) 1 (by decide) (hts _ (by decide +kernel)) rfl dX8_order_14 ?_
      refine m_top (show (sf 1) = nI dl from hd.1) ?_
      refine lv_if_eq (tgt := 29) hx hb dX8_order_17 (by decide) (fun c17 => ?_) (fun c17 => ?_)
      · have f_dl : dl = 0 := (nI_eq (a := dl) (b := 0) (by omega) (by omega)).mp c17
        refine lv_iconst (v := 2) hx hb dX8_order_29 (by decide) ?_
        refine lv_goto (tgt := 34) hx hb dX8_order_30 (by decide) ?_
        refine w_calli (va_runV (As := [.int 2]) (rest := []) ⟨hx, hb, hml, hown, hts⟩ (k_X8_holds l D ac _ A adr sf af hM 2) (cwV 1 hts gX8_order_X8_holds rfl rfl rfl (by decide +kernel) ⟨Nat.le_of_ble_eq_true rfl, Nat.le_of_ble_eq_true rfl⟩) (pV hK (ci := 8) rfl (hM.cel (by omega) (show (mw ac adr sf af) 0 = .inr (8, mfs adr sf) from rfl))) rfl rfl hl.1 rfl (lv_room (Nat.le_of_ble_eq_true rfl)) dX8_order_34 ⟨Nat.le_of_ble_eq_true rfl, Nat.le_of_ble_eq_true rfl⟩) hS (fun rv_5 w_6 H locs hw_6 hM hS => ?_)
        obtain ⟨hrv_5, he_7⟩ := hw_6
        rw [he_7] at hM
        have hM := (MW.cg (s1 := (va_up sf 0 2)) (a1 := af) hM (fun j9 => if q0_ : j9 = 0 then (by subst q0_; rfl) else (by first | rfl | simp only [va_up, if_neg q0_] | fail)) (fun _ => rfl))
        subst hrv_5
        refine m_top (show _ = (0 : Int32) from rfl) ?_
        refine lv_if_ne (tgt := 42) hx hb dX8_order_37 (by decide) (fun c37 => ?_) (fun c37 => ?_)
        · exact absurd c37 (by decide)
        · refine lv_iconst (v := 0) hx hb dX8_order_40 (by decide) ?_
          rw [hQ0]
          exact e_wi hx hb hlocks hr dX8_order_41 hM hS (MPo.no (c := 2) (by simp [cd1, cd2, cd3, hi_x, f_dl] : cd2 (ix (nI k_x) 4).isNone (decide (dl = 0) || decide (no = 60)) = 2) (by decide) rfl ⟨fun k9 u1_ u2_ => by first | rfl | simp only [va_up, if_neg u1_, if_neg u2_] | fail, fun k9 u1_ u2_ => by first | rfl | simp only [va_up, if_neg u1_, if_neg u2_] | fail⟩)
      · have f_dl : ¬ dl = 0 := fun q => c17 (congrArg nI q)
        refine lv_aload_n hx hb dX8_order_20 rfl (lv_at hl 0 rfl) ?_
        refine m_get (ci := 8) (C := RX8) (T := TX8) (n := 35) (v := .int (sf 6)) hx hb hts inX8_ hown hK rfl (hM.cel (by omega) (show (mw ac adr sf af) 0 = .inr (8, mfs adr sf) from rfl)) 12 (by decide) (hts _ (by decide +kernel)) rfl dX8_order_21 ?_
        refine m_top (show (sf 6) = nI no from ho.1) ?_
        refine lv_bipush (v := 60) hx hb dX8_order_24 (by decide) ?_
        refine lv_icmp_ne (tgt := 33) hx hb dX8_order_26 (by decide) (fun c26 => ?_) (fun c26 => ?_)
        · have f_no : ¬ no = 60 := fun q => c26 (congrArg nI q)
          refine lv_iconst (v := 0) hx hb dX8_order_33 (by decide) ?_
          refine w_calli (va_runV (As := [.int 0]) (rest := []) ⟨hx, hb, hml, hown, hts⟩ (k_X8_holds l D ac _ A adr sf af hM 0) (cwV 1 hts gX8_order_X8_holds rfl rfl rfl (by decide +kernel) ⟨Nat.le_of_ble_eq_true rfl, Nat.le_of_ble_eq_true rfl⟩) (pV hK (ci := 8) rfl (hM.cel (by omega) (show (mw ac adr sf af) 0 = .inr (8, mfs adr sf) from rfl))) rfl rfl hl.1 rfl (lv_room (Nat.le_of_ble_eq_true rfl)) dX8_order_34 ⟨Nat.le_of_ble_eq_true rfl, Nat.le_of_ble_eq_true rfl⟩) hS (fun rv_8 w_9 H locs hw_9 hM hS => ?_)
          obtain ⟨hrv_8, he_10⟩ := hw_9
          rw [he_10] at hM
          have hM := (MW.cg (s1 := (va_up sf 0 0)) (a1 := af) hM (fun j9 => if q0_ : j9 = 0 then (by subst q0_; rfl) else (by first | rfl | simp only [va_up, if_neg q0_] | fail)) (fun _ => rfl))
          subst hrv_8
          refine m_top (show _ = (1 : Int32) from rfl) ?_
          refine lv_if_ne (tgt := 42) hx hb dX8_order_37 (by decide) (fun c37 => ?_) (fun c37 => ?_)
          · refine lv_aload_n hx hb dX8_order_42 rfl (lv_at hl 0 rfl) ?_
            refine m_get (ci := 8) (C := RX8) (T := TX8) (n := 35) (v := .ref (adr 7)) hx hb hts inX8_ hown hK rfl (hM.cel (by omega) (show (mw ac adr (va_up sf 0 0) af) 0 = .inr (8, mfs adr (va_up sf 0 0)) from rfl)) 13 (by decide) (hts _ (by decide +kernel)) rfl dX8_order_43 ?_
            refine lv_aload_n hx hb dX8_order_46 rfl (lv_at hl 0 rfl) ?_
            refine m_get (ci := 8) (C := RX8) (T := TX8) (n := 35) (v := .int (sf 6)) hx hb hts inX8_ hown hK rfl (hM.cel (by omega) (show (mw ac adr (va_up sf 0 0) af) 0 = .inr (8, mfs adr (va_up sf 0 0)) from rfl)) 12 (by decide) (hts _ (by decide +kernel)) rfl dX8_order_47 ?_
            refine m_top (show (sf 6) = nI no from ho.1) ?_
            refine lv_iload_n hx hb dX8_order_50 rfl (lv_at hl 1 rfl) ?_
            refine m_iast hx hb hK hM hS 7 (by omega) (show (mw ac adr (va_up sf 0 0) af) 7 = .inl (ac 0, 60, .inl (af 7)) from rfl) (vp_in_nI (by omega) (by decide)) dX8_order_51 (fun H locs hM hS => ?_)
            have ef_ : (upd (af 7) (nI no).toNatClampNeg (nI k_x)) = upd (af 7) no (nI k_x) := by rw [nI_clamp (by omega)]
            rw [ef_] at hM
            clear ef_
            have hM := MW.marr (a1 := (va_up af 7 (upd (af 7) no (nI k_x)))) hM (by decide) rfl rfl (fun j9 hj9 => by simp only [va_up, if_neg hj9])
            refine lv_aload_n hx hb dX8_order_52 rfl (lv_at hl 0 rfl) ?_
            refine m_get (ci := 8) (C := RX8) (T := TX8) (n := 35) (v := .ref (adr 8)) hx hb hts inX8_ hown hK rfl (hM.cel (by omega) (show (mw ac adr (va_up sf 0 0) (va_up af 7 (upd (af 7) no (nI k_x)))) 0 = .inr (8, mfs adr (va_up sf 0 0)) from rfl)) 14 (by decide) (hts _ (by decide +kernel)) rfl dX8_order_53 ?_
            refine lv_aload_n hx hb dX8_order_56 rfl (lv_at hl 0 rfl) ?_
            refine m_get (ci := 8) (C := RX8) (T := TX8) (n := 35) (v := .int (sf 6)) hx hb hts inX8_ hown hK rfl (hM.cel (by omega) (show (mw ac adr (va_up sf 0 0) (va_up af 7 (upd (af 7) no (nI k_x)))) 0 = .inr (8, mfs adr (va_up sf 0 0)) from rfl)) 12 (by decide) (hts _ (by decide +kernel)) rfl dX8_order_57 ?_
            refine m_top (show (sf 6) = nI no from ho.1) ?_
            refine lv_aload_n hx hb dX8_order_60 rfl (lv_at hl 0 rfl) ?_
            refine m_get (ci := 8) (C := RX8) (T := TX8) (n := 35) (v := .int (sf 1)) hx hb hts inX8_ hown hK rfl (hM.cel (by omega) (show (mw ac adr (va_up sf 0 0) (va_up af 7 (upd (af 7) no (nI k_x)))) 0 = .inr (8, mfs adr (va_up sf 0 0)) from rfl)) 1 (by decide) (hts _ (by decide +kernel)) rfl dX8_order_61 ?_
            refine m_top (show (sf 1) = nI dl from hd.1) ?_
            refine m_iast hx hb hK hM hS 8 (by omega) (show (mw ac adr (va_up sf 0 0) (va_up af 7 (upd (af 7) no (nI k_x)))) 8 = .inl (ac 0, 60, .inl (af 8)) from rfl) (vp_in_nI (by omega) (by decide)) dX8_order_64 (fun H locs hM hS => ?_)
            have ef_ : (upd (af 8) (nI no).toNatClampNeg (nI dl)) = upd (af 8) no (nI dl) := by rw [nI_clamp (by omega)]
            rw [ef_] at hM
            clear ef_
            have hM := MW.marr (a1 := (va_up (va_up af 7 (upd (af 7) no (nI k_x))) 8 (upd (af 8) no (nI dl)))) hM (by decide) rfl rfl (fun j9 hj9 => by simp only [va_up, if_neg hj9])
            have hM := MW.cg (s1 := (va_up sf 0 0)) (a1 := (va_up (va_up (va_up af 7 (upd (af 7) no (nI k_x))) 8 (upd (af 8) no (nI dl))) 9 (blk no (mixF 0 (af 1) (fun j => af 9 (8 * no + j))) (af 9)))) hM (fun _ => rfl) (fun j9 => if q0_ : j9 = 9 then (by subst q0_; show blk no (mixF 0 (af 1) (fun j => af 9 (8 * no + j))) (af 9) = af 9; exact (by rw [mixF_0]; exact blk_0)) else (by first | rfl | simp only [va_up, if_neg q0_] | fail))
            refine lv_iconst (v := 0) hx hb dX8_order_65 (by decide) ?_
            refine lv_istore_n (lv' := [(3, .int 0), (0, .ref (adr 0)), (1, .int (nI k_x)), (2, .int b)]) hx hb dX8_order_66 rfl hl (by decide) rfl (fun ls hl => ?_)
            have L67 : ∀ (k9 : Nat) (i : Nat) (hk : dl - i < k9) (hi : i ≤ dl) (H : Heap) (locs : List Loc) (hM : MW D A 24 adr (mw ac adr (va_up sf 0 0) (va_up (va_up (va_up af 7 (upd (af 7) no (nI k_x))) 8 (upd (af 8) no (nI dl))) 9 (blk no (mixF i (af 1) (fun j => af 9 (8 * no + j))) (af 9)))) H) (hS : va_S A s.heap H locs) (ls : Array Slot) (hl : lv_has ls 4 [(0, .ref (adr 0)), (1, .int (nI k_x)), (2, .int b), (3, .int (nI i))]), W p l e (headSpec wsX8_order ({ frames := 1, cells := 0, slots := 0, locals := 21 })).room s m args below meth c H locs 0 0 Q0 (F0 m 67 ls []) := by
              intro k9
              induction k9 with
              | zero => intro i hk hi H locs hM hS ls hl; exact absurd hk (Nat.not_lt_zero _)
              | succ k9 ih67 =>
                intro i hk hi H locs hM hS ls hl
                refine lv_iload_n hx hb dX8_order_67 rfl (lv_at hl 3 rfl) ?_
                refine lv_aload_n hx hb dX8_order_68 rfl (lv_at hl 0 rfl) ?_
                refine m_get (ci := 8) (C := RX8) (T := TX8) (n := 35) (v := .int (sf 1)) hx hb hts inX8_ hown hK rfl (hM.cel (by omega) (show (mw ac adr (va_up sf 0 0) (va_up (va_up (va_up af 7 (upd (af 7) no (nI k_x))) 8 (upd (af 8) no (nI dl))) 9 (blk no (mixF i (af 1) (fun j => af 9 (8 * no + j))) (af 9)))) 0 = .inr (8, mfs adr (va_up sf 0 0)) from rfl)) 1 (by decide) (hts _ (by decide +kernel)) rfl dX8_order_69 ?_
                refine m_top (show (sf 1) = nI dl from hd.1) ?_
                refine lv_icmp_ge (tgt := 101) hx hb dX8_order_72 (by decide) (fun c72 => ?_) (fun c72 => ?_)
                · have e9 : i = dl := by have := le_le c72 (by omega) (by omega); omega
                  refine lv_aload_n hx hb dX8_order_101 rfl (lv_at hl 0 rfl) ?_
                  refine m_get (ci := 8) (C := RX8) (T := TX8) (n := 35) (v := .ref (adr 10)) hx hb hts inX8_ hown hK rfl (hM.cel (by omega) (show (mw ac adr (va_up sf 0 0) (va_up (va_up (va_up af 7 (upd (af 7) no (nI k_x))) 8 (upd (af 8) no (nI dl))) 9 (blk no (mixF i (af 1) (fun j => af 9 (8 * no + j))) (af 9)))) 0 = .inr (8, mfs adr (va_up sf 0 0)) from rfl)) 16 (by decide) (hts _ (by decide +kernel)) rfl dX8_order_102 ?_
                  refine lv_aload_n hx hb dX8_order_105 rfl (lv_at hl 0 rfl) ?_
                  refine m_get (ci := 8) (C := RX8) (T := TX8) (n := 35) (v := .int (sf 6)) hx hb hts inX8_ hown hK rfl (hM.cel (by omega) (show (mw ac adr (va_up sf 0 0) (va_up (va_up (va_up af 7 (upd (af 7) no (nI k_x))) 8 (upd (af 8) no (nI dl))) 9 (blk no (mixF i (af 1) (fun j => af 9 (8 * no + j))) (af 9)))) 0 = .inr (8, mfs adr (va_up sf 0 0)) from rfl)) 12 (by decide) (hts _ (by decide +kernel)) rfl dX8_order_106 ?_
                  refine m_top (show (sf 6) = nI no from ho.1) ?_
                  refine lv_iload_n hx hb dX8_order_109 rfl (lv_at hl 2 rfl) ?_
                  refine m_zast hx hb hK hM hS 10 (by omega) (show (mw ac adr (va_up sf 0 0) (va_up (va_up (va_up af 7 (upd (af 7) no (nI k_x))) 8 (upd (af 8) no (nI dl))) 9 (blk no (mixF i (af 1) (fun j => af 9 (8 * no + j))) (af 9)))) 10 = .inl (ac 2, 60, .inl (af 10)) from rfl) (vp_in_nI (by omega) (by decide)) dX8_order_110 (fun H locs hM hS => ?_)
                  have ef_ : (upd (af 10) (nI no).toNatClampNeg (vp_nar .boolean b)) = upd (af 10) no b := by rw [nI_clamp (by omega), nar01 hbv]
                  rw [ef_] at hM
                  clear ef_
                  have hM := MW.marr (a1 := (va_up (va_up (va_up (va_up af 7 (upd (af 7) no (nI k_x))) 8 (upd (af 8) no (nI dl))) 9 (blk no (mixF i (af 1) (fun j => af 9 (8 * no + j))) (af 9))) 10 (upd (af 10) no b))) hM (by decide) rfl rfl (fun j9 hj9 => by simp only [va_up, if_neg hj9])
                  refine lv_aload_n hx hb dX8_order_111 rfl (lv_at hl 0 rfl) ?_
                  refine m_get (ci := 8) (C := RX8) (T := TX8) (n := 35) (v := .ref (adr 11)) hx hb hts inX8_ hown hK rfl (hM.cel (by omega) (show (mw ac adr (va_up sf 0 0) (va_up (va_up (va_up (va_up af 7 (upd (af 7) no (nI k_x))) 8 (upd (af 8) no (nI dl))) 9 (blk no (mixF i (af 1) (fun j => af 9 (8 * no + j))) (af 9))) 10 (upd (af 10) no b))) 0 = .inr (8, mfs adr (va_up sf 0 0)) from rfl)) 17 (by decide) (hts _ (by decide +kernel)) rfl dX8_order_112 ?_
                  refine lv_aload_n hx hb dX8_order_115 rfl (lv_at hl 0 rfl) ?_
                  refine m_get (ci := 8) (C := RX8) (T := TX8) (n := 35) (v := .int (sf 6)) hx hb hts inX8_ hown hK rfl (hM.cel (by omega) (show (mw ac adr (va_up sf 0 0) (va_up (va_up (va_up (va_up af 7 (upd (af 7) no (nI k_x))) 8 (upd (af 8) no (nI dl))) 9 (blk no (mixF i (af 1) (fun j => af 9 (8 * no + j))) (af 9))) 10 (upd (af 10) no b))) 0 = .inr (8, mfs adr (va_up sf 0 0)) from rfl)) 12 (by decide) (hts _ (by decide +kernel)) rfl dX8_order_116 ?_
                  refine m_top (show (sf 6) = nI no from ho.1) ?_
                  refine lv_iconst (v := (-1)) hx hb dX8_order_119 (by decide) ?_
                  refine m_iast hx hb hK hM hS 11 (by omega) (show (mw ac adr (va_up sf 0 0) (va_up (va_up (va_up (va_up af 7 (upd (af 7) no (nI k_x))) 8 (upd (af 8) no (nI dl))) 9 (blk no (mixF i (af 1) (fun j => af 9 (8 * no + j))) (af 9))) 10 (upd (af 10) no b))) 11 = .inl (ac 0, 60, .inl (af 11)) from rfl) (vp_in_nI (by omega) (by decide)) dX8_order_120 (fun H locs hM hS => ?_)
                  have ef_ : (upd (af 11) (nI no).toNatClampNeg (-1)) = upd (af 11) no (-1) := by rw [nI_clamp (by omega)]
                  rw [ef_] at hM
                  clear ef_
                  have hM := MW.marr (a1 := (va_up (va_up (va_up (va_up (va_up af 7 (upd (af 7) no (nI k_x))) 8 (upd (af 8) no (nI dl))) 9 (blk no (mixF i (af 1) (fun j => af 9 (8 * no + j))) (af 9))) 10 (upd (af 10) no b)) 11 (upd (af 11) no (-1)))) hM (by decide) rfl rfl (fun j9 hj9 => by simp only [va_up, if_neg hj9])
                  refine lv_aload_n hx hb dX8_order_121 rfl (lv_at hl 0 rfl) ?_
                  refine lv_dup hx hb dX8_order_122 rfl ?_
                  refine m_get (ci := 8) (C := RX8) (T := TX8) (n := 35) (v := .int (sf 8)) hx hb hts inX8_ hown hK rfl (hM.cel (by omega) (show (mw ac adr (va_up sf 0 0) (va_up (va_up (va_up (va_up (va_up af 7 (upd (af 7) no (nI k_x))) 8 (upd (af 8) no (nI dl))) 9 (blk no (mixF i (af 1) (fun j => af 9 (8 * no + j))) (af 9))) 10 (upd (af 10) no b)) 11 (upd (af 11) no (-1)))) 0 = .inr (8, mfs adr (va_up sf 0 0)) from rfl)) 20 (by decide) (hts _ (by decide +kernel)) rfl dX8_order_123 ?_
                  refine lv_iconst (v := 1) hx hb dX8_order_126 (by decide) ?_
                  refine lv_iadd hx hb dX8_order_127 ?_
                  refine m_put (ci := 8) (C := RX8) (T := TX8) (n := 35) (v := .int ((sf 8) + 1)) (ty := tyX8 20) hx hb hts inX8_ tyX8 tyX8_ok nmX8 hown hK hM hS rfl 0 (by omega) (show (mw ac adr (va_up sf 0 0) (va_up (va_up (va_up (va_up (va_up af 7 (upd (af 7) no (nI k_x))) 8 (upd (af 8) no (nI dl))) 9 (blk no (mixF i (af 1) (fun j => af 9 (8 * no + j))) (af 9))) 10 (upd (af 10) no b)) 11 (upd (af 11) no (-1)))) 0 = .inr (8, mfs adr (va_up sf 0 0)) from rfl) 20 (by decide) (hts _ (by decide +kernel)) rfl (by decide +kernel) rfl rfl (Nat.le_of_ble_eq_true rfl) dX8_order_128 (fun H locs hM hS => ?_)
                  have hM : MW D A 24 adr (va_up (mw ac adr (va_up sf 0 0) (va_up (va_up (va_up (va_up (va_up af 7 (upd (af 7) no (nI k_x))) 8 (upd (af 8) no (nI dl))) 9 (blk no (mixF i (af 1) (fun j => af 9 (8 * no + j))) (af 9))) 10 (upd (af 10) no b)) 11 (upd (af 11) no (-1)))) 0 (.inr (8, mfs adr (va_up (va_up sf 0 0) 8 ((sf 8) + 1))))) H := hM
                  have hM := MW.mobj (s1 := (va_up (va_up sf 0 0) 8 ((sf 8) + 1))) hM rfl
                  refine lv_aload_n hx hb dX8_order_131 rfl (lv_at hl 0 rfl) ?_
                  refine m_get (ci := 8) (C := RX8) (T := TX8) (n := 35) (v := .ref (adr 12)) hx hb hts inX8_ hown hK rfl (hM.cel (by omega) (show (mw ac adr (va_up (va_up sf 0 0) 8 ((sf 8) + 1)) (va_up (va_up (va_up (va_up (va_up af 7 (upd (af 7) no (nI k_x))) 8 (upd (af 8) no (nI dl))) 9 (blk no (mixF i (af 1) (fun j => af 9 (8 * no + j))) (af 9))) 10 (upd (af 10) no b)) 11 (upd (af 11) no (-1)))) 0 = .inr (8, mfs adr (va_up (va_up sf 0 0) 8 ((sf 8) + 1))) from rfl)) 18 (by decide) (hts _ (by decide +kernel)) rfl dX8_order_132 ?_
                  refine lv_aload_n hx hb dX8_order_135 rfl (lv_at hl 0 rfl) ?_
                  refine m_get (ci := 8) (C := RX8) (T := TX8) (n := 35) (v := .int (sf 6)) hx hb hts inX8_ hown hK rfl (hM.cel (by omega) (show (mw ac adr (va_up (va_up sf 0 0) 8 ((sf 8) + 1)) (va_up (va_up (va_up (va_up (va_up af 7 (upd (af 7) no (nI k_x))) 8 (upd (af 8) no (nI dl))) 9 (blk no (mixF i (af 1) (fun j => af 9 (8 * no + j))) (af 9))) 10 (upd (af 10) no b)) 11 (upd (af 11) no (-1)))) 0 = .inr (8, mfs adr (va_up (va_up sf 0 0) 8 ((sf 8) + 1))) from rfl)) 12 (by decide) (hts _ (by decide +kernel)) rfl dX8_order_136 ?_
                  refine m_top (show (sf 6) = nI no from ho.1) ?_
                  refine lv_aload_n hx hb dX8_order_139 rfl (lv_at hl 0 rfl) ?_
                  refine m_get (ci := 8) (C := RX8) (T := TX8) (n := 35) (v := .int ((sf 8) + 1)) hx hb hts inX8_ hown hK rfl (hM.cel (by omega) (show (mw ac adr (va_up (va_up sf 0 0) 8 ((sf 8) + 1)) (va_up (va_up (va_up (va_up (va_up af 7 (upd (af 7) no (nI k_x))) 8 (upd (af 8) no (nI dl))) 9 (blk no (mixF i (af 1) (fun j => af 9 (8 * no + j))) (af 9))) 10 (upd (af 10) no b)) 11 (upd (af 11) no (-1)))) 0 = .inr (8, mfs adr (va_up (va_up sf 0 0) 8 ((sf 8) + 1))) from rfl)) 20 (by decide) (hts _ (by decide +kernel)) rfl dX8_order_140 ?_
                  refine m_iast hx hb hK hM hS 12 (by omega) (show (mw ac adr (va_up (va_up sf 0 0) 8 ((sf 8) + 1)) (va_up (va_up (va_up (va_up (va_up af 7 (upd (af 7) no (nI k_x))) 8 (upd (af 8) no (nI dl))) 9 (blk no (mixF i (af 1) (fun j => af 9 (8 * no + j))) (af 9))) 10 (upd (af 10) no b)) 11 (upd (af 11) no (-1)))) 12 = .inl (ac 0, 60, .inl (af 12)) from rfl) (vp_in_nI (by omega) (by decide)) dX8_order_143 (fun H locs hM hS => ?_)
                  have ef_ : (upd (af 12) (nI no).toNatClampNeg ((sf 8) + 1)) = upd (af 12) no ((sf 8) + 1) := by rw [nI_clamp (by omega)]
                  rw [ef_] at hM
                  clear ef_
                  have hM := MW.marr (a1 := (va_up (va_up (va_up (va_up (va_up (va_up af 7 (upd (af 7) no (nI k_x))) 8 (upd (af 8) no (nI dl))) 9 (blk no (mixF i (af 1) (fun j => af 9 (8 * no + j))) (af 9))) 10 (upd (af 10) no b)) 11 (upd (af 11) no (-1))) 12 (upd (af 12) no ((sf 8) + 1)))) hM (by decide) rfl rfl (fun j9 hj9 => by simp only [va_up, if_neg hj9])
                  refine lv_aload_n hx hb dX8_order_144 rfl (lv_at hl 0 rfl) ?_
                  refine lv_dup hx hb dX8_order_145 rfl ?_
                  refine m_get (ci := 8) (C := RX8) (T := TX8) (n := 35) (v := .int (sf 6)) hx hb hts inX8_ hown hK rfl (hM.cel (by omega) (show (mw ac adr (va_up (va_up sf 0 0) 8 ((sf 8) + 1)) (va_up (va_up (va_up (va_up (va_up (va_up af 7 (upd (af 7) no (nI k_x))) 8 (upd (af 8) no (nI dl))) 9 (blk no (mixF i (af 1) (fun j => af 9 (8 * no + j))) (af 9))) 10 (upd (af 10) no b)) 11 (upd (af 11) no (-1))) 12 (upd (af 12) no ((sf 8) + 1)))) 0 = .inr (8, mfs adr (va_up (va_up sf 0 0) 8 ((sf 8) + 1))) from rfl)) 12 (by decide) (hts _ (by decide +kernel)) rfl dX8_order_146 ?_
                  refine m_top (show (sf 6) = nI no from ho.1) ?_
                  refine lv_iconst (v := 1) hx hb dX8_order_149 (by decide) ?_
                  refine lv_iadd hx hb dX8_order_150 ?_
                  refine m_top (show ((nI no) + 1) = nI (no + 1) from nI_1 _) ?_
                  refine m_put (ci := 8) (C := RX8) (T := TX8) (n := 35) (v := .int (nI (no + 1))) (ty := tyX8 12) hx hb hts inX8_ tyX8 tyX8_ok nmX8 hown hK hM hS rfl 0 (by omega) (show (mw ac adr (va_up (va_up sf 0 0) 8 ((sf 8) + 1)) (va_up (va_up (va_up (va_up (va_up (va_up af 7 (upd (af 7) no (nI k_x))) 8 (upd (af 8) no (nI dl))) 9 (blk no (mixF i (af 1) (fun j => af 9 (8 * no + j))) (af 9))) 10 (upd (af 10) no b)) 11 (upd (af 11) no (-1))) 12 (upd (af 12) no ((sf 8) + 1)))) 0 = .inr (8, mfs adr (va_up (va_up sf 0 0) 8 ((sf 8) + 1))) from rfl) 12 (by decide) (hts _ (by decide +kernel)) rfl (by decide +kernel) rfl rfl (Nat.le_of_ble_eq_true rfl) dX8_order_151 (fun H locs hM hS => ?_)
                  have hM : MW D A 24 adr (va_up (mw ac adr (va_up (va_up sf 0 0) 8 ((sf 8) + 1)) (va_up (va_up (va_up (va_up (va_up (va_up af 7 (upd (af 7) no (nI k_x))) 8 (upd (af 8) no (nI dl))) 9 (blk no (mixF i (af 1) (fun j => af 9 (8 * no + j))) (af 9))) 10 (upd (af 10) no b)) 11 (upd (af 11) no (-1))) 12 (upd (af 12) no ((sf 8) + 1)))) 0 (.inr (8, mfs adr (va_up (va_up (va_up sf 0 0) 6 (nI (no + 1))) 8 ((sf 8) + 1))))) H := hM
                  have hM := MW.mobj (s1 := (va_up (va_up (va_up sf 0 0) 6 (nI (no + 1))) 8 ((sf 8) + 1))) hM rfl
                  refine lv_aload_n hx hb dX8_order_154 rfl (lv_at hl 0 rfl) ?_
                  refine m_get (ci := 8) (C := RX8) (T := TX8) (n := 35) (v := .int (nI (no + 1))) hx hb hts inX8_ hown hK rfl (hM.cel (by omega) (show (mw ac adr (va_up (va_up (va_up sf 0 0) 6 (nI (no + 1))) 8 ((sf 8) + 1)) (va_up (va_up (va_up (va_up (va_up (va_up af 7 (upd (af 7) no (nI k_x))) 8 (upd (af 8) no (nI dl))) 9 (blk no (mixF i (af 1) (fun j => af 9 (8 * no + j))) (af 9))) 10 (upd (af 10) no b)) 11 (upd (af 11) no (-1))) 12 (upd (af 12) no ((sf 8) + 1)))) 0 = .inr (8, mfs adr (va_up (va_up (va_up sf 0 0) 6 (nI (no + 1))) 8 ((sf 8) + 1))) from rfl)) 12 (by decide) (hts _ (by decide +kernel)) rfl dX8_order_155 ?_
                  refine lv_iconst (v := 1) hx hb dX8_order_158 (by decide) ?_
                  refine lv_isub hx hb dX8_order_159 ?_
                  refine m_top (show ((nI (no + 1)) - 1) = nI no from pk_sub (a := no + 1) (b := 1) (by omega)) ?_
                  rw [hQ0]
                  exact e_wi hx hb hlocks hr dX8_order_160 hM hS (MPo.ok (by simp [cd1, cd2, cd3, hi_x, f_dl, f_no] : cd2 (ix (nI k_x) 4).isNone (decide (dl = 0) || decide (no = 60)) = 0) rfl ⟨k_x, b_x, rfl, by omega, by omega, rfl, rfl, by rw [e9]⟩)
                · have hin : i < dl := nle_lt c72 (by omega) (by omega)
                  refine lv_aload_n hx hb dX8_order_75 rfl (lv_at hl 0 rfl) ?_
                  refine m_get (ci := 8) (C := RX8) (T := TX8) (n := 35) (v := .ref (adr 9)) hx hb hts inX8_ hown hK rfl (hM.cel (by omega) (show (mw ac adr (va_up sf 0 0) (va_up (va_up (va_up af 7 (upd (af 7) no (nI k_x))) 8 (upd (af 8) no (nI dl))) 9 (blk no (mixF i (af 1) (fun j => af 9 (8 * no + j))) (af 9)))) 0 = .inr (8, mfs adr (va_up sf 0 0)) from rfl)) 15 (by decide) (hts _ (by decide +kernel)) rfl dX8_order_76 ?_
                  refine lv_bipush (v := 8) hx hb dX8_order_79 (by decide) ?_
                  refine lv_aload_n hx hb dX8_order_81 rfl (lv_at hl 0 rfl) ?_
                  refine m_get (ci := 8) (C := RX8) (T := TX8) (n := 35) (v := .int (sf 6)) hx hb hts inX8_ hown hK rfl (hM.cel (by omega) (show (mw ac adr (va_up sf 0 0) (va_up (va_up (va_up af 7 (upd (af 7) no (nI k_x))) 8 (upd (af 8) no (nI dl))) 9 (blk no (mixF i (af 1) (fun j => af 9 (8 * no + j))) (af 9)))) 0 = .inr (8, mfs adr (va_up sf 0 0)) from rfl)) 12 (by decide) (hts _ (by decide +kernel)) rfl dX8_order_82 ?_
                  refine m_top (show (sf 6) = nI no from ho.1) ?_
                  refine lv_imul hx hb dX8_order_85 ?_
                  refine m_top (show (8 * (nI no)) = nI (8 * no) from by rw [show (8 : Int32) = nI 8 from rfl, pk_mul]) ?_
                  refine lv_iload_n hx hb dX8_order_86 rfl (lv_at hl 3 rfl) ?_
                  refine lv_iadd hx hb dX8_order_87 ?_
                  refine m_top (show ((nI (8 * no)) + (nI i)) = nI (8 * no + i) from nI_add _ _) ?_
                  refine lv_aload_n hx hb dX8_order_88 rfl (lv_at hl 0 rfl) ?_
                  refine m_get (ci := 8) (C := RX8) (T := TX8) (n := 35) (v := .ref (adr 1)) hx hb hts inX8_ hown hK rfl (hM.cel (by omega) (show (mw ac adr (va_up sf 0 0) (va_up (va_up (va_up af 7 (upd (af 7) no (nI k_x))) 8 (upd (af 8) no (nI dl))) 9 (blk no (mixF i (af 1) (fun j => af 9 (8 * no + j))) (af 9)))) 0 = .inr (8, mfs adr (va_up sf 0 0)) from rfl)) 2 (by decide) (hts _ (by decide +kernel)) rfl dX8_order_89 ?_
                  refine lv_iload_n hx hb dX8_order_92 rfl (lv_at hl 3 rfl) ?_
                  refine m_iald hx hb hK (hM.cel (by omega) (show (mw ac adr (va_up sf 0 0) (va_up (va_up (va_up af 7 (upd (af 7) no (nI k_x))) 8 (upd (af 8) no (nI dl))) 9 (blk no (mixF i (af 1) (fun j => af 9 (8 * no + j))) (af 9)))) 1 = .inl (ac 0, 8, .inl (af 1)) from rfl)) (vp_in_nI (by omega) (by decide)) dX8_order_93 ?_
                  refine m_top (show ((af 1) (nI i).toNatClampNeg) = af 1 i from by rw [nI_clamp (by omega)]) ?_
                  refine m_iast hx hb hK hM hS 9 (by omega) (show (mw ac adr (va_up sf 0 0) (va_up (va_up (va_up af 7 (upd (af 7) no (nI k_x))) 8 (upd (af 8) no (nI dl))) 9 (blk no (mixF i (af 1) (fun j => af 9 (8 * no + j))) (af 9)))) 9 = .inl (ac 0, 480, .inl (blk no (mixF i (af 1) (fun j => af 9 (8 * no + j))) (af 9))) from rfl) (vp_in_nI (by omega) (by decide)) dX8_order_94 (fun H locs hM hS => ?_)
                  have ef_ : (upd (blk no (mixF i (af 1) (fun j => af 9 (8 * no + j))) (af 9)) (nI (8 * no + i)).toNatClampNeg (af 1 i)) = blk no (mixF (i + 1) (af 1) (fun j => af 9 (8 * no + j))) (af 9) := by rw [nI_clamp (by omega)]; exact (blk_u (by omega)).trans (congrArg (fun z => blk no z (af 9)) mixF_s)
                  rw [ef_] at hM
                  clear ef_
                  have hM := MW.marr (a1 := (va_up (va_up (va_up af 7 (upd (af 7) no (nI k_x))) 8 (upd (af 8) no (nI dl))) 9 (blk no (mixF (i + 1) (af 1) (fun j => af 9 (8 * no + j))) (af 9)))) hM (by decide) rfl rfl (fun j9 hj9 => by simp only [va_up, if_neg hj9])
                  refine lv_iinc (v := nI (i + 1)) (lv' := [(3, .int (nI (i + 1))), (0, .ref (adr 0)), (1, .int (nI k_x)), (2, .int b)]) hx hb dX8_order_95 hl (k := 3) rfl (nI_1 _) (by decide) rfl (fun ls hl => ?_)
                  refine lv_goto (tgt := 67) hx hb dX8_order_98 (by decide) ?_
                  exact ih67 (i + 1) (by omega) (by omega) _ _ (MW.cg hM (fun _ => rfl) (fun j9 => if q0_ : j9 = 9 then (by subst q0_; rfl) else (by first | rfl | simp only [va_up, if_neg q0_] | fail))) hS ls (lv_sub hl [1, 2, 3, 0] rfl)
            exact L67 _ 0 (Nat.lt_succ_self _) (Nat.zero_le _) _ _ (MW.cg hM (fun _ => rfl) (fun j9 => if q0_ : j9 = 9 then (by subst q0_; rfl) else (by first | rfl | simp only [va_up, if_neg q0_] | fail))) hS ls (lv_sub hl [1, 2, 3, 0] rfl)
          · exact absurd c37 (by decide)
        · have f_no : no = 60 := (nI_eq (a := no) (b := 60) (by omega) (by omega)).mp c26
          refine lv_iconst (v := 2) hx hb dX8_order_29 (by decide) ?_
          refine lv_goto (tgt := 34) hx hb dX8_order_30 (by decide) ?_
          refine w_calli (va_runV (As := [.int 2]) (rest := []) ⟨hx, hb, hml, hown, hts⟩ (k_X8_holds l D ac _ A adr sf af hM 2) (cwV 1 hts gX8_order_X8_holds rfl rfl rfl (by decide +kernel) ⟨Nat.le_of_ble_eq_true rfl, Nat.le_of_ble_eq_true rfl⟩) (pV hK (ci := 8) rfl (hM.cel (by omega) (show (mw ac adr sf af) 0 = .inr (8, mfs adr sf) from rfl))) rfl rfl hl.1 rfl (lv_room (Nat.le_of_ble_eq_true rfl)) dX8_order_34 ⟨Nat.le_of_ble_eq_true rfl, Nat.le_of_ble_eq_true rfl⟩) hS (fun rv_17 w_18 H locs hw_18 hM hS => ?_)
          obtain ⟨hrv_17, he_19⟩ := hw_18
          rw [he_19] at hM
          have hM := (MW.cg (s1 := (va_up sf 0 2)) (a1 := af) hM (fun j9 => if q0_ : j9 = 0 then (by subst q0_; rfl) else (by first | rfl | simp only [va_up, if_neg q0_] | fail)) (fun _ => rfl))
          subst hrv_17
          refine m_top (show _ = (0 : Int32) from rfl) ?_
          refine lv_if_ne (tgt := 42) hx hb dX8_order_37 (by decide) (fun c37 => ?_) (fun c37 => ?_)
          · exact absurd c37 (by decide)
          · refine lv_iconst (v := 0) hx hb dX8_order_40 (by decide) ?_
            rw [hQ0]
            exact e_wi hx hb hlocks hr dX8_order_41 hM hS (MPo.no (c := 2) (by simp [cd1, cd2, cd3, hi_x, f_dl, f_no] : cd2 (ix (nI k_x) 4).isNone (decide (dl = 0) || decide (no = 60)) = 2) (by decide) rfl ⟨fun k9 u1_ u2_ => by first | rfl | simp only [va_up, if_neg u1_, if_neg u2_] | fail, fun k9 u1_ u2_ => by first | rfl | simp only [va_up, if_neg u1_, if_neg u2_] | fail⟩)
    · exact absurd c6 (by decide)
set_option maxHeartbeats 4000000 in
set_option maxRecDepth 100000 in
/-- X8_pairs -/
theorem k_X8_pairs (l : Launch) (D : va_G) (ac : Nat → ClassId) (H : Heap) (A : Nat → Prop) (adr : Nat → Nat) (sf : Nat → Int32) (af : Nat → Nat → Int32) (hM : MW D A 24 adr (mw ac adr sf af) H) (ns : Nat) (sc sn : Nat → Nat) (sw : Nat → Nat → Nat) (sb : Nat → Nat → Int32) (hs : MSen sf af ns sc sn sw sb) (n : Nat) (f : Nat → Int32) (hw : MRow sf af n f) (o : Nat) (ho9 : o < 60) (v9 : Nat) (hi : v9 < ns) (b0 B9 : Nat → Int32) (hb0 : af 14 = blk o b0 B9) : WRv l yX8_pairs wsX8_pairs ({ frames := 2, cells := 0, slots := 0, locals := 46 }) [.ref (adr 0), .int (nI o), .int (nI v9)] D ac H A 24 adr (fun w1 => ∃ T1 : Nat → Int32, w1 = mw ac adr sf (va_up (va_up af 14 (blk o (lendF f (fun j => nI (sw v9 j)) (sb v9) 16 n (sn v9) b0) B9)) 23 T1)) := by
  refine Met.ofW (cc := cX8_pairs) (maxL := 9) (ret := none) (by decide) rfl ?_
  intro p e s m args below meth c s₁ B hml hv
  obtain ⟨hargs, hsz, hK⟩ := hv
  have hx := B.exec
  have hb := B.bytes
  have hr := B.returns
  have hts := atoms_spec (ws := wsX8_pairs) B.pre
  have hown : s.vm.findClass RX8 = some m.cls := findClass_of_methodNamed B.named
  have hlocks := B.notSynchronized
  subst hsz
  have inX8_ : ∀ w ∈ wsX80, w ∈ wsX8_pairs := by decide +kernel
  have hS : va_S A s.heap s.heap [] := va_S.rf
  have hl := lv_entry ([.ref (adr 0), .int (nI o), .int (nI v9)]) (n := 9) (Nat.le_of_ble_eq_true rfl)
  have hen := lg_entry_eq m [.ref (adr 0), .int (nI o), .int (nI v9)] 9
  rw [← hargs] at hen
  rw [hen]
  generalize (lg_sl ([.ref (adr 0), .int (nI o), .int (nI v9)]) ++ List.replicate (9 - (lg_sl ([.ref (adr 0), .int (nI o), .int (nI v9)])).length) Slot.unset).toArray = ls at hl ⊢
  have hl : lv_has ls 9 [(0, .ref (adr 0)), (1, .int (nI o)), (2, .int (nI v9))] := hl
  obtain ⟨Q0, hQ0⟩ : ∃ z0_, z0_ = MQ below (va_Qv (fun w1 => ∃ T1 : Nat → Int32, w1 = mw ac adr sf (va_up (va_up af 14 (blk o (lendF f (fun j => nI (sw v9 j)) (sb v9) 16 n (sn v9) b0) B9)) 23 T1)) (fun c t => MW D A 24 adr c t.heap) A) args s 0 0 A := ⟨_, rfl⟩
  rw [← hQ0]
  obtain ⟨q1_, q2_, ⟨q3_, q4_, q5_⟩, q6_⟩ := hs.2.2 v9 hi
  have q7_ := hs.2.1
  have w1_ := hw.1
  have w3_ := hw.2.1
  obtain ⟨R9, eR9⟩ : ∃ z, lendF f (fun j => nI (sw v9 j)) (sb v9) 16 n (sn v9) b0 = z := ⟨_, rfl⟩
  rw [eR9] at hQ0
  refine lv_aload_n hx hb dX8_pairs_0 rfl (lv_at hl 0 rfl) ?_
  refine lv_iload_n hx hb dX8_pairs_1 rfl (lv_at hl 2 rfl) ?_
  refine w_callv (va_runV (As := [.int (nI v9)]) (rest := []) ⟨hx, hb, hml, hown, hts⟩ (k_X8_compares l D ac _ A adr sf af hM ns sc sn sw sb (hs.t rfl rfl rfl rfl rfl) n f (hw.t rfl rfl) v9 (by omega)) (cwV 1 hts gX8_pairs_X8_compares rfl rfl rfl (by decide +kernel) ⟨Nat.le_of_ble_eq_true rfl, Nat.le_of_ble_eq_true rfl⟩) (pV hK (ci := 8) rfl (hM.cel (by omega) (show (mw ac adr sf af) 0 = .inr (8, mfs adr sf) from rfl))) rfl rfl hl.1 rfl (lv_room (Nat.le_of_ble_eq_true rfl)) dX8_pairs_2 ⟨Nat.le_of_ble_eq_true rfl, Nat.le_of_ble_eq_true rfl⟩) hS (fun w_3 H locs hw_3 hM hS => ?_)
  obtain ⟨T_1, he_4, eT_1⟩ := hw_3
  rw [he_4] at hM
  have hM := (MW.cg (s1 := sf) (a1 := (va_up af 23 T_1)) hM (fun _ => rfl) (fun j9 => if q0_ : j9 = 23 then (by subst q0_; rfl) else (by first | rfl | simp only [va_up, if_neg q0_] | fail)))
  refine lv_aload_n hx hb dX8_pairs_5 rfl (lv_at hl 0 rfl) ?_
  refine m_get (ci := 8) (C := RX8) (T := TX8) (n := 35) (v := .int (sf 11)) hx hb hts inX8_ hown hK rfl (hM.cel (by omega) (show (mw ac adr sf (va_up af 23 T_1)) 0 = .inr (8, mfs adr sf) from rfl)) 32 (by decide) (hts _ (by decide +kernel)) rfl dX8_pairs_6 ?_
  refine m_top (show (sf 11) = nI n from w1_) ?_
  refine lv_istore_n (lv' := [(3, .int (nI n)), (0, .ref (adr 0)), (1, .int (nI o)), (2, .int (nI v9))]) hx hb dX8_pairs_9 rfl hl (by decide) rfl (fun ls hl => ?_)
  refine lv_aload_n hx hb dX8_pairs_10 rfl (lv_at hl 1 rfl) ?_
  refine m_get (ci := 8) (C := RX8) (T := TX8) (n := 35) (v := .ref (adr 3)) hx hb hts inX8_ hown hK rfl (hM.cel (by omega) (show (mw ac adr sf (va_up af 23 T_1)) 0 = .inr (8, mfs adr sf) from rfl)) 8 (by decide) (hts _ (by decide +kernel)) rfl dX8_pairs_11 ?_
  refine lv_iload_n hx hb dX8_pairs_14 rfl (lv_at hl 3 rfl) ?_
  refine m_iald hx hb hK (hM.cel (by omega) (show (mw ac adr sf (va_up af 23 T_1)) 3 = .inl (ac 0, 40, .inl (af 3)) from rfl)) (vp_in_nI (by omega) (by decide)) dX8_pairs_15 ?_
  refine m_top (show ((af 3) (nI v9).toNatClampNeg) = nI (sn v9) from by rw [nI_clamp (by omega)]; exact q2_) ?_
  obtain ⟨T9, eT0, eT9⟩ : ∃ z : Nat → Int32, T_1 = z ∧ ∀ a b, a ≤ n → b ≤ sn v9 → z (a * 9 + b) = nI (ed f (fun j => nI (sw v9 j)) a b) := ⟨_, rfl, eT_1⟩
  have hM := MW.cg (s1 := sf) (a1 := (va_up (va_up af 14 (blk o b0 B9)) 23 T9)) hM (fun _ => rfl) (fun j9 => if q0_ : j9 = 14 then (by subst q0_; show blk o b0 B9 = af 14; exact (hb0.symm)) else if q1_ : j9 = 23 then (by subst q1_; show T9 = T_1; exact (eT0.symm)) else (by first | rfl | simp only [va_up, if_neg q0_, if_neg q1_] | fail))
  refine lv_istore (lv' := [(4, .int (nI (sn v9))), (3, .int (nI n)), (0, .ref (adr 0)), (1, .int (nI o)), (2, .int (nI v9))]) hx hb dX8_pairs_16 hl (by decide) rfl (fun ls hl => ?_)
  have L18 : ∀ (k9 : Nat) (F9 : Nat) (v1 : Nat) (v2 : Nat) (b : Nat → Int32) (hk9 : v1 + v2 < k9) (hF : v1 + v2 ≤ F9) (hp : v1 ≤ n) (hq : v2 ≤ sn v9) (hL : lendF f (fun j => nI (sw v9 j)) (sb v9) F9 v1 v2 b = R9) (H : Heap) (locs : List Loc) (hM : MW D A 24 adr (mw ac adr sf (va_up (va_up af 14 (blk o b B9)) 23 T9)) H) (hS : va_S A s.heap H locs) (ls : Array Slot) (hl : lv_has ls 9 [(0, .ref (adr 0)), (1, .int (nI o)), (2, .int (nI v9)), (3, .int (nI v1)), (4, .int (nI v2))]), W p l e (headSpec wsX8_pairs ({ frames := 2, cells := 0, slots := 0, locals := 46 })).room s m args below meth c H locs 0 0 Q0 (F0 m 18 ls []) := by
    intro k9
    induction k9 with
    | zero => intro F9 v1 v2 b hk9 hF hp hq hL H locs hM hS ls hl; exact absurd hk9 (Nat.not_lt_zero _)
    | succ k9 ih18 =>
      intro F9 v1 v2 b hk9 hF hp hq hL H locs hM hS ls hl
      refine lv_iload_n hx hb dX8_pairs_18 rfl (lv_at hl 3 rfl) ?_
      refine lv_if_le (tgt := 177) hx hb dX8_pairs_19 (by decide) (fun c19 => ?_) (fun c19 => ?_)
      · have e9 : v1 = 0 ∨ v2 = 0 := Or.inl (by have := le_le (b := 0) c19 (by omega) (by omega); omega)
        rw [hQ0]
        exact e_wv hx hb hlocks hr dX8_pairs_177 hM hS (⟨T9, by rw [← hL, lendF_z e9]⟩)
      · have hp0 : 0 < v1 := nle_lt (b := 0) c19 (by omega) (by omega)
        refine lv_iload hx hb dX8_pairs_22 (lv_at hl 4 rfl) ?_
        refine lv_if_le (tgt := 177) hx hb dX8_pairs_24 (by decide) (fun c24 => ?_) (fun c24 => ?_)
        · have e9 : v1 = 0 ∨ v2 = 0 := Or.inr (by have := le_le (b := 0) c24 (by omega) (by omega); omega)
          rw [hQ0]
          exact e_wv hx hb hlocks hr dX8_pairs_177 hM hS (⟨T9, by rw [← hL, lendF_z e9]⟩)
        · have hq0 : 0 < v2 := nle_lt (b := 0) c24 (by omega) (by omega)
          obtain ⟨F, rfl⟩ : ∃ z, F9 = z + 1 := ⟨F9 - 1, by omega⟩
          have z1_ := eT9 (v1 - 1) (v2 - 1) (by omega) (by omega)
          have z2_ := eT9 (v1 - 1) v2 (by omega) (by omega)
          have z3_ := eT9 v1 (v2 - 1) (by omega) (by omega)
          have y1_ := ed_le (f := f) (g := (fun j => nI (sw v9 j))) (v1 - 1) (v2 - 1)
          have y2_ := ed_le (f := f) (g := (fun j => nI (sw v9 j))) (v1 - 1) v2
          have y3_ := ed_le (f := f) (g := (fun j => nI (sw v9 j))) v1 (v2 - 1)
          obtain ⟨u1_, u2_, u3_⟩ := q6_ (v2 - 1) (by omega)
          refine lv_bipush (v := 8) hx hb dX8_pairs_27 (by decide) ?_
          refine lv_iload_n hx hb dX8_pairs_29 rfl (lv_at hl 2 rfl) ?_
          refine lv_imul hx hb dX8_pairs_30 ?_
          refine m_top (show (8 * (nI v9)) = nI (8 * v9) from by rw [show (8 : Int32) = nI 8 from rfl, pk_mul]) ?_
          refine lv_iload hx hb dX8_pairs_31 (lv_at hl 4 rfl) ?_
          refine lv_iadd hx hb dX8_pairs_33 ?_
          refine m_top (show ((nI (8 * v9)) + (nI v2)) = nI (8 * v9 + v2) from nI_add _ _) ?_
          refine lv_iconst (v := 1) hx hb dX8_pairs_34 (by decide) ?_
          refine lv_isub hx hb dX8_pairs_35 ?_
          refine m_top (show ((nI (8 * v9 + v2)) - 1) = nI (8 * v9 + (v2 - 1)) from (pk_sub (a := 8 * v9 + v2) (b := 1) (by omega)).trans (congrArg nI (by omega))) ?_
          refine lv_istore (lv' := [(5, .int (nI (8 * v9 + (v2 - 1)))), (0, .ref (adr 0)), (1, .int (nI o)), (2, .int (nI v9)), (3, .int (nI v1)), (4, .int (nI v2))]) hx hb dX8_pairs_36 hl (by decide) rfl (fun ls hl => ?_)
          refine lv_aload_n hx hb dX8_pairs_38 rfl (lv_at hl 1 rfl) ?_
          refine m_get (ci := 8) (C := RX8) (T := TX8) (n := 35) (v := .ref (adr 23)) hx hb hts inX8_ hown hK rfl (hM.cel (by omega) (show (mw ac adr sf (va_up (va_up af 14 (blk o b B9)) 23 T9)) 0 = .inr (8, mfs adr sf) from rfl)) 34 (by decide) (hts _ (by decide +kernel)) rfl dX8_pairs_39 ?_
          refine lv_bipush (v := 9) hx hb dX8_pairs_42 (by decide) ?_
          refine lv_iload_n hx hb dX8_pairs_44 rfl (lv_at hl 4 rfl) ?_
          refine lv_iconst (v := 1) hx hb dX8_pairs_45 (by decide) ?_
          refine lv_isub hx hb dX8_pairs_46 ?_
          refine m_top (show ((nI v1) - 1) = nI (v1 - 1) from (pk_sub (a := v1) (b := 1) (by omega)).trans (congrArg nI (by omega))) ?_
          refine lv_imul hx hb dX8_pairs_47 ?_
          refine m_top (show (9 * (nI (v1 - 1))) = nI ((v1 - 1) * 9) from by rw [show (9 : Int32) = nI 9 from rfl, pk_mul, Nat.mul_comm]) ?_
          refine lv_iload hx hb dX8_pairs_48 (lv_at hl 5 rfl) ?_
          refine lv_iadd hx hb dX8_pairs_50 ?_
          refine m_top (show ((nI ((v1 - 1) * 9)) + (nI v2)) = nI ((v1 - 1) * 9 + v2) from nI_add _ _) ?_
          refine m_iald hx hb hK (hM.cel (by omega) (show (mw ac adr sf (va_up (va_up af 14 (blk o b B9)) 23 T9)) 23 = .inl (ac 0, 81, .inl T9) from rfl)) (vp_in_nI (by omega) (by decide)) dX8_pairs_51 ?_
          refine m_top (show (T9 (nI ((v1 - 1) * 9 + v2)).toNatClampNeg) = nI (ed f (fun j => nI (sw v9 j)) (v1 - 1) v2) from by rw [nI_clamp (by omega)]; exact z2_) ?_
          refine lv_istore (lv' := [(6, .int (nI (ed f (fun j => nI (sw v9 j)) (v1 - 1) v2))), (5, .int (nI (8 * v9 + (v2 - 1)))), (0, .ref (adr 0)), (1, .int (nI o)), (2, .int (nI v9)), (3, .int (nI v1)), (4, .int (nI v2))]) hx hb dX8_pairs_52 hl (by decide) rfl (fun ls hl => ?_)
          refine lv_aload_n hx hb dX8_pairs_54 rfl (lv_at hl 2 rfl) ?_
          refine m_get (ci := 8) (C := RX8) (T := TX8) (n := 35) (v := .ref (adr 23)) hx hb hts inX8_ hown hK rfl (hM.cel (by omega) (show (mw ac adr sf (va_up (va_up af 14 (blk o b B9)) 23 T9)) 0 = .inr (8, mfs adr sf) from rfl)) 34 (by decide) (hts _ (by decide +kernel)) rfl dX8_pairs_55 ?_
          refine lv_bipush (v := 9) hx hb dX8_pairs_58 (by decide) ?_
          refine lv_iload_n hx hb dX8_pairs_60 rfl (lv_at hl 5 rfl) ?_
          refine lv_imul hx hb dX8_pairs_61 ?_
          refine m_top (show (9 * (nI v1)) = nI (v1 * 9) from by rw [show (9 : Int32) = nI 9 from rfl, pk_mul, Nat.mul_comm]) ?_
          refine lv_iload hx hb dX8_pairs_62 (lv_at hl 6 rfl) ?_
          refine lv_iadd hx hb dX8_pairs_64 ?_
          refine m_top (show ((nI (v1 * 9)) + (nI v2)) = nI (v1 * 9 + v2) from nI_add _ _) ?_
          refine lv_iconst (v := 1) hx hb dX8_pairs_65 (by decide) ?_
          refine lv_isub hx hb dX8_pairs_66 ?_
          refine m_top (show ((nI (v1 * 9 + v2)) - 1) = nI (v1 * 9 + (v2 - 1)) from (pk_sub (a := v1 * 9 + v2) (b := 1) (by omega)).trans (congrArg nI (by omega))) ?_
          refine m_iald hx hb hK (hM.cel (by omega) (show (mw ac adr sf (va_up (va_up af 14 (blk o b B9)) 23 T9)) 23 = .inl (ac 0, 81, .inl T9) from rfl)) (vp_in_nI (by omega) (by decide)) dX8_pairs_67 ?_
          refine m_top (show (T9 (nI (v1 * 9 + (v2 - 1))).toNatClampNeg) = nI (ed f (fun j => nI (sw v9 j)) v1 (v2 - 1)) from by rw [nI_clamp (by omega)]; exact z3_) ?_
          refine lv_istore (lv' := [(7, .int (nI (ed f (fun j => nI (sw v9 j)) v1 (v2 - 1)))), (6, .int (nI (ed f (fun j => nI (sw v9 j)) (v1 - 1) v2))), (5, .int (nI (8 * v9 + (v2 - 1)))), (0, .ref (adr 0)), (1, .int (nI o)), (2, .int (nI v9)), (3, .int (nI v1)), (4, .int (nI v2))]) hx hb dX8_pairs_68 hl (by decide) rfl (fun ls hl => ?_)
          refine lv_aload_n hx hb dX8_pairs_70 rfl (lv_at hl 3 rfl) ?_
          refine m_get (ci := 8) (C := RX8) (T := TX8) (n := 35) (v := .ref (adr 23)) hx hb hts inX8_ hown hK rfl (hM.cel (by omega) (show (mw ac adr sf (va_up (va_up af 14 (blk o b B9)) 23 T9)) 0 = .inr (8, mfs adr sf) from rfl)) 34 (by decide) (hts _ (by decide +kernel)) rfl dX8_pairs_71 ?_
          refine lv_bipush (v := 9) hx hb dX8_pairs_74 (by decide) ?_
          refine lv_iload_n hx hb dX8_pairs_76 rfl (lv_at hl 6 rfl) ?_
          refine lv_iconst (v := 1) hx hb dX8_pairs_77 (by decide) ?_
          refine lv_isub hx hb dX8_pairs_78 ?_
          refine m_top (show ((nI v1) - 1) = nI (v1 - 1) from (pk_sub (a := v1) (b := 1) (by omega)).trans (congrArg nI (by omega))) ?_
          refine lv_imul hx hb dX8_pairs_79 ?_
          refine m_top (show (9 * (nI (v1 - 1))) = nI ((v1 - 1) * 9) from by rw [show (9 : Int32) = nI 9 from rfl, pk_mul, Nat.mul_comm]) ?_
          refine lv_iload hx hb dX8_pairs_80 (lv_at hl 7 rfl) ?_
          refine lv_iadd hx hb dX8_pairs_82 ?_
          refine m_top (show ((nI ((v1 - 1) * 9)) + (nI v2)) = nI ((v1 - 1) * 9 + v2) from nI_add _ _) ?_
          refine lv_iconst (v := 1) hx hb dX8_pairs_83 (by decide) ?_
          refine lv_isub hx hb dX8_pairs_84 ?_
          refine m_top (show ((nI ((v1 - 1) * 9 + v2)) - 1) = nI ((v1 - 1) * 9 + (v2 - 1)) from (pk_sub (a := (v1 - 1) * 9 + v2) (b := 1) (by omega)).trans (congrArg nI (by omega))) ?_
          refine m_iald hx hb hK (hM.cel (by omega) (show (mw ac adr sf (va_up (va_up af 14 (blk o b B9)) 23 T9)) 23 = .inl (ac 0, 81, .inl T9) from rfl)) (vp_in_nI (by omega) (by decide)) dX8_pairs_85 ?_
          refine m_top (show (T9 (nI ((v1 - 1) * 9 + (v2 - 1))).toNatClampNeg) = nI (ed f (fun j => nI (sw v9 j)) (v1 - 1) (v2 - 1)) from by rw [nI_clamp (by omega)]; exact z1_) ?_
          refine lv_istore (lv' := [(8, .int (nI (ed f (fun j => nI (sw v9 j)) (v1 - 1) (v2 - 1)))), (7, .int (nI (ed f (fun j => nI (sw v9 j)) v1 (v2 - 1)))), (6, .int (nI (ed f (fun j => nI (sw v9 j)) (v1 - 1) v2))), (5, .int (nI (8 * v9 + (v2 - 1)))), (0, .ref (adr 0)), (1, .int (nI o)), (2, .int (nI v9)), (3, .int (nI v1)), (4, .int (nI v2))]) hx hb dX8_pairs_86 hl (by decide) rfl (fun ls hl => ?_)
          refine lv_aload_n hx hb dX8_pairs_88 rfl (lv_at hl 4 rfl) ?_
          refine m_get (ci := 8) (C := RX8) (T := TX8) (n := 35) (v := .ref (adr 22)) hx hb hts inX8_ hown hK rfl (hM.cel (by omega) (show (mw ac adr sf (va_up (va_up af 14 (blk o b B9)) 23 T9)) 0 = .inr (8, mfs adr sf) from rfl)) 33 (by decide) (hts _ (by decide +kernel)) rfl dX8_pairs_89 ?_
          refine lv_iload_n hx hb dX8_pairs_92 rfl (lv_at hl 7 rfl) ?_
          refine lv_iconst (v := 1) hx hb dX8_pairs_93 (by decide) ?_
          refine lv_isub hx hb dX8_pairs_94 ?_
          refine m_top (show ((nI v1) - 1) = nI (v1 - 1) from (pk_sub (a := v1) (b := 1) (by omega)).trans (congrArg nI (by omega))) ?_
          refine m_iald hx hb hK (hM.cel (by omega) (show (mw ac adr sf (va_up (va_up af 14 (blk o b B9)) 23 T9)) 22 = .inl (ac 0, 8, .inl (af 22)) from rfl)) (vp_in_nI (by omega) (by decide)) dX8_pairs_95 ?_
          refine m_top (show ((af 22) (nI (v1 - 1)).toNatClampNeg) = f (v1 - 1) from by rw [nI_clamp (by omega)]; exact hw.2.2 _ (by omega)) ?_
          refine lv_aload_n hx hb dX8_pairs_96 rfl (lv_at hl 4 rfl) ?_
          refine m_get (ci := 8) (C := RX8) (T := TX8) (n := 35) (v := .ref (adr 4)) hx hb hts inX8_ hown hK rfl (hM.cel (by omega) (show (mw ac adr sf (va_up (va_up af 14 (blk o b B9)) 23 T9)) 0 = .inr (8, mfs adr sf) from rfl)) 9 (by decide) (hts _ (by decide +kernel)) rfl dX8_pairs_97 ?_
          refine lv_iload hx hb dX8_pairs_100 (lv_at hl 3 rfl) ?_
          refine m_iald hx hb hK (hM.cel (by omega) (show (mw ac adr sf (va_up (va_up af 14 (blk o b B9)) 23 T9)) 4 = .inl (ac 0, 320, .inl (af 4)) from rfl)) (vp_in_nI (by omega) (by decide)) dX8_pairs_102 ?_
          refine m_top (show ((af 4) (nI (8 * v9 + (v2 - 1))).toNatClampNeg) = nI (sw v9 (v2 - 1)) from by rw [nI_clamp (by omega)]; exact u1_) ?_
          refine lv_icmp_ne (tgt := 135) hx hb dX8_pairs_103 (by decide) (fun c103 => ?_) (fun c103 => ?_)
          · refine lv_iload hx hb dX8_pairs_135 (lv_at hl 2 rfl) ?_
            refine lv_iload hx hb dX8_pairs_137 (lv_at hl 1 rfl) ?_
            refine lv_icmp_gt (tgt := 155) hx hb dX8_pairs_139 (by decide) (fun c139 => ?_) (fun c139 => ?_)
            · have x139 := lt_lt c139 (by omega) (by omega)
              refine lv_iload hx hb dX8_pairs_155 (lv_at hl 1 rfl) ?_
              refine lv_iload hx hb dX8_pairs_157 (lv_at hl 0 rfl) ?_
              refine lv_icmp_gt (tgt := 168) hx hb dX8_pairs_159 (by decide) (fun c159 => ?_) (fun c159 => ?_)
              · have x157 := lt_lt c159 (by omega) (by omega)
                refine lv_iinc (v := nI (v1 - 1)) (lv' := [(3, .int (nI (v1 - 1))), (8, .int (nI (ed f (fun j => nI (sw v9 j)) (v1 - 1) (v2 - 1)))), (7, .int (nI (ed f (fun j => nI (sw v9 j)) v1 (v2 - 1)))), (6, .int (nI (ed f (fun j => nI (sw v9 j)) (v1 - 1) v2))), (5, .int (nI (8 * v9 + (v2 - 1)))), (0, .ref (adr 0)), (1, .int (nI o)), (2, .int (nI v9)), (4, .int (nI v2))]) hx hb dX8_pairs_168 hl (k := 7) rfl (nI_dec hp0) (by decide) rfl (fun ls hl => ?_)
                refine lv_iinc (v := nI (v2 - 1)) (lv' := [(4, .int (nI (v2 - 1))), (3, .int (nI (v1 - 1))), (8, .int (nI (ed f (fun j => nI (sw v9 j)) (v1 - 1) (v2 - 1)))), (7, .int (nI (ed f (fun j => nI (sw v9 j)) v1 (v2 - 1)))), (6, .int (nI (ed f (fun j => nI (sw v9 j)) (v1 - 1) v2))), (5, .int (nI (8 * v9 + (v2 - 1)))), (0, .ref (adr 0)), (1, .int (nI o)), (2, .int (nI v9))]) hx hb dX8_pairs_171 hl (k := 8) rfl (nI_dec hq0) (by decide) rfl (fun ls hl => ?_)
                refine lv_goto (tgt := 18) hx hb dX8_pairs_174 (by decide) ?_
                exact ih18 F (v1 - 1) (v2 - 1) b (by omega) (by omega) (by omega) (by omega) (by rw [← hL, lendF_b hp0 hq0 c103 (by omega) (by omega)]) _ _ (MW.cg hM (fun _ => rfl) (fun j9 => if q0_ : j9 = 14 then (by subst q0_; rfl) else (by first | rfl | simp only [va_up, if_neg q0_] | fail))) hS ls (lv_sub hl [6, 7, 8, 1, 0] rfl)
              · have x157 := nlt_le c159 (by omega) (by omega)
                refine lv_iinc (v := nI (v2 - 1)) (lv' := [(4, .int (nI (v2 - 1))), (8, .int (nI (ed f (fun j => nI (sw v9 j)) (v1 - 1) (v2 - 1)))), (7, .int (nI (ed f (fun j => nI (sw v9 j)) v1 (v2 - 1)))), (6, .int (nI (ed f (fun j => nI (sw v9 j)) (v1 - 1) v2))), (5, .int (nI (8 * v9 + (v2 - 1)))), (0, .ref (adr 0)), (1, .int (nI o)), (2, .int (nI v9)), (3, .int (nI v1))]) hx hb dX8_pairs_162 hl (k := 8) rfl (nI_dec hq0) (by decide) rfl (fun ls hl => ?_)
                refine lv_goto (tgt := 174) hx hb dX8_pairs_165 (by decide) ?_
                refine lv_goto (tgt := 18) hx hb dX8_pairs_174 (by decide) ?_
                exact ih18 F v1 (v2 - 1) b (by omega) (by omega) (by omega) (by omega) (by rw [← hL, lendF_t hp0 hq0 c103 (by omega) x157]) _ _ (MW.cg hM (fun _ => rfl) (fun j9 => if q0_ : j9 = 14 then (by subst q0_; rfl) else (by first | rfl | simp only [va_up, if_neg q0_] | fail))) hS ls (lv_sub hl [5, 6, 7, 8, 0] rfl)
            · have x139 := nlt_le c139 (by omega) (by omega)
              refine lv_iload hx hb dX8_pairs_142 (lv_at hl 2 rfl) ?_
              refine lv_iload hx hb dX8_pairs_144 (lv_at hl 0 rfl) ?_
              refine lv_icmp_gt (tgt := 155) hx hb dX8_pairs_146 (by decide) (fun c146 => ?_) (fun c146 => ?_)
              · have x146 := lt_lt c146 (by omega) (by omega)
                refine lv_iload hx hb dX8_pairs_155 (lv_at hl 1 rfl) ?_
                refine lv_iload hx hb dX8_pairs_157 (lv_at hl 0 rfl) ?_
                refine lv_icmp_gt (tgt := 168) hx hb dX8_pairs_159 (by decide) (fun c159 => ?_) (fun c159 => ?_)
                · have x157 := lt_lt c159 (by omega) (by omega)
                  refine lv_iinc (v := nI (v1 - 1)) (lv' := [(3, .int (nI (v1 - 1))), (8, .int (nI (ed f (fun j => nI (sw v9 j)) (v1 - 1) (v2 - 1)))), (7, .int (nI (ed f (fun j => nI (sw v9 j)) v1 (v2 - 1)))), (6, .int (nI (ed f (fun j => nI (sw v9 j)) (v1 - 1) v2))), (5, .int (nI (8 * v9 + (v2 - 1)))), (0, .ref (adr 0)), (1, .int (nI o)), (2, .int (nI v9)), (4, .int (nI v2))]) hx hb dX8_pairs_168 hl (k := 7) rfl (nI_dec hp0) (by decide) rfl (fun ls hl => ?_)
                  refine lv_iinc (v := nI (v2 - 1)) (lv' := [(4, .int (nI (v2 - 1))), (3, .int (nI (v1 - 1))), (8, .int (nI (ed f (fun j => nI (sw v9 j)) (v1 - 1) (v2 - 1)))), (7, .int (nI (ed f (fun j => nI (sw v9 j)) v1 (v2 - 1)))), (6, .int (nI (ed f (fun j => nI (sw v9 j)) (v1 - 1) v2))), (5, .int (nI (8 * v9 + (v2 - 1)))), (0, .ref (adr 0)), (1, .int (nI o)), (2, .int (nI v9))]) hx hb dX8_pairs_171 hl (k := 8) rfl (nI_dec hq0) (by decide) rfl (fun ls hl => ?_)
                  refine lv_goto (tgt := 18) hx hb dX8_pairs_174 (by decide) ?_
                  exact ih18 F (v1 - 1) (v2 - 1) b (by omega) (by omega) (by omega) (by omega) (by rw [← hL, lendF_b hp0 hq0 c103 (by omega) (by omega)]) _ _ (MW.cg hM (fun _ => rfl) (fun j9 => if q0_ : j9 = 14 then (by subst q0_; rfl) else (by first | rfl | simp only [va_up, if_neg q0_] | fail))) hS ls (lv_sub hl [6, 7, 8, 1, 0] rfl)
                · have x157 := nlt_le c159 (by omega) (by omega)
                  refine lv_iinc (v := nI (v2 - 1)) (lv' := [(4, .int (nI (v2 - 1))), (8, .int (nI (ed f (fun j => nI (sw v9 j)) (v1 - 1) (v2 - 1)))), (7, .int (nI (ed f (fun j => nI (sw v9 j)) v1 (v2 - 1)))), (6, .int (nI (ed f (fun j => nI (sw v9 j)) (v1 - 1) v2))), (5, .int (nI (8 * v9 + (v2 - 1)))), (0, .ref (adr 0)), (1, .int (nI o)), (2, .int (nI v9)), (3, .int (nI v1))]) hx hb dX8_pairs_162 hl (k := 8) rfl (nI_dec hq0) (by decide) rfl (fun ls hl => ?_)
                  refine lv_goto (tgt := 174) hx hb dX8_pairs_165 (by decide) ?_
                  refine lv_goto (tgt := 18) hx hb dX8_pairs_174 (by decide) ?_
                  exact ih18 F v1 (v2 - 1) b (by omega) (by omega) (by omega) (by omega) (by rw [← hL, lendF_t hp0 hq0 c103 (by omega) x157]) _ _ (MW.cg hM (fun _ => rfl) (fun j9 => if q0_ : j9 = 14 then (by subst q0_; rfl) else (by first | rfl | simp only [va_up, if_neg q0_] | fail))) hS ls (lv_sub hl [5, 6, 7, 8, 0] rfl)
              · have x146 := nlt_le c146 (by omega) (by omega)
                refine lv_iinc (v := nI (v1 - 1)) (lv' := [(3, .int (nI (v1 - 1))), (8, .int (nI (ed f (fun j => nI (sw v9 j)) (v1 - 1) (v2 - 1)))), (7, .int (nI (ed f (fun j => nI (sw v9 j)) v1 (v2 - 1)))), (6, .int (nI (ed f (fun j => nI (sw v9 j)) (v1 - 1) v2))), (5, .int (nI (8 * v9 + (v2 - 1)))), (0, .ref (adr 0)), (1, .int (nI o)), (2, .int (nI v9)), (4, .int (nI v2))]) hx hb dX8_pairs_149 hl (k := 7) rfl (nI_dec hp0) (by decide) rfl (fun ls hl => ?_)
                refine lv_goto (tgt := 174) hx hb dX8_pairs_152 (by decide) ?_
                refine lv_goto (tgt := 18) hx hb dX8_pairs_174 (by decide) ?_
                exact ih18 F (v1 - 1) v2 b (by omega) (by omega) (by omega) (by omega) (by rw [← hL, lendF_o hp0 hq0 c103 x139 x146]) _ _ (MW.cg hM (fun _ => rfl) (fun j9 => if q0_ : j9 = 14 then (by subst q0_; rfl) else (by first | rfl | simp only [va_up, if_neg q0_] | fail))) hS ls (lv_sub hl [5, 6, 7, 0, 8] rfl)
          · refine lv_aload_n hx hb dX8_pairs_106 rfl (lv_at hl 4 rfl) ?_
            refine m_get (ci := 8) (C := RX8) (T := TX8) (n := 35) (v := .ref (adr 14)) hx hb hts inX8_ hown hK rfl (hM.cel (by omega) (show (mw ac adr sf (va_up (va_up af 14 (blk o b B9)) 23 T9)) 0 = .inr (8, mfs adr sf) from rfl)) 22 (by decide) (hts _ (by decide +kernel)) rfl dX8_pairs_107 ?_
            refine lv_bipush (v := 8) hx hb dX8_pairs_110 (by decide) ?_
            refine lv_iload_n hx hb dX8_pairs_112 rfl (lv_at hl 5 rfl) ?_
            refine lv_imul hx hb dX8_pairs_113 ?_
            refine m_top (show (8 * (nI o)) = nI (8 * o) from by rw [show (8 : Int32) = nI 8 from rfl, pk_mul]) ?_
            refine lv_iload_n hx hb dX8_pairs_114 rfl (lv_at hl 7 rfl) ?_
            refine lv_iadd hx hb dX8_pairs_115 ?_
            refine m_top (show ((nI (8 * o)) + (nI v1)) = nI (8 * o + v1) from nI_add _ _) ?_
            refine lv_iconst (v := 1) hx hb dX8_pairs_116 (by decide) ?_
            refine lv_isub hx hb dX8_pairs_117 ?_
            refine m_top (show ((nI (8 * o + v1)) - 1) = nI (8 * o + (v1 - 1)) from (pk_sub (a := 8 * o + v1) (b := 1) (by omega)).trans (congrArg nI (by omega))) ?_
            refine lv_aload_n hx hb dX8_pairs_118 rfl (lv_at hl 4 rfl) ?_
            refine m_get (ci := 8) (C := RX8) (T := TX8) (n := 35) (v := .ref (adr 5)) hx hb hts inX8_ hown hK rfl (hM.cel (by omega) (show (mw ac adr sf (va_up (va_up af 14 (blk o b B9)) 23 T9)) 0 = .inr (8, mfs adr sf) from rfl)) 10 (by decide) (hts _ (by decide +kernel)) rfl dX8_pairs_119 ?_
            refine lv_iload hx hb dX8_pairs_122 (lv_at hl 3 rfl) ?_
            refine m_iald hx hb hK (hM.cel (by omega) (show (mw ac adr sf (va_up (va_up af 14 (blk o b B9)) 23 T9)) 5 = .inl (ac 0, 320, .inl (af 5)) from rfl)) (vp_in_nI (by omega) (by decide)) dX8_pairs_124 ?_
            refine m_top (show ((af 5) (nI (8 * v9 + (v2 - 1))).toNatClampNeg) = sb v9 (v2 - 1) from by rw [nI_clamp (by omega)]; exact u3_) ?_
            refine m_iast hx hb hK hM hS 14 (by omega) (show (mw ac adr sf (va_up (va_up af 14 (blk o b B9)) 23 T9)) 14 = .inl (ac 0, 480, .inl (blk o b B9)) from rfl) (vp_in_nI (by omega) (by decide)) dX8_pairs_125 (fun H locs hM hS => ?_)
            have ef_ : (upd (blk o b B9) (nI (8 * o + (v1 - 1))).toNatClampNeg (sb v9 (v2 - 1))) = blk o (upd b (v1 - 1) (sb v9 (v2 - 1))) B9 := by rw [nI_clamp (by omega)]; exact blk_u (by omega)
            rw [ef_] at hM
            clear ef_
            have hM := MW.marr (a1 := (va_up (va_up af 14 (blk o (upd b (v1 - 1) (sb v9 (v2 - 1))) B9)) 23 T9)) hM (by decide) rfl rfl (fun j9 hj9 => by simp only [va_up, if_neg hj9])
            refine lv_iinc (v := nI (v1 - 1)) (lv' := [(3, .int (nI (v1 - 1))), (8, .int (nI (ed f (fun j => nI (sw v9 j)) (v1 - 1) (v2 - 1)))), (7, .int (nI (ed f (fun j => nI (sw v9 j)) v1 (v2 - 1)))), (6, .int (nI (ed f (fun j => nI (sw v9 j)) (v1 - 1) v2))), (5, .int (nI (8 * v9 + (v2 - 1)))), (0, .ref (adr 0)), (1, .int (nI o)), (2, .int (nI v9)), (4, .int (nI v2))]) hx hb dX8_pairs_126 hl (k := 7) rfl (nI_dec hp0) (by decide) rfl (fun ls hl => ?_)
            refine lv_iinc (v := nI (v2 - 1)) (lv' := [(4, .int (nI (v2 - 1))), (3, .int (nI (v1 - 1))), (8, .int (nI (ed f (fun j => nI (sw v9 j)) (v1 - 1) (v2 - 1)))), (7, .int (nI (ed f (fun j => nI (sw v9 j)) v1 (v2 - 1)))), (6, .int (nI (ed f (fun j => nI (sw v9 j)) (v1 - 1) v2))), (5, .int (nI (8 * v9 + (v2 - 1)))), (0, .ref (adr 0)), (1, .int (nI o)), (2, .int (nI v9))]) hx hb dX8_pairs_129 hl (k := 8) rfl (nI_dec hq0) (by decide) rfl (fun ls hl => ?_)
            refine lv_goto (tgt := 174) hx hb dX8_pairs_132 (by decide) ?_
            refine lv_goto (tgt := 18) hx hb dX8_pairs_174 (by decide) ?_
            exact ih18 F (v1 - 1) (v2 - 1) (upd b (v1 - 1) (sb v9 (v2 - 1))) (by omega) (by omega) (by omega) (by omega) (by rw [← hL, lendF_p hp0 hq0 c103]) _ _ (MW.cg hM (fun _ => rfl) (fun j9 => if q0_ : j9 = 14 then (by subst q0_; rfl) else (by first | rfl | simp only [va_up, if_neg q0_] | fail))) hS ls (lv_sub hl [6, 7, 8, 1, 0] rfl)
  exact L18 _ 16 n (sn v9) b0 (Nat.lt_succ_self _) (by omega) (Nat.le_refl _) (Nat.le_refl _) eR9 _ _ (MW.cg hM (fun _ => rfl) (fun j9 => if q0_ : j9 = 14 then (by subst q0_; rfl) else (by first | rfl | simp only [va_up, if_neg q0_] | fail))) hS ls (lv_sub hl [2, 3, 4, 1, 0] rfl)
set_option maxHeartbeats 4000000 in
set_option maxRecDepth 100000 in
/-- X8_takes -/
theorem k_X8_takes (l : Launch) (D : va_G) (ac : Nat → ClassId) (H : Heap) (A : Nat → Prop) (adr : Nat → Nat) (sf : Nat → Int32) (af : Nat → Nat → Int32) (hM : MW D A 24 adr (mw ac adr sf af) H) (no : Nat) (oc on_ : Nat → Nat) (owd : Nat → Nat → Nat) (rb st : Nat → Int32) (ho : MOrd sf af no oc on_ owd rb st) (ns : Nat) (sc sn : Nat → Nat) (sw : Nat → Nat → Nat) (sb : Nat → Nat → Int32) (hs : MSen sf af ns sc sn sw sb) (le pr ra : Int32) (hp : MPri sf le pr ra) (o : Nat) (ho9 : o < no) (t : Nat) : WRv l yX8_takes wsX8_takes ({ frames := 5, cells := 0, slots := 0, locals := 113 }) [.ref (adr 0), .int (nI o), .int (nI t)] D ac H A 24 adr (fun w1 => ∃ T1 : Nat → Int32, w1 = mw ac adr (va_up sf 11 (nI (on_ o))) (va_up (va_up (va_up (va_up (va_up (va_up (va_up af 11 (upd (af 11) o (nI t))) 13 (upd (af 13) o ((mbs (af 19) (lkM (on_ o) (fun j => nI (owd o j)) sn sw) (owM sc (nI (oc o))) le ns).1))) 14 (blk o (lnM (on_ o) (fun j => nI (owd o j)) sn sw sb ns (mixF (on_ o) (fun _ => -1) (fun j => af 14 (8 * o + j))) (mbs (af 19) (lkM (on_ o) (fun j => nI (owd o j)) sn sw) (owM sc (nI (oc o))) le ns).1) (af 14))) 15 (upd (af 15) o (cstI (nI (on_ o)) pr (shM (on_ o) (fun j => nI (owd o j)) sn sw ns (mbs (af 19) (lkM (on_ o) (fun j => nI (owd o j)) sn sw) (owM sc (nI (oc o))) le ns).1) (rb o)))) 16 (upd (af 16) o (nI (on_ o) * ra * (shM (on_ o) (fun j => nI (owd o j)) sn sw ns (mbs (af 19) (lkM (on_ o) (fun j => nI (owd o j)) sn sw) (owM sc (nI (oc o))) le ns).1) / 100))) 22 (mixF (on_ o) (fun j => af 9 (8 * o + j)) (af 22))) 23 T1)) := by
  refine Met.ofW (cc := cX8_takes) (maxL := 4) (ret := none) (by decide) rfl ?_
  intro p e s m args below meth c s₁ B hml hv
  obtain ⟨hargs, hsz, hK⟩ := hv
  have hx := B.exec
  have hb := B.bytes
  have hr := B.returns
  have hts := atoms_spec (ws := wsX8_takes) B.pre
  have hown : s.vm.findClass RX8 = some m.cls := findClass_of_methodNamed B.named
  have hlocks := B.notSynchronized
  subst hsz
  have inX8_ : ∀ w ∈ wsX80, w ∈ wsX8_takes := by decide +kernel
  have hS : va_S A s.heap s.heap [] := va_S.rf
  have hl := lv_entry ([.ref (adr 0), .int (nI o), .int (nI t)]) (n := 4) (Nat.le_of_ble_eq_true rfl)
  have hen := lg_entry_eq m [.ref (adr 0), .int (nI o), .int (nI t)] 4
  rw [← hargs] at hen
  rw [hen]
  generalize (lg_sl ([.ref (adr 0), .int (nI o), .int (nI t)]) ++ List.replicate (4 - (lg_sl ([.ref (adr 0), .int (nI o), .int (nI t)])).length) Slot.unset).toArray = ls at hl ⊢
  have hl : lv_has ls 4 [(0, .ref (adr 0)), (1, .int (nI o)), (2, .int (nI t))] := hl
  obtain ⟨Q0, hQ0⟩ : ∃ z0_, z0_ = MQ below (va_Qv (fun w1 => ∃ T1 : Nat → Int32, w1 = mw ac adr (va_up sf 11 (nI (on_ o))) (va_up (va_up (va_up (va_up (va_up (va_up (va_up af 11 (upd (af 11) o (nI t))) 13 (upd (af 13) o ((mbs (af 19) (lkM (on_ o) (fun j => nI (owd o j)) sn sw) (owM sc (nI (oc o))) le ns).1))) 14 (blk o (lnM (on_ o) (fun j => nI (owd o j)) sn sw sb ns (mixF (on_ o) (fun _ => -1) (fun j => af 14 (8 * o + j))) (mbs (af 19) (lkM (on_ o) (fun j => nI (owd o j)) sn sw) (owM sc (nI (oc o))) le ns).1) (af 14))) 15 (upd (af 15) o (cstI (nI (on_ o)) pr (shM (on_ o) (fun j => nI (owd o j)) sn sw ns (mbs (af 19) (lkM (on_ o) (fun j => nI (owd o j)) sn sw) (owM sc (nI (oc o))) le ns).1) (rb o)))) 16 (upd (af 16) o (nI (on_ o) * ra * (shM (on_ o) (fun j => nI (owd o j)) sn sw ns (mbs (af 19) (lkM (on_ o) (fun j => nI (owd o j)) sn sw) (owM sc (nI (oc o))) le ns).1) / 100))) 22 (mixF (on_ o) (fun j => af 9 (8 * o + j)) (af 22))) 23 T1)) (fun c t => MW D A 24 adr c t.heap) A) args s 0 0 A := ⟨_, rfl⟩
  rw [← hQ0]
  have h60 := ho.2.1
  obtain ⟨o1_, o2_, ⟨o3_, o4_, o5_⟩, ⟨o6_, o7_⟩, o8_⟩ := ho.2.2 o ho9
  have hns := hs.2.1
  refine lv_aload_n hx hb dX8_takes_0 rfl (lv_at hl 0 rfl) ?_
  refine m_get (ci := 8) (C := RX8) (T := TX8) (n := 35) (v := .ref (adr 11)) hx hb hts inX8_ hown hK rfl (hM.cel (by omega) (show (mw ac adr sf af) 0 = .inr (8, mfs adr sf) from rfl)) 17 (by decide) (hts _ (by decide +kernel)) rfl dX8_takes_1 ?_
  refine lv_iload_n hx hb dX8_takes_4 rfl (lv_at hl 1 rfl) ?_
  refine lv_iload_n hx hb dX8_takes_5 rfl (lv_at hl 2 rfl) ?_
  refine m_iast hx hb hK hM hS 11 (by omega) (show (mw ac adr sf af) 11 = .inl (ac 0, 60, .inl (af 11)) from rfl) (vp_in_nI (by omega) (by decide)) dX8_takes_6 (fun H locs hM hS => ?_)
  have ef_ : (upd (af 11) (nI o).toNatClampNeg (nI t)) = upd (af 11) o (nI t) := by rw [nI_clamp (by omega)]
  rw [ef_] at hM
  clear ef_
  have hM := MW.marr (a1 := (va_up af 11 (upd (af 11) o (nI t)))) hM (by decide) rfl rfl (fun j9 hj9 => by simp only [va_up, if_neg hj9])
  refine lv_aload_n hx hb dX8_takes_7 rfl (lv_at hl 0 rfl) ?_
  refine lv_aload_n hx hb dX8_takes_8 rfl (lv_at hl 0 rfl) ?_
  refine m_get (ci := 8) (C := RX8) (T := TX8) (n := 35) (v := .ref (adr 8)) hx hb hts inX8_ hown hK rfl (hM.cel (by omega) (show (mw ac adr sf (va_up af 11 (upd (af 11) o (nI t)))) 0 = .inr (8, mfs adr sf) from rfl)) 14 (by decide) (hts _ (by decide +kernel)) rfl dX8_takes_9 ?_
  refine lv_iload_n hx hb dX8_takes_12 rfl (lv_at hl 1 rfl) ?_
  refine m_iald hx hb hK (hM.cel (by omega) (show (mw ac adr sf (va_up af 11 (upd (af 11) o (nI t)))) 8 = .inl (ac 0, 60, .inl (af 8)) from rfl)) (vp_in_nI (by omega) (by decide)) dX8_takes_13 ?_
  refine m_top (show ((af 8) (nI o).toNatClampNeg) = nI (on_ o) from by rw [nI_clamp (by omega)]; exact o2_) ?_
  refine m_put (ci := 8) (C := RX8) (T := TX8) (n := 35) (v := .int (nI (on_ o))) (ty := tyX8 32) hx hb hts inX8_ tyX8 tyX8_ok nmX8 hown hK hM hS rfl 0 (by omega) (show (mw ac adr sf (va_up af 11 (upd (af 11) o (nI t)))) 0 = .inr (8, mfs adr sf) from rfl) 32 (by decide) (hts _ (by decide +kernel)) rfl (by decide +kernel) rfl rfl (Nat.le_of_ble_eq_true rfl) dX8_takes_14 (fun H locs hM hS => ?_)
  have hM : MW D A 24 adr (va_up (mw ac adr sf (va_up af 11 (upd (af 11) o (nI t)))) 0 (.inr (8, mfs adr (va_up sf 11 (nI (on_ o)))))) H := hM
  have hM := MW.mobj (s1 := (va_up sf 11 (nI (on_ o)))) hM rfl
  have hM := MW.cg (s1 := (va_up sf 11 (nI (on_ o)))) (a1 := (va_up (va_up (va_up af 11 (upd (af 11) o (nI t))) 14 (blk o (mixF 0 (fun _ => -1) (fun j => af 14 (8 * o + j))) (af 14))) 22 (mixF 0 (fun j => af 9 (8 * o + j)) (af 22)))) hM (fun _ => rfl) (fun j9 => if q0_ : j9 = 14 then (by subst q0_; show blk o (mixF 0 (fun _ => -1) (fun j => af 14 (8 * o + j))) (af 14) = af 14; exact (by rw [mixF_0]; exact blk_0)) else if q1_ : j9 = 22 then (by subst q1_; show mixF 0 (fun j => af 9 (8 * o + j)) (af 22) = af 22; exact (mixF_0)) else (by first | rfl | simp only [va_up, if_neg q0_, if_neg q1_] | fail))
  refine lv_iconst (v := 0) hx hb dX8_takes_17 (by decide) ?_
  refine lv_istore_n (lv' := [(3, .int 0), (0, .ref (adr 0)), (1, .int (nI o)), (2, .int (nI t))]) hx hb dX8_takes_18 rfl hl (by decide) rfl (fun ls hl => ?_)
  have L19 : ∀ (k9 : Nat) (k : Nat) (hk : on_ o - k < k9) (hj : k ≤ on_ o) (H : Heap) (locs : List Loc) (hM : MW D A 24 adr (mw ac adr (va_up sf 11 (nI (on_ o))) (va_up (va_up (va_up af 11 (upd (af 11) o (nI t))) 14 (blk o (mixF k (fun _ => -1) (fun j => af 14 (8 * o + j))) (af 14))) 22 (mixF k (fun j => af 9 (8 * o + j)) (af 22)))) H) (hS : va_S A s.heap H locs) (ls : Array Slot) (hl : lv_has ls 4 [(0, .ref (adr 0)), (1, .int (nI o)), (2, .int (nI t)), (3, .int (nI k))]), W p l e (headSpec wsX8_takes ({ frames := 5, cells := 0, slots := 0, locals := 113 })).room s m args below meth c H locs 0 0 Q0 (F0 m 19 ls []) := by
    intro k9
    induction k9 with
    | zero => intro k hk hj H locs hM hS ls hl; exact absurd hk (Nat.not_lt_zero _)
    | succ k9 ih19 =>
      intro k hk hj H locs hM hS ls hl
      refine lv_iload_n hx hb dX8_takes_19 rfl (lv_at hl 3 rfl) ?_
      refine lv_aload_n hx hb dX8_takes_20 rfl (lv_at hl 0 rfl) ?_
      refine m_get (ci := 8) (C := RX8) (T := TX8) (n := 35) (v := .int (nI (on_ o))) hx hb hts inX8_ hown hK rfl (hM.cel (by omega) (show (mw ac adr (va_up sf 11 (nI (on_ o))) (va_up (va_up (va_up af 11 (upd (af 11) o (nI t))) 14 (blk o (mixF k (fun _ => -1) (fun j => af 14 (8 * o + j))) (af 14))) 22 (mixF k (fun j => af 9 (8 * o + j)) (af 22)))) 0 = .inr (8, mfs adr (va_up sf 11 (nI (on_ o)))) from rfl)) 32 (by decide) (hts _ (by decide +kernel)) rfl dX8_takes_21 ?_
      refine lv_icmp_ge (tgt := 62) hx hb dX8_takes_24 (by decide) (fun c24 => ?_) (fun c24 => ?_)
      · have e9 : k = on_ o := by have := le_le c24 (by omega) (by omega); omega
        have hrow : ∀ (s1 : Nat → Int32) (a1 : Nat → Nat → Int32), s1 11 = nI (on_ o) → a1 22 = mixF (on_ o) (fun j => af 9 (8 * o + j)) (af 22) → MRow s1 a1 (on_ o) (fun j => nI (owd o j)) := fun s1 a1 q1 q2 => ⟨q1, ⟨o3_, o4_⟩, fun j hj => by rw [q2]; unfold mixF; rw [if_pos hj]; exact (o8_ j hj).1⟩
        rw [e9] at hM
        refine lv_aload_n hx hb dX8_takes_62 rfl (lv_at hl 0 rfl) ?_
        refine lv_aload_n hx hb dX8_takes_63 rfl (lv_at hl 0 rfl) ?_
        refine m_get (ci := 8) (C := RX8) (T := TX8) (n := 35) (v := .ref (adr 7)) hx hb hts inX8_ hown hK rfl (hM.cel (by omega) (show (mw ac adr (va_up sf 11 (nI (on_ o))) (va_up (va_up (va_up af 11 (upd (af 11) o (nI t))) 14 (blk o (mixF (on_ o) (fun _ => -1) (fun j => af 14 (8 * o + j))) (af 14))) 22 (mixF (on_ o) (fun j => af 9 (8 * o + j)) (af 22)))) 0 = .inr (8, mfs adr (va_up sf 11 (nI (on_ o)))) from rfl)) 13 (by decide) (hts _ (by decide +kernel)) rfl dX8_takes_64 ?_
        refine lv_iload_n hx hb dX8_takes_67 rfl (lv_at hl 1 rfl) ?_
        refine m_iald hx hb hK (hM.cel (by omega) (show (mw ac adr (va_up sf 11 (nI (on_ o))) (va_up (va_up (va_up af 11 (upd (af 11) o (nI t))) 14 (blk o (mixF (on_ o) (fun _ => -1) (fun j => af 14 (8 * o + j))) (af 14))) 22 (mixF (on_ o) (fun j => af 9 (8 * o + j)) (af 22)))) 7 = .inl (ac 0, 60, .inl (af 7)) from rfl)) (vp_in_nI (by omega) (by decide)) dX8_takes_68 ?_
        refine m_top (show ((af 7) (nI o).toNatClampNeg) = nI (oc o) from by rw [nI_clamp (by omega)]; exact o1_) ?_
        refine w_calli (va_runV (As := [.int (nI (oc o))]) (rest := []) ⟨hx, hb, hml, hown, hts⟩ (k_X8_bestOf l D ac _ A adr (va_up sf 11 (nI (on_ o))) (va_up (va_up (va_up af 11 (upd (af 11) o (nI t))) 14 (blk o (mixF (on_ o) (fun _ => -1) (fun j => af 14 (8 * o + j))) (af 14))) 22 (mixF (on_ o) (fun j => af 9 (8 * o + j)) (af 22))) hM ns sc sn sw sb (hs.t rfl rfl rfl rfl rfl) (on_ o) (fun j => nI (owd o j)) (hrow _ _ rfl rfl) le pr ra (hp.t rfl rfl rfl) (nI (oc o))) (cwV 1 hts gX8_takes_X8_bestOf rfl rfl rfl (by decide +kernel) ⟨Nat.le_of_ble_eq_true rfl, Nat.le_of_ble_eq_true rfl⟩) (pV hK (ci := 8) rfl (hM.cel (by omega) (show (mw ac adr (va_up sf 11 (nI (on_ o))) (va_up (va_up (va_up af 11 (upd (af 11) o (nI t))) 14 (blk o (mixF (on_ o) (fun _ => -1) (fun j => af 14 (8 * o + j))) (af 14))) 22 (mixF (on_ o) (fun j => af 9 (8 * o + j)) (af 22)))) 0 = .inr (8, mfs adr (va_up sf 11 (nI (on_ o)))) from rfl))) rfl rfl hl.1 rfl (lv_room (Nat.le_of_ble_eq_true rfl)) dX8_takes_69 ⟨Nat.le_of_ble_eq_true rfl, Nat.le_of_ble_eq_true rfl⟩) hS (fun rv_3 w_4 H locs hw_4 hM hS => ?_)
        obtain ⟨hrv_3, T_2, he_5⟩ := hw_4
        rw [he_5] at hM
        have hM := (MW.cg (s1 := (va_up sf 11 (nI (on_ o)))) (a1 := (va_up (va_up (va_up (va_up af 11 (upd (af 11) o (nI t))) 14 (blk o (mixF (on_ o) (fun _ => -1) (fun j => af 14 (8 * o + j))) (af 14))) 22 (mixF (on_ o) (fun j => af 9 (8 * o + j)) (af 22))) 23 T_2)) hM (fun _ => rfl) (fun j9 => if q0_ : j9 = 23 then (by subst q0_; rfl) else (by first | rfl | simp only [va_up, if_neg q0_] | fail)))
        subst hrv_3
        refine lv_istore_n (lv' := [(3, .int ((mbs (af 19) (lkM (on_ o) (fun j => nI (owd o j)) sn sw) (owM sc (nI (oc o))) le ns).1)), (0, .ref (adr 0)), (1, .int (nI o)), (2, .int (nI t))]) hx hb dX8_takes_72 rfl hl (by decide) rfl (fun ls hl => ?_)
        refine lv_aload_n hx hb dX8_takes_73 rfl (lv_at hl 1 rfl) ?_
        refine m_get (ci := 8) (C := RX8) (T := TX8) (n := 35) (v := .ref (adr 13)) hx hb hts inX8_ hown hK rfl (hM.cel (by omega) (show (mw ac adr (va_up sf 11 (nI (on_ o))) (va_up (va_up (va_up (va_up af 11 (upd (af 11) o (nI t))) 14 (blk o (mixF (on_ o) (fun _ => -1) (fun j => af 14 (8 * o + j))) (af 14))) 22 (mixF (on_ o) (fun j => af 9 (8 * o + j)) (af 22))) 23 T_2)) 0 = .inr (8, mfs adr (va_up sf 11 (nI (on_ o)))) from rfl)) 21 (by decide) (hts _ (by decide +kernel)) rfl dX8_takes_74 ?_
        refine lv_iload_n hx hb dX8_takes_77 rfl (lv_at hl 2 rfl) ?_
        refine lv_iload_n hx hb dX8_takes_78 rfl (lv_at hl 0 rfl) ?_
        refine m_iast hx hb hK hM hS 13 (by omega) (show (mw ac adr (va_up sf 11 (nI (on_ o))) (va_up (va_up (va_up (va_up af 11 (upd (af 11) o (nI t))) 14 (blk o (mixF (on_ o) (fun _ => -1) (fun j => af 14 (8 * o + j))) (af 14))) 22 (mixF (on_ o) (fun j => af 9 (8 * o + j)) (af 22))) 23 T_2)) 13 = .inl (ac 0, 60, .inl (af 13)) from rfl) (vp_in_nI (by omega) (by decide)) dX8_takes_79 (fun H locs hM hS => ?_)
        have ef_ : (upd (af 13) (nI o).toNatClampNeg ((mbs (af 19) (lkM (on_ o) (fun j => nI (owd o j)) sn sw) (owM sc (nI (oc o))) le ns).1)) = upd (af 13) o ((mbs (af 19) (lkM (on_ o) (fun j => nI (owd o j)) sn sw) (owM sc (nI (oc o))) le ns).1) := by rw [nI_clamp (by omega)]
        rw [ef_] at hM
        clear ef_
        have hM := MW.marr (a1 := (va_up (va_up (va_up (va_up (va_up af 11 (upd (af 11) o (nI t))) 13 (upd (af 13) o ((mbs (af 19) (lkM (on_ o) (fun j => nI (owd o j)) sn sw) (owM sc (nI (oc o))) le ns).1))) 14 (blk o (mixF (on_ o) (fun _ => -1) (fun j => af 14 (8 * o + j))) (af 14))) 22 (mixF (on_ o) (fun j => af 9 (8 * o + j)) (af 22))) 23 T_2)) hM (by decide) rfl rfl (fun j9 hj9 => by simp only [va_up, if_neg hj9])
        refine lv_aload_n hx hb dX8_takes_80 rfl (lv_at hl 1 rfl) ?_
        refine m_get (ci := 8) (C := RX8) (T := TX8) (n := 35) (v := .ref (adr 15)) hx hb hts inX8_ hown hK rfl (hM.cel (by omega) (show (mw ac adr (va_up sf 11 (nI (on_ o))) (va_up (va_up (va_up (va_up (va_up af 11 (upd (af 11) o (nI t))) 13 (upd (af 13) o ((mbs (af 19) (lkM (on_ o) (fun j => nI (owd o j)) sn sw) (owM sc (nI (oc o))) le ns).1))) 14 (blk o (mixF (on_ o) (fun _ => -1) (fun j => af 14 (8 * o + j))) (af 14))) 22 (mixF (on_ o) (fun j => af 9 (8 * o + j)) (af 22))) 23 T_2)) 0 = .inr (8, mfs adr (va_up sf 11 (nI (on_ o)))) from rfl)) 23 (by decide) (hts _ (by decide +kernel)) rfl dX8_takes_81 ?_
        refine lv_iload_n hx hb dX8_takes_84 rfl (lv_at hl 2 rfl) ?_
        refine lv_aload_n hx hb dX8_takes_85 rfl (lv_at hl 1 rfl) ?_
        refine lv_iload_n hx hb dX8_takes_86 rfl (lv_at hl 0 rfl) ?_
        refine lv_aload_n hx hb dX8_takes_87 rfl (lv_at hl 1 rfl) ?_
        refine m_get (ci := 8) (C := RX8) (T := TX8) (n := 35) (v := .ref (adr 10)) hx hb hts inX8_ hown hK rfl (hM.cel (by omega) (show (mw ac adr (va_up sf 11 (nI (on_ o))) (va_up (va_up (va_up (va_up (va_up af 11 (upd (af 11) o (nI t))) 13 (upd (af 13) o ((mbs (af 19) (lkM (on_ o) (fun j => nI (owd o j)) sn sw) (owM sc (nI (oc o))) le ns).1))) 14 (blk o (mixF (on_ o) (fun _ => -1) (fun j => af 14 (8 * o + j))) (af 14))) 22 (mixF (on_ o) (fun j => af 9 (8 * o + j)) (af 22))) 23 T_2)) 0 = .inr (8, mfs adr (va_up sf 11 (nI (on_ o)))) from rfl)) 16 (by decide) (hts _ (by decide +kernel)) rfl dX8_takes_88 ?_
        refine lv_iload_n hx hb dX8_takes_91 rfl (lv_at hl 2 rfl) ?_
        refine m_zald hx hb hK (hM.cel (by omega) (show (mw ac adr (va_up sf 11 (nI (on_ o))) (va_up (va_up (va_up (va_up (va_up af 11 (upd (af 11) o (nI t))) 13 (upd (af 13) o ((mbs (af 19) (lkM (on_ o) (fun j => nI (owd o j)) sn sw) (owM sc (nI (oc o))) le ns).1))) 14 (blk o (mixF (on_ o) (fun _ => -1) (fun j => af 14 (8 * o + j))) (af 14))) 22 (mixF (on_ o) (fun j => af 9 (8 * o + j)) (af 22))) 23 T_2)) 10 = .inl (ac 2, 60, .inl (af 10)) from rfl)) (vp_in_nI (by omega) (by decide)) dX8_takes_92 ?_
        refine m_top (show ((af 10) (nI o).toNatClampNeg) = rb o from by rw [nI_clamp (by omega)]; exact o6_) ?_
        refine w_calli (va_runV (As := [.int ((mbs (af 19) (lkM (on_ o) (fun j => nI (owd o j)) sn sw) (owM sc (nI (oc o))) le ns).1), .int (rb o)]) (rest := [.int (nI o), .ref (adr 15)]) ⟨hx, hb, hml, hown, hts⟩ (k_X8_costOf l D ac _ A adr (va_up sf 11 (nI (on_ o))) (va_up (va_up (va_up (va_up (va_up af 11 (upd (af 11) o (nI t))) 13 (upd (af 13) o ((mbs (af 19) (lkM (on_ o) (fun j => nI (owd o j)) sn sw) (owM sc (nI (oc o))) le ns).1))) 14 (blk o (mixF (on_ o) (fun _ => -1) (fun j => af 14 (8 * o + j))) (af 14))) 22 (mixF (on_ o) (fun j => af 9 (8 * o + j)) (af 22))) 23 T_2) hM ns sc sn sw sb (hs.t rfl rfl rfl rfl rfl) (on_ o) (fun j => nI (owd o j)) (hrow _ _ rfl rfl) le pr ra (hp.t rfl rfl rfl) ((mbs (af 19) (lkM (on_ o) (fun j => nI (owd o j)) sn sw) (owM sc (nI (oc o))) le ns).1) (mbs_ix _ (Nat.le_refl _)) (rb o)) (cwV 2 hts gX8_takes_X8_costOf rfl rfl rfl (by decide +kernel) ⟨Nat.le_of_ble_eq_true rfl, Nat.le_of_ble_eq_true rfl⟩) (pV hK (ci := 8) rfl (hM.cel (by omega) (show (mw ac adr (va_up sf 11 (nI (on_ o))) (va_up (va_up (va_up (va_up (va_up af 11 (upd (af 11) o (nI t))) 13 (upd (af 13) o ((mbs (af 19) (lkM (on_ o) (fun j => nI (owd o j)) sn sw) (owM sc (nI (oc o))) le ns).1))) 14 (blk o (mixF (on_ o) (fun _ => -1) (fun j => af 14 (8 * o + j))) (af 14))) 22 (mixF (on_ o) (fun j => af 9 (8 * o + j)) (af 22))) 23 T_2)) 0 = .inr (8, mfs adr (va_up sf 11 (nI (on_ o)))) from rfl))) rfl rfl hl.1 rfl (lv_room (Nat.le_of_ble_eq_true rfl)) dX8_takes_93 ⟨Nat.le_of_ble_eq_true rfl, Nat.le_of_ble_eq_true rfl⟩) hS (fun rv_8 w_9 H locs hw_9 hM hS => ?_)
        obtain ⟨hrv_8, T_7, he_10⟩ := hw_9
        rw [he_10] at hM
        have hM := (MW.cg (s1 := (va_up sf 11 (nI (on_ o)))) (a1 := (va_up (va_up (va_up (va_up (va_up af 11 (upd (af 11) o (nI t))) 13 (upd (af 13) o ((mbs (af 19) (lkM (on_ o) (fun j => nI (owd o j)) sn sw) (owM sc (nI (oc o))) le ns).1))) 14 (blk o (mixF (on_ o) (fun _ => -1) (fun j => af 14 (8 * o + j))) (af 14))) 22 (mixF (on_ o) (fun j => af 9 (8 * o + j)) (af 22))) 23 T_7)) hM (fun _ => rfl) (fun j9 => if q0_ : j9 = 23 then (by subst q0_; rfl) else (by first | rfl | simp only [va_up, if_neg q0_] | fail)))
        subst hrv_8
        refine m_iast hx hb hK hM hS 15 (by omega) (show (mw ac adr (va_up sf 11 (nI (on_ o))) (va_up (va_up (va_up (va_up (va_up af 11 (upd (af 11) o (nI t))) 13 (upd (af 13) o ((mbs (af 19) (lkM (on_ o) (fun j => nI (owd o j)) sn sw) (owM sc (nI (oc o))) le ns).1))) 14 (blk o (mixF (on_ o) (fun _ => -1) (fun j => af 14 (8 * o + j))) (af 14))) 22 (mixF (on_ o) (fun j => af 9 (8 * o + j)) (af 22))) 23 T_7)) 15 = .inl (ac 0, 60, .inl (af 15)) from rfl) (vp_in_nI (by omega) (by decide)) dX8_takes_96 (fun H locs hM hS => ?_)
        have ef_ : (upd (af 15) (nI o).toNatClampNeg (cstI (nI ((on_ o))) pr (shM (on_ o) (fun j => nI (owd o j)) sn sw ns ((mbs (af 19) (lkM (on_ o) (fun j => nI (owd o j)) sn sw) (owM sc (nI (oc o))) le ns).1)) (rb o))) = upd (af 15) o (cstI (nI ((on_ o))) pr (shM (on_ o) (fun j => nI (owd o j)) sn sw ns ((mbs (af 19) (lkM (on_ o) (fun j => nI (owd o j)) sn sw) (owM sc (nI (oc o))) le ns).1)) (rb o)) := by rw [nI_clamp (by omega)]
        rw [ef_] at hM
        clear ef_
        have hM := MW.marr (a1 := (va_up (va_up (va_up (va_up (va_up (va_up af 11 (upd (af 11) o (nI t))) 13 (upd (af 13) o ((mbs (af 19) (lkM (on_ o) (fun j => nI (owd o j)) sn sw) (owM sc (nI (oc o))) le ns).1))) 14 (blk o (mixF (on_ o) (fun _ => -1) (fun j => af 14 (8 * o + j))) (af 14))) 15 (upd (af 15) o (cstI (nI ((on_ o))) pr (shM (on_ o) (fun j => nI (owd o j)) sn sw ns ((mbs (af 19) (lkM (on_ o) (fun j => nI (owd o j)) sn sw) (owM sc (nI (oc o))) le ns).1)) (rb o)))) 22 (mixF (on_ o) (fun j => af 9 (8 * o + j)) (af 22))) 23 T_7)) hM (by decide) rfl rfl (fun j9 hj9 => by simp only [va_up, if_neg hj9])
        refine lv_aload_n hx hb dX8_takes_97 rfl (lv_at hl 1 rfl) ?_
        refine m_get (ci := 8) (C := RX8) (T := TX8) (n := 35) (v := .ref (adr 16)) hx hb hts inX8_ hown hK rfl (hM.cel (by omega) (show (mw ac adr (va_up sf 11 (nI (on_ o))) (va_up (va_up (va_up (va_up (va_up (va_up af 11 (upd (af 11) o (nI t))) 13 (upd (af 13) o ((mbs (af 19) (lkM (on_ o) (fun j => nI (owd o j)) sn sw) (owM sc (nI (oc o))) le ns).1))) 14 (blk o (mixF (on_ o) (fun _ => -1) (fun j => af 14 (8 * o + j))) (af 14))) 15 (upd (af 15) o (cstI (nI ((on_ o))) pr (shM (on_ o) (fun j => nI (owd o j)) sn sw ns ((mbs (af 19) (lkM (on_ o) (fun j => nI (owd o j)) sn sw) (owM sc (nI (oc o))) le ns).1)) (rb o)))) 22 (mixF (on_ o) (fun j => af 9 (8 * o + j)) (af 22))) 23 T_7)) 0 = .inr (8, mfs adr (va_up sf 11 (nI (on_ o)))) from rfl)) 24 (by decide) (hts _ (by decide +kernel)) rfl dX8_takes_98 ?_
        refine lv_iload_n hx hb dX8_takes_101 rfl (lv_at hl 2 rfl) ?_
        refine lv_aload_n hx hb dX8_takes_102 rfl (lv_at hl 1 rfl) ?_
        refine m_get (ci := 8) (C := RX8) (T := TX8) (n := 35) (v := .int (nI (on_ o))) hx hb hts inX8_ hown hK rfl (hM.cel (by omega) (show (mw ac adr (va_up sf 11 (nI (on_ o))) (va_up (va_up (va_up (va_up (va_up (va_up af 11 (upd (af 11) o (nI t))) 13 (upd (af 13) o ((mbs (af 19) (lkM (on_ o) (fun j => nI (owd o j)) sn sw) (owM sc (nI (oc o))) le ns).1))) 14 (blk o (mixF (on_ o) (fun _ => -1) (fun j => af 14 (8 * o + j))) (af 14))) 15 (upd (af 15) o (cstI (nI ((on_ o))) pr (shM (on_ o) (fun j => nI (owd o j)) sn sw ns ((mbs (af 19) (lkM (on_ o) (fun j => nI (owd o j)) sn sw) (owM sc (nI (oc o))) le ns).1)) (rb o)))) 22 (mixF (on_ o) (fun j => af 9 (8 * o + j)) (af 22))) 23 T_7)) 0 = .inr (8, mfs adr (va_up sf 11 (nI (on_ o)))) from rfl)) 32 (by decide) (hts _ (by decide +kernel)) rfl dX8_takes_103 ?_
        refine m_top (show (nI (on_ o)) = nI (on_ o) from rfl) ?_
        refine lv_aload_n hx hb dX8_takes_106 rfl (lv_at hl 1 rfl) ?_
        refine m_get (ci := 8) (C := RX8) (T := TX8) (n := 35) (v := .int (sf 4)) hx hb hts inX8_ hown hK rfl (hM.cel (by omega) (show (mw ac adr (va_up sf 11 (nI (on_ o))) (va_up (va_up (va_up (va_up (va_up (va_up af 11 (upd (af 11) o (nI t))) 13 (upd (af 13) o ((mbs (af 19) (lkM (on_ o) (fun j => nI (owd o j)) sn sw) (owM sc (nI (oc o))) le ns).1))) 14 (blk o (mixF (on_ o) (fun _ => -1) (fun j => af 14 (8 * o + j))) (af 14))) 15 (upd (af 15) o (cstI (nI ((on_ o))) pr (shM (on_ o) (fun j => nI (owd o j)) sn sw ns ((mbs (af 19) (lkM (on_ o) (fun j => nI (owd o j)) sn sw) (owM sc (nI (oc o))) le ns).1)) (rb o)))) 22 (mixF (on_ o) (fun j => af 9 (8 * o + j)) (af 22))) 23 T_7)) 0 = .inr (8, mfs adr (va_up sf 11 (nI (on_ o)))) from rfl)) 5 (by decide) (hts _ (by decide +kernel)) rfl dX8_takes_107 ?_
        refine m_top (show (sf 4) = ra from hp.2.2) ?_
        refine lv_imul hx hb dX8_takes_110 ?_
        refine lv_aload_n hx hb dX8_takes_111 rfl (lv_at hl 1 rfl) ?_
        refine lv_iload_n hx hb dX8_takes_112 rfl (lv_at hl 0 rfl) ?_
        refine w_calli (va_runV (As := [.int ((mbs (af 19) (lkM (on_ o) (fun j => nI (owd o j)) sn sw) (owM sc (nI (oc o))) le ns).1)]) (rest := [.int ((nI (on_ o)) * ra), .int (nI o), .ref (adr 16)]) ⟨hx, hb, hml, hown, hts⟩ (k_X8_shareOf l D ac _ A adr (va_up sf 11 (nI (on_ o))) (va_up (va_up (va_up (va_up (va_up (va_up af 11 (upd (af 11) o (nI t))) 13 (upd (af 13) o ((mbs (af 19) (lkM (on_ o) (fun j => nI (owd o j)) sn sw) (owM sc (nI (oc o))) le ns).1))) 14 (blk o (mixF (on_ o) (fun _ => -1) (fun j => af 14 (8 * o + j))) (af 14))) 15 (upd (af 15) o (cstI (nI ((on_ o))) pr (shM (on_ o) (fun j => nI (owd o j)) sn sw ns ((mbs (af 19) (lkM (on_ o) (fun j => nI (owd o j)) sn sw) (owM sc (nI (oc o))) le ns).1)) (rb o)))) 22 (mixF (on_ o) (fun j => af 9 (8 * o + j)) (af 22))) 23 T_7) hM ns sc sn sw sb (hs.t rfl rfl rfl rfl rfl) (on_ o) (fun j => nI (owd o j)) (hrow _ _ rfl rfl) ((mbs (af 19) (lkM (on_ o) (fun j => nI (owd o j)) sn sw) (owM sc (nI (oc o))) le ns).1) (mbs_ix _ (Nat.le_refl _))) (cwV 1 hts gX8_takes_X8_shareOf rfl rfl rfl (by decide +kernel) ⟨Nat.le_of_ble_eq_true rfl, Nat.le_of_ble_eq_true rfl⟩) (pV hK (ci := 8) rfl (hM.cel (by omega) (show (mw ac adr (va_up sf 11 (nI (on_ o))) (va_up (va_up (va_up (va_up (va_up (va_up af 11 (upd (af 11) o (nI t))) 13 (upd (af 13) o ((mbs (af 19) (lkM (on_ o) (fun j => nI (owd o j)) sn sw) (owM sc (nI (oc o))) le ns).1))) 14 (blk o (mixF (on_ o) (fun _ => -1) (fun j => af 14 (8 * o + j))) (af 14))) 15 (upd (af 15) o (cstI (nI ((on_ o))) pr (shM (on_ o) (fun j => nI (owd o j)) sn sw ns ((mbs (af 19) (lkM (on_ o) (fun j => nI (owd o j)) sn sw) (owM sc (nI (oc o))) le ns).1)) (rb o)))) 22 (mixF (on_ o) (fun j => af 9 (8 * o + j)) (af 22))) 23 T_7)) 0 = .inr (8, mfs adr (va_up sf 11 (nI (on_ o)))) from rfl))) rfl rfl hl.1 rfl (lv_room (Nat.le_of_ble_eq_true rfl)) dX8_takes_113 ⟨Nat.le_of_ble_eq_true rfl, Nat.le_of_ble_eq_true rfl⟩) hS (fun rv_13 w_14 H locs hw_14 hM hS => ?_)
        obtain ⟨hrv_13, T_12, he_15⟩ := hw_14
        rw [he_15] at hM
        have hM := (MW.cg (s1 := (va_up sf 11 (nI (on_ o)))) (a1 := (va_up (va_up (va_up (va_up (va_up (va_up af 11 (upd (af 11) o (nI t))) 13 (upd (af 13) o ((mbs (af 19) (lkM (on_ o) (fun j => nI (owd o j)) sn sw) (owM sc (nI (oc o))) le ns).1))) 14 (blk o (mixF (on_ o) (fun _ => -1) (fun j => af 14 (8 * o + j))) (af 14))) 15 (upd (af 15) o (cstI (nI ((on_ o))) pr (shM (on_ o) (fun j => nI (owd o j)) sn sw ns ((mbs (af 19) (lkM (on_ o) (fun j => nI (owd o j)) sn sw) (owM sc (nI (oc o))) le ns).1)) (rb o)))) 22 (mixF (on_ o) (fun j => af 9 (8 * o + j)) (af 22))) 23 T_12)) hM (fun _ => rfl) (fun j9 => if q0_ : j9 = 23 then (by subst q0_; rfl) else (by first | rfl | simp only [va_up, if_neg q0_] | fail)))
        subst hrv_13
        refine lv_imul hx hb dX8_takes_116 ?_
        refine lv_bipush (v := 100) hx hb dX8_takes_117 (by decide) ?_
        refine lv_idiv hx hb dX8_takes_119 (by decide) ?_
        refine m_iast hx hb hK hM hS 16 (by omega) (show (mw ac adr (va_up sf 11 (nI (on_ o))) (va_up (va_up (va_up (va_up (va_up (va_up af 11 (upd (af 11) o (nI t))) 13 (upd (af 13) o ((mbs (af 19) (lkM (on_ o) (fun j => nI (owd o j)) sn sw) (owM sc (nI (oc o))) le ns).1))) 14 (blk o (mixF (on_ o) (fun _ => -1) (fun j => af 14 (8 * o + j))) (af 14))) 15 (upd (af 15) o (cstI (nI ((on_ o))) pr (shM (on_ o) (fun j => nI (owd o j)) sn sw ns ((mbs (af 19) (lkM (on_ o) (fun j => nI (owd o j)) sn sw) (owM sc (nI (oc o))) le ns).1)) (rb o)))) 22 (mixF (on_ o) (fun j => af 9 (8 * o + j)) (af 22))) 23 T_12)) 16 = .inl (ac 0, 60, .inl (af 16)) from rfl) (vp_in_nI (by omega) (by decide)) dX8_takes_120 (fun H locs hM hS => ?_)
        have ef_ : (upd (af 16) (nI o).toNatClampNeg ((((nI (on_ o)) * ra) * (shM (on_ o) (fun j => nI (owd o j)) sn sw ns ((mbs (af 19) (lkM (on_ o) (fun j => nI (owd o j)) sn sw) (owM sc (nI (oc o))) le ns).1))) / 100)) = upd (af 16) o ((((nI (on_ o)) * ra) * (shM (on_ o) (fun j => nI (owd o j)) sn sw ns ((mbs (af 19) (lkM (on_ o) (fun j => nI (owd o j)) sn sw) (owM sc (nI (oc o))) le ns).1))) / 100) := by rw [nI_clamp (by omega)]
        rw [ef_] at hM
        clear ef_
        have hM := MW.marr (a1 := (va_up (va_up (va_up (va_up (va_up (va_up (va_up af 11 (upd (af 11) o (nI t))) 13 (upd (af 13) o ((mbs (af 19) (lkM (on_ o) (fun j => nI (owd o j)) sn sw) (owM sc (nI (oc o))) le ns).1))) 14 (blk o (mixF (on_ o) (fun _ => -1) (fun j => af 14 (8 * o + j))) (af 14))) 15 (upd (af 15) o (cstI (nI ((on_ o))) pr (shM (on_ o) (fun j => nI (owd o j)) sn sw ns ((mbs (af 19) (lkM (on_ o) (fun j => nI (owd o j)) sn sw) (owM sc (nI (oc o))) le ns).1)) (rb o)))) 16 (upd (af 16) o ((((nI (on_ o)) * ra) * (shM (on_ o) (fun j => nI (owd o j)) sn sw ns ((mbs (af 19) (lkM (on_ o) (fun j => nI (owd o j)) sn sw) (owM sc (nI (oc o))) le ns).1))) / 100))) 22 (mixF (on_ o) (fun j => af 9 (8 * o + j)) (af 22))) 23 T_12)) hM (by decide) rfl rfl (fun j9 hj9 => by simp only [va_up, if_neg hj9])
        refine lv_iload_n hx hb dX8_takes_121 rfl (lv_at hl 0 rfl) ?_
        rcases mbs_ix (li := af 19) (L := lkM (on_ o) (fun j => nI (owd o j)) sn sw) (ow := owM sc (nI (oc o))) (le := le) (n := ns) ns (Nat.le_refl _) with em | ⟨i, hi, em⟩
        · refine m_top (show ((mbs (af 19) (lkM (on_ o) (fun j => nI (owd o j)) sn sw) (owM sc (nI (oc o))) le ns).1) = (-1 : Int32) from em) ?_
          refine lv_iconst (v := (-1)) hx hb dX8_takes_122 (by decide) ?_
          refine lv_icmp_eq (tgt := 132) hx hb dX8_takes_123 (by decide) (fun c123 => ?_) (fun c123 => ?_)
          · have hM := MW.cg (s1 := (va_up sf 11 (nI (on_ o)))) (a1 := (va_up (va_up (va_up (va_up (va_up (va_up (va_up af 11 (upd (af 11) o (nI t))) 13 (upd (af 13) o ((mbs (af 19) (lkM (on_ o) (fun j => nI (owd o j)) sn sw) (owM sc (nI (oc o))) le ns).1))) 14 (blk o (lnM (on_ o) (fun j => nI (owd o j)) sn sw sb ns (mixF (on_ o) (fun _ => -1) (fun j => af 14 (8 * o + j))) (mbs (af 19) (lkM (on_ o) (fun j => nI (owd o j)) sn sw) (owM sc (nI (oc o))) le ns).1) (af 14))) 15 (upd (af 15) o (cstI (nI ((on_ o))) pr (shM (on_ o) (fun j => nI (owd o j)) sn sw ns ((mbs (af 19) (lkM (on_ o) (fun j => nI (owd o j)) sn sw) (owM sc (nI (oc o))) le ns).1)) (rb o)))) 16 (upd (af 16) o ((((nI (on_ o)) * ra) * (shM (on_ o) (fun j => nI (owd o j)) sn sw ns ((mbs (af 19) (lkM (on_ o) (fun j => nI (owd o j)) sn sw) (owM sc (nI (oc o))) le ns).1))) / 100))) 22 (mixF (on_ o) (fun j => af 9 (8 * o + j)) (af 22))) 23 T_12)) hM (fun _ => rfl) (fun j9 => if q0_ : j9 = 14 then (by subst q0_; show blk o (lnM (on_ o) (fun j => nI (owd o j)) sn sw sb ns (mixF (on_ o) (fun _ => -1) (fun j => af 14 (8 * o + j))) (mbs (af 19) (lkM (on_ o) (fun j => nI (owd o j)) sn sw) (owM sc (nI (oc o))) le ns).1) (af 14) = blk o (mixF (on_ o) (fun _ => -1) (fun j => af 14 (8 * o + j))) (af 14); exact (congrArg (fun z => blk o z (af 14)) (lnM_n em))) else (by first | rfl | simp only [va_up, if_neg q0_] | fail))
            rw [hQ0]
            exact e_wv hx hb hlocks hr dX8_takes_132 hM hS (⟨T_12, rfl⟩)
          · exact absurd c123 (by decide)
        · refine m_top (show ((mbs (af 19) (lkM (on_ o) (fun j => nI (owd o j)) sn sw) (owM sc (nI (oc o))) le ns).1) = nI i from em) ?_
          refine lv_iconst (v := (-1)) hx hb dX8_takes_122 (by decide) ?_
          refine lv_icmp_eq (tgt := 132) hx hb dX8_takes_123 (by decide) (fun c123 => ?_) (fun c123 => ?_)
          · exact absurd c123 (nI_m1 (by omega))
          · refine lv_aload_n hx hb dX8_takes_126 rfl (lv_at hl 1 rfl) ?_
            refine lv_iload_n hx hb dX8_takes_127 rfl (lv_at hl 2 rfl) ?_
            refine lv_iload_n hx hb dX8_takes_128 rfl (lv_at hl 0 rfl) ?_
            refine m_top (show ((mbs (af 19) (lkM (on_ o) (fun j => nI (owd o j)) sn sw) (owM sc (nI (oc o))) le ns).1 : Int32) = nI i from em) ?_
            refine w_callv (va_runV (As := [.int (nI o), .int (nI i)]) (rest := []) ⟨hx, hb, hml, hown, hts⟩ (k_X8_pairs l D ac _ A adr (va_up sf 11 (nI (on_ o))) (va_up (va_up (va_up (va_up (va_up (va_up (va_up af 11 (upd (af 11) o (nI t))) 13 (upd (af 13) o ((mbs (af 19) (lkM (on_ o) (fun j => nI (owd o j)) sn sw) (owM sc (nI (oc o))) le ns).1))) 14 (blk o (mixF (on_ o) (fun _ => -1) (fun j => af 14 (8 * o + j))) (af 14))) 15 (upd (af 15) o (cstI (nI ((on_ o))) pr (shM (on_ o) (fun j => nI (owd o j)) sn sw ns ((mbs (af 19) (lkM (on_ o) (fun j => nI (owd o j)) sn sw) (owM sc (nI (oc o))) le ns).1)) (rb o)))) 16 (upd (af 16) o ((((nI (on_ o)) * ra) * (shM (on_ o) (fun j => nI (owd o j)) sn sw ns ((mbs (af 19) (lkM (on_ o) (fun j => nI (owd o j)) sn sw) (owM sc (nI (oc o))) le ns).1))) / 100))) 22 (mixF (on_ o) (fun j => af 9 (8 * o + j)) (af 22))) 23 T_12) hM ns sc sn sw sb (hs.t rfl rfl rfl rfl rfl) (on_ o) (fun j => nI (owd o j)) (hrow _ _ rfl rfl) o (by omega) i hi (mixF (on_ o) (fun _ => -1) (fun j => af 14 (8 * o + j))) (af 14) rfl) (cwV 2 hts gX8_takes_X8_pairs rfl rfl rfl (by decide +kernel) ⟨Nat.le_of_ble_eq_true rfl, Nat.le_of_ble_eq_true rfl⟩) (pV hK (ci := 8) rfl (hM.cel (by omega) (show (mw ac adr (va_up sf 11 (nI (on_ o))) (va_up (va_up (va_up (va_up (va_up (va_up (va_up af 11 (upd (af 11) o (nI t))) 13 (upd (af 13) o ((mbs (af 19) (lkM (on_ o) (fun j => nI (owd o j)) sn sw) (owM sc (nI (oc o))) le ns).1))) 14 (blk o (mixF (on_ o) (fun _ => -1) (fun j => af 14 (8 * o + j))) (af 14))) 15 (upd (af 15) o (cstI (nI ((on_ o))) pr (shM (on_ o) (fun j => nI (owd o j)) sn sw ns ((mbs (af 19) (lkM (on_ o) (fun j => nI (owd o j)) sn sw) (owM sc (nI (oc o))) le ns).1)) (rb o)))) 16 (upd (af 16) o ((((nI (on_ o)) * ra) * (shM (on_ o) (fun j => nI (owd o j)) sn sw ns ((mbs (af 19) (lkM (on_ o) (fun j => nI (owd o j)) sn sw) (owM sc (nI (oc o))) le ns).1))) / 100))) 22 (mixF (on_ o) (fun j => af 9 (8 * o + j)) (af 22))) 23 T_12)) 0 = .inr (8, mfs adr (va_up sf 11 (nI (on_ o)))) from rfl))) rfl rfl hl.1 rfl (lv_room (Nat.le_of_ble_eq_true rfl)) dX8_takes_129 ⟨Nat.le_of_ble_eq_true rfl, Nat.le_of_ble_eq_true rfl⟩) hS (fun w_19 H locs hw_19 hM hS => ?_)
            obtain ⟨T_17, he_20⟩ := hw_19
            rw [he_20] at hM
            have hM := (MW.cg (s1 := (va_up sf 11 (nI (on_ o)))) (a1 := (va_up (va_up (va_up (va_up (va_up (va_up (va_up af 11 (upd (af 11) o (nI t))) 13 (upd (af 13) o ((mbs (af 19) (lkM (on_ o) (fun j => nI (owd o j)) sn sw) (owM sc (nI (oc o))) le ns).1))) 14 (blk o (lendF ((fun j => nI (owd o j))) (fun j => nI (sw i j)) (sb i) 16 ((on_ o)) (sn i) (mixF (on_ o) (fun _ => -1) (fun j => af 14 (8 * o + j)))) (af 14))) 15 (upd (af 15) o (cstI (nI ((on_ o))) pr (shM (on_ o) (fun j => nI (owd o j)) sn sw ns ((mbs (af 19) (lkM (on_ o) (fun j => nI (owd o j)) sn sw) (owM sc (nI (oc o))) le ns).1)) (rb o)))) 16 (upd (af 16) o ((((nI (on_ o)) * ra) * (shM (on_ o) (fun j => nI (owd o j)) sn sw ns ((mbs (af 19) (lkM (on_ o) (fun j => nI (owd o j)) sn sw) (owM sc (nI (oc o))) le ns).1))) / 100))) 22 (mixF (on_ o) (fun j => af 9 (8 * o + j)) (af 22))) 23 T_17)) hM (fun _ => rfl) (fun j9 => if q0_ : j9 = 14 then (by subst q0_; rfl) else if q1_ : j9 = 23 then (by subst q1_; rfl) else (by first | rfl | simp only [va_up, if_neg q0_, if_neg q1_] | fail)))
            have hM := MW.cg (s1 := (va_up sf 11 (nI (on_ o)))) (a1 := (va_up (va_up (va_up (va_up (va_up (va_up (va_up af 11 (upd (af 11) o (nI t))) 13 (upd (af 13) o ((mbs (af 19) (lkM (on_ o) (fun j => nI (owd o j)) sn sw) (owM sc (nI (oc o))) le ns).1))) 14 (blk o (lnM (on_ o) (fun j => nI (owd o j)) sn sw sb ns (mixF (on_ o) (fun _ => -1) (fun j => af 14 (8 * o + j))) (mbs (af 19) (lkM (on_ o) (fun j => nI (owd o j)) sn sw) (owM sc (nI (oc o))) le ns).1) (af 14))) 15 (upd (af 15) o (cstI (nI ((on_ o))) pr (shM (on_ o) (fun j => nI (owd o j)) sn sw ns ((mbs (af 19) (lkM (on_ o) (fun j => nI (owd o j)) sn sw) (owM sc (nI (oc o))) le ns).1)) (rb o)))) 16 (upd (af 16) o ((((nI (on_ o)) * ra) * (shM (on_ o) (fun j => nI (owd o j)) sn sw ns ((mbs (af 19) (lkM (on_ o) (fun j => nI (owd o j)) sn sw) (owM sc (nI (oc o))) le ns).1))) / 100))) 22 (mixF (on_ o) (fun j => af 9 (8 * o + j)) (af 22))) 23 T_17)) hM (fun _ => rfl) (fun j9 => if q0_ : j9 = 14 then (by subst q0_; show blk o (lnM (on_ o) (fun j => nI (owd o j)) sn sw sb ns (mixF (on_ o) (fun _ => -1) (fun j => af 14 (8 * o + j))) (mbs (af 19) (lkM (on_ o) (fun j => nI (owd o j)) sn sw) (owM sc (nI (oc o))) le ns).1) (af 14) = blk o (lendF ((fun j => nI (owd o j))) (fun j => nI (sw i j)) (sb i) 16 ((on_ o)) (sn i) (mixF (on_ o) (fun _ => -1) (fun j => af 14 (8 * o + j)))) (af 14); exact (congrArg (fun z => blk o z (af 14)) (lnM_i em hi hns))) else (by first | rfl | simp only [va_up, if_neg q0_] | fail))
            rw [hQ0]
            exact e_wv hx hb hlocks hr dX8_takes_132 hM hS (⟨T_17, rfl⟩)
      · have hkn : k < on_ o := nle_lt c24 (by omega) (by omega)
        obtain ⟨u1_, u2_⟩ := o8_ k hkn
        refine lv_aload_n hx hb dX8_takes_27 rfl (lv_at hl 0 rfl) ?_
        refine m_get (ci := 8) (C := RX8) (T := TX8) (n := 35) (v := .ref (adr 22)) hx hb hts inX8_ hown hK rfl (hM.cel (by omega) (show (mw ac adr (va_up sf 11 (nI (on_ o))) (va_up (va_up (va_up af 11 (upd (af 11) o (nI t))) 14 (blk o (mixF k (fun _ => -1) (fun j => af 14 (8 * o + j))) (af 14))) 22 (mixF k (fun j => af 9 (8 * o + j)) (af 22)))) 0 = .inr (8, mfs adr (va_up sf 11 (nI (on_ o)))) from rfl)) 33 (by decide) (hts _ (by decide +kernel)) rfl dX8_takes_28 ?_
        refine lv_iload_n hx hb dX8_takes_31 rfl (lv_at hl 3 rfl) ?_
        refine lv_aload_n hx hb dX8_takes_32 rfl (lv_at hl 0 rfl) ?_
        refine m_get (ci := 8) (C := RX8) (T := TX8) (n := 35) (v := .ref (adr 9)) hx hb hts inX8_ hown hK rfl (hM.cel (by omega) (show (mw ac adr (va_up sf 11 (nI (on_ o))) (va_up (va_up (va_up af 11 (upd (af 11) o (nI t))) 14 (blk o (mixF k (fun _ => -1) (fun j => af 14 (8 * o + j))) (af 14))) 22 (mixF k (fun j => af 9 (8 * o + j)) (af 22)))) 0 = .inr (8, mfs adr (va_up sf 11 (nI (on_ o)))) from rfl)) 15 (by decide) (hts _ (by decide +kernel)) rfl dX8_takes_33 ?_
        refine lv_bipush (v := 8) hx hb dX8_takes_36 (by decide) ?_
        refine lv_iload_n hx hb dX8_takes_38 rfl (lv_at hl 1 rfl) ?_
        refine lv_imul hx hb dX8_takes_39 ?_
        refine m_top (show (8 * (nI o)) = nI (8 * o) from by rw [show (8 : Int32) = nI 8 from rfl, pk_mul]) ?_
        refine lv_iload_n hx hb dX8_takes_40 rfl (lv_at hl 3 rfl) ?_
        refine lv_iadd hx hb dX8_takes_41 ?_
        refine m_top (show ((nI (8 * o)) + (nI k)) = nI (8 * o + k) from nI_add _ _) ?_
        refine m_iald hx hb hK (hM.cel (by omega) (show (mw ac adr (va_up sf 11 (nI (on_ o))) (va_up (va_up (va_up af 11 (upd (af 11) o (nI t))) 14 (blk o (mixF k (fun _ => -1) (fun j => af 14 (8 * o + j))) (af 14))) 22 (mixF k (fun j => af 9 (8 * o + j)) (af 22)))) 9 = .inl (ac 0, 480, .inl (af 9)) from rfl)) (vp_in_nI (by omega) (by decide)) dX8_takes_42 ?_
        refine m_top (show ((af 9) (nI (8 * o + k)).toNatClampNeg) = af 9 (8 * o + k) from by rw [nI_clamp (by omega)]) ?_
        refine m_iast hx hb hK hM hS 22 (by omega) (show (mw ac adr (va_up sf 11 (nI (on_ o))) (va_up (va_up (va_up af 11 (upd (af 11) o (nI t))) 14 (blk o (mixF k (fun _ => -1) (fun j => af 14 (8 * o + j))) (af 14))) 22 (mixF k (fun j => af 9 (8 * o + j)) (af 22)))) 22 = .inl (ac 0, 8, .inl (mixF k (fun j => af 9 (8 * o + j)) (af 22))) from rfl) (vp_in_nI (by omega) (by decide)) dX8_takes_43 (fun H locs hM hS => ?_)
        have ef_ : (upd (mixF k (fun j => af 9 (8 * o + j)) (af 22)) (nI k).toNatClampNeg (af 9 (8 * o + k))) = mixF (k + 1) (fun j => af 9 (8 * o + j)) (af 22) := by rw [nI_clamp (by omega)]; exact mixF_s
        rw [ef_] at hM
        clear ef_
        have hM := MW.marr (a1 := (va_up (va_up (va_up af 11 (upd (af 11) o (nI t))) 14 (blk o (mixF k (fun _ => -1) (fun j => af 14 (8 * o + j))) (af 14))) 22 (mixF (k + 1) (fun j => af 9 (8 * o + j)) (af 22)))) hM (by decide) rfl rfl (fun j9 hj9 => by simp only [va_up, if_neg hj9])
        refine lv_aload_n hx hb dX8_takes_44 rfl (lv_at hl 0 rfl) ?_
        refine m_get (ci := 8) (C := RX8) (T := TX8) (n := 35) (v := .ref (adr 14)) hx hb hts inX8_ hown hK rfl (hM.cel (by omega) (show (mw ac adr (va_up sf 11 (nI (on_ o))) (va_up (va_up (va_up af 11 (upd (af 11) o (nI t))) 14 (blk o (mixF k (fun _ => -1) (fun j => af 14 (8 * o + j))) (af 14))) 22 (mixF (k + 1) (fun j => af 9 (8 * o + j)) (af 22)))) 0 = .inr (8, mfs adr (va_up sf 11 (nI (on_ o)))) from rfl)) 22 (by decide) (hts _ (by decide +kernel)) rfl dX8_takes_45 ?_
        refine lv_bipush (v := 8) hx hb dX8_takes_48 (by decide) ?_
        refine lv_iload_n hx hb dX8_takes_50 rfl (lv_at hl 1 rfl) ?_
        refine lv_imul hx hb dX8_takes_51 ?_
        refine m_top (show (8 * (nI o)) = nI (8 * o) from by rw [show (8 : Int32) = nI 8 from rfl, pk_mul]) ?_
        refine lv_iload_n hx hb dX8_takes_52 rfl (lv_at hl 3 rfl) ?_
        refine lv_iadd hx hb dX8_takes_53 ?_
        refine m_top (show ((nI (8 * o)) + (nI k)) = nI (8 * o + k) from nI_add _ _) ?_
        refine lv_iconst (v := (-1)) hx hb dX8_takes_54 (by decide) ?_
        refine m_iast hx hb hK hM hS 14 (by omega) (show (mw ac adr (va_up sf 11 (nI (on_ o))) (va_up (va_up (va_up af 11 (upd (af 11) o (nI t))) 14 (blk o (mixF k (fun _ => -1) (fun j => af 14 (8 * o + j))) (af 14))) 22 (mixF (k + 1) (fun j => af 9 (8 * o + j)) (af 22)))) 14 = .inl (ac 0, 480, .inl (blk o (mixF k (fun _ => -1) (fun j => af 14 (8 * o + j))) (af 14))) from rfl) (vp_in_nI (by omega) (by decide)) dX8_takes_55 (fun H locs hM hS => ?_)
        have ef_ : (upd (blk o (mixF k (fun _ => -1) (fun j => af 14 (8 * o + j))) (af 14)) (nI (8 * o + k)).toNatClampNeg (-1)) = blk o (mixF (k + 1) (fun _ => -1) (fun j => af 14 (8 * o + j))) (af 14) := by rw [nI_clamp (by omega)]; exact (blk_u (by omega)).trans (congrArg (fun z => blk o z (af 14)) (mixF_s (f := fun _ => -1)))
        rw [ef_] at hM
        clear ef_
        have hM := MW.marr (a1 := (va_up (va_up (va_up af 11 (upd (af 11) o (nI t))) 14 (blk o (mixF (k + 1) (fun _ => -1) (fun j => af 14 (8 * o + j))) (af 14))) 22 (mixF (k + 1) (fun j => af 9 (8 * o + j)) (af 22)))) hM (by decide) rfl rfl (fun j9 hj9 => by simp only [va_up, if_neg hj9])
        refine lv_iinc (v := nI (k + 1)) (lv' := [(3, .int (nI (k + 1))), (0, .ref (adr 0)), (1, .int (nI o)), (2, .int (nI t))]) hx hb dX8_takes_56 hl (k := 3) rfl (nI_1 _) (by decide) rfl (fun ls hl => ?_)
        refine lv_goto (tgt := 19) hx hb dX8_takes_59 (by decide) ?_
        exact ih19 (k + 1) (by omega) (by omega) _ _ (MW.cg hM (fun _ => rfl) (fun j9 => if q0_ : j9 = 14 then (by subst q0_; rfl) else if q1_ : j9 = 22 then (by subst q1_; rfl) else (by first | rfl | simp only [va_up, if_neg q0_, if_neg q1_] | fail))) hS ls (lv_sub hl [1, 2, 3, 0] rfl)
  exact L19 _ 0 (Nat.lt_succ_self _) (Nat.zero_le _) _ _ (MW.cg hM (fun _ => rfl) (fun j9 => if q0_ : j9 = 14 then (by subst q0_; rfl) else if q1_ : j9 = 22 then (by subst q1_; rfl) else (by first | rfl | simp only [va_up, if_neg q0_, if_neg q1_] | fail))) hS ls (lv_sub hl [1, 2, 3, 0] rfl)
set_option maxHeartbeats 4000000 in
set_option maxRecDepth 100000 in
/-- X8_take -/
theorem k_X8_take (l : Launch) (D : va_G) (ac : Nat → ClassId) (H : Heap) (A : Nat → Prop) (adr : Nat → Nat) (sf : Nat → Int32) (af : Nat → Nat → Int32) (hM : MW D A 24 adr (mw ac adr sf af) H) (no : Nat) (oc on_ : Nat → Nat) (owd : Nat → Nat → Nat) (rb st : Nat → Int32) (ho : MOrd sf af no oc on_ owd rb st) (hd : Nat → Option Nat) (hh : MHan af no hd) (ns : Nat) (sc sn : Nat → Nat) (sw : Nat → Nat → Nat) (sb : Nat → Nat → Int32) (hs : MSen sf af ns sc sn sw sb) (le pr ra : Int32) (hp : MPri sf le pr ra) (x : Int32) : WRi l yX8_take wsX8_take ({ frames := 6, cells := 0, slots := 0, locals := 136 }) [.ref (adr 0), .int x] D ac H A 24 adr (MPo ac adr sf af (cd2 (ix x 4).isNone ((ix x 4).bind hd).isSome) (fun r s1 a1 => ∃ k, k < 4 ∧ x = nI k ∧ hd k = none ∧ ((nxF (af 11) (af 10) (af 12) no = none ∧ r = -1 ∧ Scr sf af s1 a1) ∨ ∃ (o : Nat) (T1 : Nat → Int32), nxF (af 11) (af 10) (af 12) no = some o ∧ r = nI o ∧ s1 = (va_up (va_up sf 0 0) 11 (nI (on_ o))) ∧ a1 = (va_up (va_up (va_up (va_up (va_up (va_up (va_up af 11 (upd (af 11) o (nI k))) 13 (upd (af 13) o ((mbs (af 19) (lkM (on_ o) (fun j => nI (owd o j)) sn sw) (owM sc (nI (oc o))) le ns).1))) 14 (blk o (lnM (on_ o) (fun j => nI (owd o j)) sn sw sb ns (mixF (on_ o) (fun _ => -1) (fun j => af 14 (8 * o + j))) (mbs (af 19) (lkM (on_ o) (fun j => nI (owd o j)) sn sw) (owM sc (nI (oc o))) le ns).1) (af 14))) 15 (upd (af 15) o (cstI (nI (on_ o)) pr (shM (on_ o) (fun j => nI (owd o j)) sn sw ns (mbs (af 19) (lkM (on_ o) (fun j => nI (owd o j)) sn sw) (owM sc (nI (oc o))) le ns).1) (rb o)))) 16 (upd (af 16) o (nI (on_ o) * ra * (shM (on_ o) (fun j => nI (owd o j)) sn sw ns (mbs (af 19) (lkM (on_ o) (fun j => nI (owd o j)) sn sw) (owM sc (nI (oc o))) le ns).1) / 100))) 22 (mixF (on_ o) (fun j => af 9 (8 * o + j)) (af 22))) 23 T1)))) := by
  refine Met.ofW (cc := cX8_take) (maxL := 4) (ret := (some .int)) (by decide) rfl ?_
  intro p e s m args below meth c s₁ B hml hv
  obtain ⟨hargs, hsz, hK⟩ := hv
  have hx := B.exec
  have hb := B.bytes
  have hr := B.returns
  have hts := atoms_spec (ws := wsX8_take) B.pre
  have hown : s.vm.findClass RX8 = some m.cls := findClass_of_methodNamed B.named
  have hlocks := B.notSynchronized
  subst hsz
  have hS : va_S A s.heap s.heap [] := va_S.rf
  have hl := lv_entry ([.ref (adr 0), .int x]) (n := 4) (Nat.le_of_ble_eq_true rfl)
  have hen := lg_entry_eq m [.ref (adr 0), .int x] 4
  rw [← hargs] at hen
  rw [hen]
  generalize (lg_sl ([.ref (adr 0), .int x]) ++ List.replicate (4 - (lg_sl ([.ref (adr 0), .int x])).length) Slot.unset).toArray = ls at hl ⊢
  have hl : lv_has ls 4 [(0, .ref (adr 0)), (1, .int x)] := hl
  obtain ⟨Q0, hQ0⟩ : ∃ z0_, z0_ = MQ below (va_Qi (MPo ac adr sf af (cd2 (ix x 4).isNone ((ix x 4).bind hd).isSome) (fun r s1 a1 => ∃ k, k < 4 ∧ x = nI k ∧ hd k = none ∧ ((nxF (af 11) (af 10) (af 12) no = none ∧ r = -1 ∧ Scr sf af s1 a1) ∨ ∃ (o : Nat) (T1 : Nat → Int32), nxF (af 11) (af 10) (af 12) no = some o ∧ r = nI o ∧ s1 = (va_up (va_up sf 0 0) 11 (nI (on_ o))) ∧ a1 = (va_up (va_up (va_up (va_up (va_up (va_up (va_up af 11 (upd (af 11) o (nI k))) 13 (upd (af 13) o ((mbs (af 19) (lkM (on_ o) (fun j => nI (owd o j)) sn sw) (owM sc (nI (oc o))) le ns).1))) 14 (blk o (lnM (on_ o) (fun j => nI (owd o j)) sn sw sb ns (mixF (on_ o) (fun _ => -1) (fun j => af 14 (8 * o + j))) (mbs (af 19) (lkM (on_ o) (fun j => nI (owd o j)) sn sw) (owM sc (nI (oc o))) le ns).1) (af 14))) 15 (upd (af 15) o (cstI (nI (on_ o)) pr (shM (on_ o) (fun j => nI (owd o j)) sn sw ns (mbs (af 19) (lkM (on_ o) (fun j => nI (owd o j)) sn sw) (owM sc (nI (oc o))) le ns).1) (rb o)))) 16 (upd (af 16) o (nI (on_ o) * ra * (shM (on_ o) (fun j => nI (owd o j)) sn sw ns (mbs (af 19) (lkM (on_ o) (fun j => nI (owd o j)) sn sw) (owM sc (nI (oc o))) le ns).1) / 100))) 22 (mixF (on_ o) (fun j => af 9 (8 * o + j)) (af 22))) 23 T1)))) (fun c t => MW D A 24 adr c t.heap) A) args s 0 0 A := ⟨_, rfl⟩
  rw [← hQ0]
  have h60 := ho.2.1
  refine lv_iload_n hx hb dX8_take_0 rfl (lv_at hl 1 rfl) ?_
  refine lv_iconst (v := 4) hx hb dX8_take_1 (by decide) ?_
  refine m_top (show (4 : Int32) = nI 4 from rfl) ?_
  refine r_calli (va_runS (As := [.int x, .int (nI 4)]) (rest := []) ⟨hx, hb, hml, hown, hts⟩ (k_X8_isIn l D ac _ x 4 (by omega)) (va_cwS 2 hts gX8_take_X8_isIn rfl rfl rfl (by decide +kernel) ⟨Nat.le_of_ble_eq_true rfl, Nat.le_of_ble_eq_true rfl⟩) (pS hK) rfl rfl hl.1 rfl (lv_room (Nat.le_of_ble_eq_true rfl)) dX8_take_2 ⟨Nat.le_of_ble_eq_true rfl, Nat.le_of_ble_eq_true rfl⟩) hS (fun rv_1 locs hrv_1 hS => ?_)
  subst hrv_1
  rcases hi_x : ix x 4 with _ | k_x
  · refine m_top (show _ = (0 : Int32) from rfl) ?_
    refine lv_istore_n (lv' := [(2, .int 0), (0, .ref (adr 0)), (1, .int x)]) hx hb dX8_take_5 rfl hl (by decide) rfl (fun ls hl => ?_)
    refine lv_aload_n hx hb dX8_take_6 rfl (lv_at hl 1 rfl) ?_
    refine lv_iload_n hx hb dX8_take_7 rfl (lv_at hl 0 rfl) ?_
    refine lv_if_ne (tgt := 15) hx hb dX8_take_8 (by decide) (fun c8 => ?_) (fun c8 => ?_)
    · exact absurd c8 (by decide)
    · refine lv_iconst (v := 1) hx hb dX8_take_11 (by decide) ?_
      refine lv_goto (tgt := 29) hx hb dX8_take_12 (by decide) ?_
      refine w_calli (va_runV (As := [.int 1]) (rest := []) ⟨hx, hb, hml, hown, hts⟩ (k_X8_holds l D ac _ A adr sf af hM 1) (cwV 1 hts gX8_take_X8_holds rfl rfl rfl (by decide +kernel) ⟨Nat.le_of_ble_eq_true rfl, Nat.le_of_ble_eq_true rfl⟩) (pV hK (ci := 8) rfl (hM.cel (by omega) (show (mw ac adr sf af) 0 = .inr (8, mfs adr sf) from rfl))) rfl rfl hl.1 rfl (lv_room (Nat.le_of_ble_eq_true rfl)) dX8_take_29 ⟨Nat.le_of_ble_eq_true rfl, Nat.le_of_ble_eq_true rfl⟩) hS (fun rv_2 w_3 H locs hw_3 hM hS => ?_)
      obtain ⟨hrv_2, he_4⟩ := hw_3
      rw [he_4] at hM
      have hM := (MW.cg (s1 := (va_up sf 0 1)) (a1 := af) hM (fun j9 => if q0_ : j9 = 0 then (by subst q0_; rfl) else (by first | rfl | simp only [va_up, if_neg q0_] | fail)) (fun _ => rfl))
      subst hrv_2
      refine m_top (show _ = (0 : Int32) from rfl) ?_
      refine lv_if_ne (tgt := 37) hx hb dX8_take_32 (by decide) (fun c32 => ?_) (fun c32 => ?_)
      · exact absurd c32 (by decide)
      · refine lv_iconst (v := 0) hx hb dX8_take_35 (by decide) ?_
        rw [hQ0]
        exact e_wi hx hb hlocks hr dX8_take_36 hM hS (MPo.no (c := 1) (by simp [cd1, cd2, cd3, hi_x] : cd2 (ix x 4).isNone ((ix x 4).bind hd).isSome = 1) (by decide) rfl ⟨fun k9 u1_ u2_ => by first | rfl | simp only [va_up, if_neg u1_, if_neg u2_] | fail, fun k9 u1_ u2_ => by first | rfl | simp only [va_up, if_neg u1_, if_neg u2_] | fail⟩)
  · obtain ⟨b_x, e_x⟩ := ix_of hi_x (by omega)
    refine m_top (show _ = (1 : Int32) from rfl) ?_
    subst e_x
    refine lv_istore_n (lv' := [(2, .int 1), (0, .ref (adr 0)), (1, .int (nI k_x))]) hx hb dX8_take_5 rfl hl (by decide) rfl (fun ls hl => ?_)
    refine lv_aload_n hx hb dX8_take_6 rfl (lv_at hl 1 rfl) ?_
    refine lv_iload_n hx hb dX8_take_7 rfl (lv_at hl 0 rfl) ?_
    refine lv_if_ne (tgt := 15) hx hb dX8_take_8 (by decide) (fun c8 => ?_) (fun c8 => ?_)
    · refine lv_aload_n hx hb dX8_take_15 rfl (lv_at hl 1 rfl) ?_
      refine lv_iload_n hx hb dX8_take_16 rfl (lv_at hl 2 rfl) ?_
      refine r_calli (va_runV (As := [.int (nI k_x)]) (rest := [.ref (adr 0)]) ⟨hx, hb, hml, hown, hts⟩ (k_X8_orderOf l D ac _ A adr sf af hM no ho.1 ho.2.1 (nI k_x)) (cwV 1 hts gX8_take_X8_orderOf rfl rfl rfl (by decide +kernel) ⟨Nat.le_of_ble_eq_true rfl, Nat.le_of_ble_eq_true rfl⟩) (pV hK (ci := 8) rfl (hM.cel (by omega) (show (mw ac adr sf af) 0 = .inr (8, mfs adr sf) from rfl))) rfl rfl hl.1 rfl (lv_room (Nat.le_of_ble_eq_true rfl)) dX8_take_17 ⟨Nat.le_of_ble_eq_true rfl, Nat.le_of_ble_eq_true rfl⟩) hS (fun rv_5 locs hrv_5 hS => ?_)
      subst hrv_5
      rcases eh : hd k_x with _ | o
      · refine m_top (show (loF (af 11) (nI k_x) no) = (-1 : Int32) from by rw [(hh k_x b_x).1, eh]; rfl) ?_
        refine lv_iconst (v := (-1)) hx hb dX8_take_20 (by decide) ?_
        refine lv_icmp_eq (tgt := 28) hx hb dX8_take_21 (by decide) (fun c21 => ?_) (fun c21 => ?_)
        · refine lv_iconst (v := 0) hx hb dX8_take_28 (by decide) ?_
          refine w_calli (va_runV (As := [.int 0]) (rest := []) ⟨hx, hb, hml, hown, hts⟩ (k_X8_holds l D ac _ A adr sf af hM 0) (cwV 1 hts gX8_take_X8_holds rfl rfl rfl (by decide +kernel) ⟨Nat.le_of_ble_eq_true rfl, Nat.le_of_ble_eq_true rfl⟩) (pV hK (ci := 8) rfl (hM.cel (by omega) (show (mw ac adr sf af) 0 = .inr (8, mfs adr sf) from rfl))) rfl rfl hl.1 rfl (lv_room (Nat.le_of_ble_eq_true rfl)) dX8_take_29 ⟨Nat.le_of_ble_eq_true rfl, Nat.le_of_ble_eq_true rfl⟩) hS (fun rv_6 w_7 H locs hw_7 hM hS => ?_)
          obtain ⟨hrv_6, he_8⟩ := hw_7
          rw [he_8] at hM
          have hM := (MW.cg (s1 := (va_up sf 0 0)) (a1 := af) hM (fun j9 => if q0_ : j9 = 0 then (by subst q0_; rfl) else (by first | rfl | simp only [va_up, if_neg q0_] | fail)) (fun _ => rfl))
          subst hrv_6
          refine m_top (show _ = (1 : Int32) from rfl) ?_
          refine lv_if_ne (tgt := 37) hx hb dX8_take_32 (by decide) (fun c32 => ?_) (fun c32 => ?_)
          · refine lv_aload_n hx hb dX8_take_37 rfl (lv_at hl 1 rfl) ?_
            refine r_calli (va_runV (As := []) (rest := []) ⟨hx, hb, hml, hown, hts⟩ (k_X8_next l D ac _ A adr (va_up sf 0 0) af hM no oc on_ owd rb st (ho.t rfl rfl rfl rfl rfl rfl)) (cwV 0 hts gX8_take_X8_next rfl rfl rfl (by decide +kernel) ⟨Nat.le_of_ble_eq_true rfl, Nat.le_of_ble_eq_true rfl⟩) (pV hK (ci := 8) rfl (hM.cel (by omega) (show (mw ac adr (va_up sf 0 0) af) 0 = .inr (8, mfs adr (va_up sf 0 0)) from rfl))) rfl rfl hl.1 rfl (lv_room (Nat.le_of_ble_eq_true rfl)) dX8_take_38 ⟨Nat.le_of_ble_eq_true rfl, Nat.le_of_ble_eq_true rfl⟩) hS (fun rv_9 locs hrv_9 hS => ?_)
            subst hrv_9
            rcases ef : nxF (af 11) (af 10) (af 12) no with _ | o2
            · refine m_top (show _ = (-1 : Int32) from rfl) ?_
              refine lv_istore_n (lv' := [(3, .int (-1)), (2, .int 1), (0, .ref (adr 0)), (1, .int (nI k_x))]) hx hb dX8_take_41 rfl hl (by decide) rfl (fun ls hl => ?_)
              refine lv_iload_n hx hb dX8_take_42 rfl (lv_at hl 0 rfl) ?_
              refine lv_iconst (v := (-1)) hx hb dX8_take_43 (by decide) ?_
              refine lv_icmp_eq (tgt := 53) hx hb dX8_take_44 (by decide) (fun c44 => ?_) (fun c44 => ?_)
              · refine lv_iload_n hx hb dX8_take_53 rfl (lv_at hl 0 rfl) ?_
                rw [hQ0]
                exact e_wi hx hb hlocks hr dX8_take_54 hM hS (MPo.ok (by simp [cd1, cd2, cd3, hi_x, eh] : cd2 (ix (nI k_x) 4).isNone ((ix (nI k_x) 4).bind hd).isSome = 0) rfl ⟨k_x, b_x, rfl, eh, Or.inl ⟨ef, rfl, ⟨fun k9 u1_ u2_ => by first | rfl | simp only [va_up, if_neg u1_, if_neg u2_] | fail, fun k9 u1_ u2_ => by first | rfl | simp only [va_up, if_neg u1_, if_neg u2_] | fail⟩⟩⟩)
              · exact absurd c44 (by decide)
            · have ho2 : o2 < no := nxF_lt ef
              refine m_top (show _ = nI o2 from rfl) ?_
              refine lv_istore_n (lv' := [(3, .int (nI o2)), (2, .int 1), (0, .ref (adr 0)), (1, .int (nI k_x))]) hx hb dX8_take_41 rfl hl (by decide) rfl (fun ls hl => ?_)
              refine lv_iload_n hx hb dX8_take_42 rfl (lv_at hl 0 rfl) ?_
              refine lv_iconst (v := (-1)) hx hb dX8_take_43 (by decide) ?_
              refine lv_icmp_eq (tgt := 53) hx hb dX8_take_44 (by decide) (fun c44 => ?_) (fun c44 => ?_)
              · exact absurd c44 (nI_m1 (by omega))
              · refine lv_aload_n hx hb dX8_take_47 rfl (lv_at hl 2 rfl) ?_
                refine lv_iload_n hx hb dX8_take_48 rfl (lv_at hl 0 rfl) ?_
                refine lv_iload_n hx hb dX8_take_49 rfl (lv_at hl 3 rfl) ?_
                refine w_callv (va_runV (As := [.int (nI o2), .int (nI k_x)]) (rest := []) ⟨hx, hb, hml, hown, hts⟩ (k_X8_takes l D ac _ A adr (va_up sf 0 0) af hM no oc on_ owd rb st (ho.t rfl rfl rfl rfl rfl rfl) ns sc sn sw sb (hs.t rfl rfl rfl rfl rfl) le pr ra (hp.t rfl rfl rfl) o2 ho2 k_x) (cwV 2 hts gX8_take_X8_takes rfl rfl rfl (by decide +kernel) ⟨Nat.le_of_ble_eq_true rfl, Nat.le_of_ble_eq_true rfl⟩) (pV hK (ci := 8) rfl (hM.cel (by omega) (show (mw ac adr (va_up sf 0 0) af) 0 = .inr (8, mfs adr (va_up sf 0 0)) from rfl))) rfl rfl hl.1 rfl (lv_room (Nat.le_of_ble_eq_true rfl)) dX8_take_50 ⟨Nat.le_of_ble_eq_true rfl, Nat.le_of_ble_eq_true rfl⟩) hS (fun w_12 H locs hw_12 hM hS => ?_)
                obtain ⟨T_10, he_13⟩ := hw_12
                rw [he_13] at hM
                have hM := (MW.cg (s1 := (va_up (va_up sf 0 0) 11 (nI (on_ o2)))) (a1 := (va_up (va_up (va_up (va_up (va_up (va_up (va_up af 11 (upd (af 11) o2 (nI k_x))) 13 (upd (af 13) o2 ((mbs (af 19) (lkM (on_ o2) (fun j => nI (owd o2 j)) sn sw) (owM sc (nI (oc o2))) le ns).1))) 14 (blk o2 (lnM (on_ o2) (fun j => nI (owd o2 j)) sn sw sb ns (mixF (on_ o2) (fun _ => -1) (fun j => af 14 (8 * o2 + j))) (mbs (af 19) (lkM (on_ o2) (fun j => nI (owd o2 j)) sn sw) (owM sc (nI (oc o2))) le ns).1) (af 14))) 15 (upd (af 15) o2 (cstI (nI (on_ o2)) pr (shM (on_ o2) (fun j => nI (owd o2 j)) sn sw ns (mbs (af 19) (lkM (on_ o2) (fun j => nI (owd o2 j)) sn sw) (owM sc (nI (oc o2))) le ns).1) (rb o2)))) 16 (upd (af 16) o2 (nI (on_ o2) * ra * (shM (on_ o2) (fun j => nI (owd o2 j)) sn sw ns (mbs (af 19) (lkM (on_ o2) (fun j => nI (owd o2 j)) sn sw) (owM sc (nI (oc o2))) le ns).1) / 100))) 22 (mixF (on_ o2) (fun j => af 9 (8 * o2 + j)) (af 22))) 23 T_10)) hM (fun j9 => if q0_ : j9 = 11 then (by subst q0_; rfl) else (by first | rfl | simp only [va_up, if_neg q0_] | fail)) (fun j9 => if q0_ : j9 = 11 then (by subst q0_; rfl) else if q1_ : j9 = 13 then (by subst q1_; rfl) else if q2_ : j9 = 14 then (by subst q2_; rfl) else if q3_ : j9 = 15 then (by subst q3_; rfl) else if q4_ : j9 = 16 then (by subst q4_; rfl) else if q5_ : j9 = 22 then (by subst q5_; rfl) else if q6_ : j9 = 23 then (by subst q6_; rfl) else (by first | rfl | simp only [va_up, if_neg q0_, if_neg q1_, if_neg q2_, if_neg q3_, if_neg q4_, if_neg q5_, if_neg q6_] | fail)))
                refine lv_iload_n hx hb dX8_take_53 rfl (lv_at hl 0 rfl) ?_
                rw [hQ0]
                exact e_wi hx hb hlocks hr dX8_take_54 hM hS (MPo.ok (by simp [cd1, cd2, cd3, hi_x, eh] : cd2 (ix (nI k_x) 4).isNone ((ix (nI k_x) 4).bind hd).isSome = 0) rfl ⟨k_x, b_x, rfl, eh, Or.inr ⟨o2, T_10, ef, rfl, rfl, rfl⟩⟩)
          · exact absurd c32 (by decide)
        · exact absurd c21 (by decide)
      · have ho9 := (hh k_x b_x).2 o eh
        obtain ⟨o1_, o2_, ⟨o3_, o4_, o5_⟩, ⟨o6_, o7_⟩, o8_⟩ := ho.2.2 o ho9
        refine m_top (show (loF (af 11) (nI k_x) no) = nI o from by rw [(hh k_x b_x).1, eh]; rfl) ?_
        refine lv_iconst (v := (-1)) hx hb dX8_take_20 (by decide) ?_
        refine lv_icmp_eq (tgt := 28) hx hb dX8_take_21 (by decide) (fun c21 => ?_) (fun c21 => ?_)
        · exact absurd c21 (nI_m1 (by omega))
        · refine lv_iconst (v := 2) hx hb dX8_take_24 (by decide) ?_
          refine lv_goto (tgt := 29) hx hb dX8_take_25 (by decide) ?_
          refine w_calli (va_runV (As := [.int 2]) (rest := []) ⟨hx, hb, hml, hown, hts⟩ (k_X8_holds l D ac _ A adr sf af hM 2) (cwV 1 hts gX8_take_X8_holds rfl rfl rfl (by decide +kernel) ⟨Nat.le_of_ble_eq_true rfl, Nat.le_of_ble_eq_true rfl⟩) (pV hK (ci := 8) rfl (hM.cel (by omega) (show (mw ac adr sf af) 0 = .inr (8, mfs adr sf) from rfl))) rfl rfl hl.1 rfl (lv_room (Nat.le_of_ble_eq_true rfl)) dX8_take_29 ⟨Nat.le_of_ble_eq_true rfl, Nat.le_of_ble_eq_true rfl⟩) hS (fun rv_14 w_15 H locs hw_15 hM hS => ?_)
          obtain ⟨hrv_14, he_16⟩ := hw_15
          rw [he_16] at hM
          have hM := (MW.cg (s1 := (va_up sf 0 2)) (a1 := af) hM (fun j9 => if q0_ : j9 = 0 then (by subst q0_; rfl) else (by first | rfl | simp only [va_up, if_neg q0_] | fail)) (fun _ => rfl))
          subst hrv_14
          refine m_top (show _ = (0 : Int32) from rfl) ?_
          refine lv_if_ne (tgt := 37) hx hb dX8_take_32 (by decide) (fun c32 => ?_) (fun c32 => ?_)
          · exact absurd c32 (by decide)
          · refine lv_iconst (v := 0) hx hb dX8_take_35 (by decide) ?_
            rw [hQ0]
            exact e_wi hx hb hlocks hr dX8_take_36 hM hS (MPo.no (c := 2) (by simp [cd1, cd2, cd3, hi_x, eh] : cd2 (ix (nI k_x) 4).isNone ((ix (nI k_x) 4).bind hd).isSome = 2) (by decide) rfl ⟨fun k9 u1_ u2_ => by first | rfl | simp only [va_up, if_neg u1_, if_neg u2_] | fail, fun k9 u1_ u2_ => by first | rfl | simp only [va_up, if_neg u1_, if_neg u2_] | fail⟩)
    · exact absurd c8 (by decide)
