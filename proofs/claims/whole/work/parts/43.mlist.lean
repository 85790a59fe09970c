theorem SayR.t {af a1 : Nat → Nat → Int32} {fs fr : Nat → Int32} (h : SayR af fs fr) (h1 : a1 17 = af 17) : SayR a1 fs fr := ⟨fun q hq => by rw [h1]; exact h.1 q hq, h.2⟩
theorem asB_T {fr : Nat → Int32} {cl n : Nat} {wd : Nat → Nat} {bf : Nat → Int32} (h : asB fr cl n wd bf = true ∨ ast fr cl wd bf n) : asB fr cl (n + 1) wd bf = true := by
  unfold asB at h ⊢
  simp only [List.range_succ, List.any_append, List.any_cons, List.any_nil, Bool.or_false, Bool.or_eq_true, decide_eq_true_eq]
  exact h
theorem asB_F {fr : Nat → Int32} {cl n : Nat} {wd : Nat → Nat} {bf : Nat → Int32} (h1 : ¬ asB fr cl n wd bf = true) (h2 : ¬ ast fr cl wd bf n) : ¬ asB fr cl (n + 1) wd bf = true := by
  unfold asB at h1 ⊢
  simp only [List.range_succ, List.any_append, List.any_cons, List.any_nil, Bool.or_false, Bool.or_eq_true, decide_eq_true_eq]
  exact fun q => q.elim h1 h2
/-- the sold sentences, as the reference holds them -/
def MSen (sf : Nat → Int32) (af : Nat → Nat → Int32) (ns : Nat) (sc sn : Nat → Nat) (sw : Nat → Nat → Nat) (sb : Nat → Nat → Int32) : Prop := sf 5 = nI ns ∧ ns ≤ 40 ∧ ∀ i, i < ns → af 2 i = nI (sc i) ∧ af 3 i = nI (sn i) ∧ (0 < sn i ∧ sn i ≤ 8 ∧ sc i < 4) ∧ ∀ j, j < sn i → af 4 (8 * i + j) = nI (sw i j) ∧ sw i j < 50 ∧ af 5 (8 * i + j) = sb i j
theorem MSen.t {sf s1 : Nat → Int32} {af a1 : Nat → Nat → Int32} {ns : Nat} {sc sn : Nat → Nat} {sw : Nat → Nat → Nat} {sb : Nat → Nat → Int32} (h : MSen sf af ns sc sn sw sb) (h5 : s1 5 = sf 5) (h2 : a1 2 = af 2) (h3 : a1 3 = af 3) (h4 : a1 4 = af 4) (h6 : a1 5 = af 5) : MSen s1 a1 ns sc sn sw sb := by
  unfold MSen at h ⊢
  rw [h5, h2, h3, h4, h6]
  exact h
def MDra (sf : Nat → Int32) (af : Nat → Nat → Int32) (dl : Nat) (dw : Nat → Nat) : Prop := sf 1 = nI dl ∧ dl ≤ 8 ∧ ∀ j, j < dl → af 1 j = nI (dw j) ∧ dw j < 50
theorem MDra.t {sf s1 : Nat → Int32} {af a1 : Nat → Nat → Int32} {dl : Nat} {dw : Nat → Nat} (h : MDra sf af dl dw) (h5 : s1 1 = sf 1) (h2 : a1 1 = af 1) : MDra s1 a1 dl dw := by
  unfold MDra at h ⊢
  rw [h5, h2]
  exact h
/-- the row that is compared -/
def MRow (sf : Nat → Int32) (af : Nat → Nat → Int32) (n : Nat) (f : Nat → Int32) : Prop := sf 11 = nI n ∧ (0 < n ∧ n ≤ 8) ∧ ∀ j, j < n → af 22 j = f j
theorem MRow.t {sf s1 : Nat → Int32} {af a1 : Nat → Nat → Int32} {n : Nat} {f : Nat → Int32} (h : MRow sf af n f) (h5 : s1 11 = sf 11) (h2 : a1 22 = af 22) : MRow s1 a1 n f := by
  unfold MRow at h ⊢
  rw [h5, h2]
  exact h
def MPri (sf : Nat → Int32) (le pr ra : Int32) : Prop := sf 2 = le ∧ sf 3 = pr ∧ sf 4 = ra
theorem MPri.t {sf s1 : Nat → Int32} {le pr ra : Int32} (h : MPri sf le pr ra) (h2 : s1 2 = sf 2) (h3 : s1 3 = sf 3) (h4 : s1 4 = sf 4) : MPri s1 le pr ra := ⟨h2.trans h.1, h3.trans h.2.1, h4.trans h.2.2⟩
/-- the list, told by numbers, as a call of lists() leaves it -/
def lsF (P : Nat → Bool) (L : Nat → Int32) (c : Int32) : Nat → (Nat → Int32) × Int32
  | 0 => (L, c)
  | i + 1 => if P i = true then (if (lsF P L c i).1 i = 0 then (upd (lsF P L c i).1 i ((lsF P L c i).2 + 1), (lsF P L c i).2 + 1) else lsF P L c i) else (upd (lsF P L c i).1 i 0, (lsF P L c i).2)
section LSF
variable {P : Nat → Bool} {L : Nat → Int32} {c : Int32} {i : Nat}
theorem lsF_a (h : P i = true) (h2 : (lsF P L c i).1 i = 0) : lsF P L c (i + 1) = (upd (lsF P L c i).1 i ((lsF P L c i).2 + 1), (lsF P L c i).2 + 1) := by
  simp only [lsF]
  rw [if_pos h, if_pos h2]
theorem lsF_b (h : P i = true) (h2 : ¬ (lsF P L c i).1 i = 0) : lsF P L c (i + 1) = lsF P L c i := by
  simp only [lsF]
  rw [if_pos h, if_neg h2]
theorem lsF_c (h : ¬ P i = true) : lsF P L c (i + 1) = (upd (lsF P L c i).1 i 0, (lsF P L c i).2) := by
  simp only [lsF]
  rw [if_neg h]
end LSF
/-- how many are listed -/
def dnF (L : Nat → Int32) : Nat → Nat
  | 0 => 0
  | i + 1 => dnF L i + (if 0 < L i then 1 else 0)
theorem gt_of_nle {a b : Int32} (h : ¬ a ≤ b) : b < a := by
  rw [Int32.lt_iff_toInt_lt]
  rw [Int32.le_iff_toInt_le] at h
  omega
theorem ngt_of_le {a b : Int32} (h : a ≤ b) : ¬ b < a := by
  rw [Int32.lt_iff_toInt_lt]
  rw [Int32.le_iff_toInt_le] at h
  omega
theorem dnF_y {L : Nat → Int32} {i : Nat} (h : ¬ L i ≤ 0) : dnF L (i + 1) = dnF L i + 1 := by simp only [dnF]; rw [if_pos (gt_of_nle h)]
theorem dnF_n {L : Nat → Int32} {i : Nat} (h : L i ≤ 0) : dnF L (i + 1) = dnF L i := by simp only [dnF]; rw [if_neg (ngt_of_le h)]; rfl
set_option maxHeartbeats 4000000 in
set_option maxRecDepth 100000 in
/-- X8_isDueNow -/
theorem k_X8_isDueNow (l : Launch) (D : va_G) (ac : Nat → ClassId) (H : Heap) (A : Nat → Prop) (adr : Nat → Nat) (sf : Nat → Int32) (af : Nat → Nat → Int32) (hM : MW D A 24 adr (mw ac adr sf af) H) (fs fr : Nat → Int32) (hSy : SayR af fs fr) (ns : Nat) (sc sn : Nat → Nat) (sw : Nat → Nat → Nat) (sb : Nat → Nat → Int32) (hs : MSen sf af ns sc sn sw sb) (i : Nat) (hi : i < ns) : ROi l yX8_isDueNow wsX8_isDueNow ({ frames := 3, cells := 0, slots := 0, locals := 70 }) [.ref (adr 0), .int (nI i)] D ac H (fun r => r = if asB fr (sc i) (sn i) (sw i) (sb i) = true then 1 else 0) := by
  refine Met.ofW (cc := cX8_isDueNow) (maxL := 4) (ret := (some .boolean)) (by decide) rfl ?_
  intro p e s m args below meth c s₁ B hml hv
  obtain ⟨hargs, hsz, hK⟩ := hv
  have hx := B.exec
  have hb := B.bytes
  have hr := B.returns
  have hts := atoms_spec (ws := wsX8_isDueNow) B.pre
  have hown : s.vm.findClass RX8 = some m.cls := findClass_of_methodNamed B.named
  have hlocks := B.notSynchronized
  subst hsz
  have inX8_ : ∀ w ∈ wsX80, w ∈ wsX8_isDueNow := by decide +kernel
  have hS : va_S (fun _ => False) s.heap s.heap [] := va_S.rf
  have hl := lv_entry ([.ref (adr 0), .int (nI i)]) (n := 4) (Nat.le_of_ble_eq_true rfl)
  have hen := lg_entry_eq m [.ref (adr 0), .int (nI i)] 4
  rw [← hargs] at hen
  rw [hen]
  generalize (lg_sl ([.ref (adr 0), .int (nI i)]) ++ List.replicate (4 - (lg_sl ([.ref (adr 0), .int (nI i)])).length) Slot.unset).toArray = ls at hl ⊢
  have hl : lv_has ls 4 [(0, .ref (adr 0)), (1, .int (nI i))] := hl
  obtain ⟨Q0, hQ0⟩ : ∃ z, z = MQ below (va_Qi (fun r (_ : Unit) => (fun r => r = if asB fr (sc i) (sn i) (sw i) (sb i) = true then 1 else 0) r) (fun _ t => t.heap = s.heap) (fun _ => False)) args s 0 0 (fun _ => False) := ⟨_, rfl⟩
  rw [← hQ0]
  obtain ⟨q1_, q2_, ⟨q3_, q4_, q5_⟩, q6_⟩ := hs.2.2 i hi
  have q7_ := hs.2.1
  refine lv_iconst (v := 0) hx hb dX8_isDueNow_0 (by decide) ?_
  refine lv_istore_n (lv' := [(2, .int 0), (0, .ref (adr 0)), (1, .int (nI i))]) hx hb dX8_isDueNow_1 rfl hl (by decide) rfl (fun ls hl => ?_)
  refine lv_bipush (v := 8) hx hb dX8_isDueNow_2 (by decide) ?_
  refine lv_iload_n hx hb dX8_isDueNow_4 rfl (lv_at hl 2 rfl) ?_
  refine lv_imul hx hb dX8_isDueNow_5 ?_
  refine m_top (show (8 * (nI i)) = nI (8 * i) from by rw [show (8 : Int32) = nI 8 from rfl, pk_mul]) ?_
  refine lv_istore_n (lv' := [(3, .int (nI (8 * i))), (2, .int 0), (0, .ref (adr 0)), (1, .int (nI i))]) hx hb dX8_isDueNow_6 rfl hl (by decide) rfl (fun ls hl => ?_)
  have L7 : ∀ (k9 : Nat) (j : Nat) (hk : sn i - j < k9) (hj : j ≤ sn i) (locs : List Loc) (hS : va_S (fun _ => False) s.heap s.heap locs) (ls : Array Slot) (hl : lv_has ls 4 [(0, .ref (adr 0)), (1, .int (nI i)), (2, .int (if asB fr (sc i) j (sw i) (sb i) = true then 1 else 0)), (3, .int (nI (8 * i + j)))]), W p l e (headSpec wsX8_isDueNow ({ frames := 3, cells := 0, slots := 0, locals := 70 })).room s m args below meth c s.heap locs 0 0 Q0 (F0 m 7 ls []) := by
    intro k9
    induction k9 with
    | zero => intro j hk hj locs hS ls hl; exact absurd hk (Nat.not_lt_zero _)
    | succ k9 ih7 =>
      intro j hk hj locs hS ls hl
      refine lv_iload_n hx hb dX8_isDueNow_7 rfl (lv_at hl 3 rfl) ?_
      refine lv_bipush (v := 8) hx hb dX8_isDueNow_8 (by decide) ?_
      refine lv_iload_n hx hb dX8_isDueNow_10 rfl (lv_at hl 1 rfl) ?_
      refine lv_imul hx hb dX8_isDueNow_11 ?_
      refine m_top (show (8 * (nI i)) = nI (8 * i) from by rw [show (8 : Int32) = nI 8 from rfl, pk_mul]) ?_
      refine lv_aload_n hx hb dX8_isDueNow_12 rfl (lv_at hl 0 rfl) ?_
      refine m_get (ci := 8) (C := RX8) (T := TX8) (n := 35) (v := .ref (adr 3)) hx hb hts inX8_ hown hK rfl (hM.cel (by omega) (show (mw ac adr sf af) 0 = .inr (8, mfs adr sf) from rfl)) 8 (by decide) (hts _ (by decide +kernel)) rfl dX8_isDueNow_13 ?_
      refine lv_iload_n hx hb dX8_isDueNow_16 rfl (lv_at hl 1 rfl) ?_
      refine m_iald hx hb hK (hM.cel (by omega) (show (mw ac adr sf af) 3 = .inl (ac 0, 40, .inl (af 3)) from rfl)) (vp_in_nI (by omega) (by decide)) dX8_isDueNow_17 ?_
      refine m_top (show ((af 3) (nI i).toNatClampNeg) = nI (sn i) from by rw [nI_clamp (by omega)]; exact q2_) ?_
      refine lv_iadd hx hb dX8_isDueNow_18 ?_
      refine m_top (show ((nI (8 * i)) + (nI (sn i))) = nI (8 * i + sn i) from nI_add _ _) ?_
      refine lv_icmp_ge (tgt := 63) hx hb dX8_isDueNow_19 (by decide) (fun c19 => ?_) (fun c19 => ?_)
      · have e9 : sn i = j := by have := le_le c19 (by omega) (by omega); omega
        refine lv_iload_n hx hb dX8_isDueNow_63 rfl (lv_at hl 2 rfl) ?_
        rw [hQ0]
        exact e_z hx hb hlocks hr dX8_isDueNow_64 (by split <;> decide) hS (by rw [e9])
      · have hjn : j < sn i := by have := nle_lt c19 (by omega) (by omega); omega
        obtain ⟨u1_, u2_, u3_⟩ := q6_ j hjn
        refine lv_iload_n hx hb dX8_isDueNow_22 rfl (lv_at hl 2 rfl) ?_
        by_cases d23 : asB fr (sc i) j (sw i) (sb i) = true
        · refine m_top (show (if asB fr (sc i) j (sw i) (sb i) = true then 1 else 0) = (1 : Int32) from if_pos d23) ?_
          refine lv_if_ne (tgt := 51) hx hb dX8_isDueNow_23 (by decide) (fun c23 => ?_) (fun c23 => ?_)
          · refine lv_iconst (v := 1) hx hb dX8_isDueNow_51 (by decide) ?_
            refine lv_goto (tgt := 56) hx hb dX8_isDueNow_52 (by decide) ?_
            refine m_top (show (1 : Int32) = if asB fr (sc i) (j + 1) (sw i) (sb i) = true then 1 else 0 from by first | exact (if_pos (asB_T (Or.inl d23))).symm | exact (if_pos (asB_T (Or.inr d48))).symm | exact (if_neg (asB_F d23 d48)).symm) ?_
            refine lv_istore_n (lv' := [(2, .int (if asB fr (sc i) (j + 1) (sw i) (sb i) = true then 1 else 0)), (0, .ref (adr 0)), (1, .int (nI i)), (3, .int (nI (8 * i + j)))]) hx hb dX8_isDueNow_56 rfl hl (by decide) rfl (fun ls hl => ?_)
            refine lv_iinc (v := nI (8 * i + (j + 1))) (lv' := [(3, .int (nI (8 * i + (j + 1)))), (2, .int (if asB fr (sc i) (j + 1) (sw i) (sb i) = true then 1 else 0)), (0, .ref (adr 0)), (1, .int (nI i))]) hx hb dX8_isDueNow_57 hl (k := 3) rfl (nI_1 _) (by decide) rfl (fun ls hl => ?_)
            refine lv_goto (tgt := 7) hx hb dX8_isDueNow_60 (by decide) ?_
            exact ih7 (j + 1) (by omega) (by omega) _ hS ls (lv_sub hl [2, 3, 1, 0] rfl)
          · exact absurd c23 (by decide)
        · refine m_top (show (if asB fr (sc i) j (sw i) (sb i) = true then 1 else 0) = (0 : Int32) from if_neg d23) ?_
          refine lv_if_ne (tgt := 51) hx hb dX8_isDueNow_23 (by decide) (fun c23 => ?_) (fun c23 => ?_)
          · exact absurd c23 (by decide)
          · refine lv_aload_n hx hb dX8_isDueNow_26 rfl (lv_at hl 0 rfl) ?_
            refine lv_aload_n hx hb dX8_isDueNow_27 rfl (lv_at hl 0 rfl) ?_
            refine m_get (ci := 8) (C := RX8) (T := TX8) (n := 35) (v := .ref (adr 2)) hx hb hts inX8_ hown hK rfl (hM.cel (by omega) (show (mw ac adr sf af) 0 = .inr (8, mfs adr sf) from rfl)) 7 (by decide) (hts _ (by decide +kernel)) rfl dX8_isDueNow_28 ?_
            refine lv_iload_n hx hb dX8_isDueNow_31 rfl (lv_at hl 1 rfl) ?_
            refine m_iald hx hb hK (hM.cel (by omega) (show (mw ac adr sf af) 2 = .inl (ac 0, 40, .inl (af 2)) from rfl)) (vp_in_nI (by omega) (by decide)) dX8_isDueNow_32 ?_
            refine m_top (show ((af 2) (nI i).toNatClampNeg) = nI (sc i) from by rw [nI_clamp (by omega)]; exact q1_) ?_
            refine lv_aload_n hx hb dX8_isDueNow_33 rfl (lv_at hl 0 rfl) ?_
            refine m_get (ci := 8) (C := RX8) (T := TX8) (n := 35) (v := .ref (adr 4)) hx hb hts inX8_ hown hK rfl (hM.cel (by omega) (show (mw ac adr sf af) 0 = .inr (8, mfs adr sf) from rfl)) 9 (by decide) (hts _ (by decide +kernel)) rfl dX8_isDueNow_34 ?_
            refine lv_iload_n hx hb dX8_isDueNow_37 rfl (lv_at hl 3 rfl) ?_
            refine m_iald hx hb hK (hM.cel (by omega) (show (mw ac adr sf af) 4 = .inl (ac 0, 320, .inl (af 4)) from rfl)) (vp_in_nI (by omega) (by decide)) dX8_isDueNow_38 ?_
            refine m_top (show ((af 4) (nI (8 * i + j)).toNatClampNeg) = nI (sw i j) from by rw [nI_clamp (by omega)]; exact u1_) ?_
            refine lv_aload_n hx hb dX8_isDueNow_39 rfl (lv_at hl 0 rfl) ?_
            refine m_get (ci := 8) (C := RX8) (T := TX8) (n := 35) (v := .ref (adr 5)) hx hb hts inX8_ hown hK rfl (hM.cel (by omega) (show (mw ac adr sf af) 0 = .inr (8, mfs adr sf) from rfl)) 10 (by decide) (hts _ (by decide +kernel)) rfl dX8_isDueNow_40 ?_
            refine lv_iload_n hx hb dX8_isDueNow_43 rfl (lv_at hl 3 rfl) ?_
            refine m_iald hx hb hK (hM.cel (by omega) (show (mw ac adr sf af) 5 = .inl (ac 0, 320, .inl (af 5)) from rfl)) (vp_in_nI (by omega) (by decide)) dX8_isDueNow_44 ?_
            refine m_top (show ((af 5) (nI (8 * i + j)).toNatClampNeg) = sb i j from by rw [nI_clamp (by omega)]; exact u3_) ?_
            refine r_calli (va_runV (As := [.int (nI (sc i)), .int (nI (sw i j)), .int (sb i j)]) (rest := []) ⟨hx, hb, hml, hown, hts⟩ (k_X8_isAgainst l D ac _ A adr sf af hM fs fr (hSy.t rfl) (sc i) (sw i j) (by omega) (by omega) (sb i j)) (cwV 3 hts gX8_isDueNow_X8_isAgainst rfl rfl rfl (by decide +kernel) ⟨Nat.le_of_ble_eq_true rfl, Nat.le_of_ble_eq_true rfl⟩) (pV hK (ci := 8) rfl (hM.cel (by omega) (show (mw ac adr sf af) 0 = .inr (8, mfs adr sf) from rfl))) rfl rfl hl.1 rfl (lv_room (Nat.le_of_ble_eq_true rfl)) dX8_isDueNow_45 ⟨Nat.le_of_ble_eq_true rfl, Nat.le_of_ble_eq_true rfl⟩) hS (fun rv_1 locs hrv_1 hS => ?_)
            subst hrv_1
            by_cases d48 : ast fr (sc i) (sw i) (sb i) j
            · refine m_top (show (if ¬ fr ((sc i) * 50 + (sw i j)) = -1 ∧ ¬ fr ((sc i) * 50 + (sw i j)) = (sb i j) then 1 else 0) = (1 : Int32) from if_pos d48) ?_
              refine lv_if_eq (tgt := 55) hx hb dX8_isDueNow_48 (by decide) (fun c48 => ?_) (fun c48 => ?_)
              · exact absurd c48 (by decide)
              · refine lv_iconst (v := 1) hx hb dX8_isDueNow_51 (by decide) ?_
                refine lv_goto (tgt := 56) hx hb dX8_isDueNow_52 (by decide) ?_
                refine m_top (show (1 : Int32) = if asB fr (sc i) (j + 1) (sw i) (sb i) = true then 1 else 0 from by first | exact (if_pos (asB_T (Or.inl d23))).symm | exact (if_pos (asB_T (Or.inr d48))).symm | exact (if_neg (asB_F d23 d48)).symm) ?_
                refine lv_istore_n (lv' := [(2, .int (if asB fr (sc i) (j + 1) (sw i) (sb i) = true then 1 else 0)), (0, .ref (adr 0)), (1, .int (nI i)), (3, .int (nI (8 * i + j)))]) hx hb dX8_isDueNow_56 rfl hl (by decide) rfl (fun ls hl => ?_)
                refine lv_iinc (v := nI (8 * i + (j + 1))) (lv' := [(3, .int (nI (8 * i + (j + 1)))), (2, .int (if asB fr (sc i) (j + 1) (sw i) (sb i) = true then 1 else 0)), (0, .ref (adr 0)), (1, .int (nI i))]) hx hb dX8_isDueNow_57 hl (k := 3) rfl (nI_1 _) (by decide) rfl (fun ls hl => ?_)
                refine lv_goto (tgt := 7) hx hb dX8_isDueNow_60 (by decide) ?_
                exact ih7 (j + 1) (by omega) (by omega) _ hS ls (lv_sub hl [2, 3, 1, 0] rfl)
            · refine m_top (show (if ¬ fr ((sc i) * 50 + (sw i j)) = -1 ∧ ¬ fr ((sc i) * 50 + (sw i j)) = (sb i j) then 1 else 0) = (0 : Int32) from if_neg d48) ?_
              refine lv_if_eq (tgt := 55) hx hb dX8_isDueNow_48 (by decide) (fun c48 => ?_) (fun c48 => ?_)
              · refine lv_iconst (v := 0) hx hb dX8_isDueNow_55 (by decide) ?_
                refine m_top (show (0 : Int32) = if asB fr (sc i) (j + 1) (sw i) (sb i) = true then 1 else 0 from by first | exact (if_pos (asB_T (Or.inl d23))).symm | exact (if_pos (asB_T (Or.inr d48))).symm | exact (if_neg (asB_F d23 d48)).symm) ?_
                refine lv_istore_n (lv' := [(2, .int (if asB fr (sc i) (j + 1) (sw i) (sb i) = true then 1 else 0)), (0, .ref (adr 0)), (1, .int (nI i)), (3, .int (nI (8 * i + j)))]) hx hb dX8_isDueNow_56 rfl hl (by decide) rfl (fun ls hl => ?_)
                refine lv_iinc (v := nI (8 * i + (j + 1))) (lv' := [(3, .int (nI (8 * i + (j + 1)))), (2, .int (if asB fr (sc i) (j + 1) (sw i) (sb i) = true then 1 else 0)), (0, .ref (adr 0)), (1, .int (nI i))]) hx hb dX8_isDueNow_57 hl (k := 3) rfl (nI_1 _) (by decide) rfl (fun ls hl => ?_)
                refine lv_goto (tgt := 7) hx hb dX8_isDueNow_60 (by decide) ?_
                exact ih7 (j + 1) (by omega) (by omega) _ hS ls (lv_sub hl [2, 3, 1, 0] rfl)
              · exact absurd c48 (by decide)
  exact L7 _ 0 (Nat.lt_succ_self _) (Nat.zero_le _) _ hS ls (lv_sub hl [2, 3, 1, 0] rfl)
set_option maxHeartbeats 4000000 in
set_option maxRecDepth 100000 in
/-- X8_lists -/
theorem k_X8_lists (l : Launch) (D : va_G) (ac : Nat → ClassId) (H : Heap) (A : Nat → Prop) (adr : Nat → Nat) (sf : Nat → Int32) (af : Nat → Nat → Int32) (hM : MW D A 24 adr (mw ac adr sf af) H) (fs fr : Nat → Int32) (hSy : SayR af fs fr) (ns : Nat) (sc sn : Nat → Nat) (sw : Nat → Nat → Nat) (sb : Nat → Nat → Int32) (hs : MSen sf af ns sc sn sw sb) : WRv l yX8_lists wsX8_lists ({ frames := 4, cells := 0, slots := 0, locals := 93 }) [.ref (adr 0)] D ac H A 24 adr (fun w1 => w1 = mw ac adr (va_up sf 10 (lsF (fun i => asB fr (sc i) (sn i) (sw i) (sb i)) (af 19) (sf 10) ns).2) (va_up af 19 (lsF (fun i => asB fr (sc i) (sn i) (sw i) (sb i)) (af 19) (sf 10) ns).1)) := by
  refine Met.ofW (cc := cX8_lists) (maxL := 3) (ret := none) (by decide) rfl ?_
  intro p e s m args below meth c s₁ B hml hv
  obtain ⟨hargs, hsz, hK⟩ := hv
  have hx := B.exec
  have hb := B.bytes
  have hr := B.returns
  have hts := atoms_spec (ws := wsX8_lists) B.pre
  have hown : s.vm.findClass RX8 = some m.cls := findClass_of_methodNamed B.named
  have hlocks := B.notSynchronized
  subst hsz
  have inX8_ : ∀ w ∈ wsX80, w ∈ wsX8_lists := by decide +kernel
  have hS : va_S A s.heap s.heap [] := va_S.rf
  have hl := lv_entry ([.ref (adr 0)]) (n := 3) (Nat.le_of_ble_eq_true rfl)
  have hen := lg_entry_eq m [.ref (adr 0)] 3
  rw [← hargs] at hen
  rw [hen]
  generalize (lg_sl ([.ref (adr 0)]) ++ List.replicate (3 - (lg_sl ([.ref (adr 0)])).length) Slot.unset).toArray = ls at hl ⊢
  have hl : lv_has ls 3 [(0, .ref (adr 0))] := hl
  obtain ⟨Q0, hQ0⟩ : ∃ z, z = MQ below (va_Qv (fun w1 => w1 = mw ac adr (va_up sf 10 (lsF (fun i => asB fr (sc i) (sn i) (sw i) (sb i)) (af 19) (sf 10) ns).2) (va_up af 19 (lsF (fun i => asB fr (sc i) (sn i) (sw i) (sb i)) (af 19) (sf 10) ns).1)) (fun c t => MW D A 24 adr c t.heap) A) args s 0 0 A := ⟨_, rfl⟩
  rw [← hQ0]
  refine lv_iconst (v := 0) hx hb dX8_lists_0 (by decide) ?_
  refine lv_istore_n (lv' := [(1, .int 0), (0, .ref (adr 0))]) hx hb dX8_lists_1 rfl hl (by decide) rfl (fun ls hl => ?_)
  have L2 : ∀ (k9 : Nat) (i : Nat) (hk : ns - i < k9) (hi : i ≤ ns) (H : Heap) (locs : List Loc) (hM : MW D A 24 adr (mw ac adr (va_up sf 10 ((lsF (fun i => asB fr (sc i) (sn i) (sw i) (sb i)) (af 19) (sf 10) i).2)) (va_up af 19 ((lsF (fun i => asB fr (sc i) (sn i) (sw i) (sb i)) (af 19) (sf 10) i).1))) H) (hS : va_S A s.heap H locs) (ls : Array Slot) (hl : lv_has ls 3 [(0, .ref (adr 0)), (1, .int (nI i))]), W p l e (headSpec wsX8_lists ({ frames := 4, cells := 0, slots := 0, locals := 93 })).room s m args below meth c H locs 0 0 Q0 (F0 m 2 ls []) := by
    intro k9
    induction k9 with
    | zero => intro i hk hi H locs hM hS ls hl; exact absurd hk (Nat.not_lt_zero _)
    | succ k9 ih2 =>
      intro i hk hi H locs hM hS ls hl
      refine lv_iload_n hx hb dX8_lists_2 rfl (lv_at hl 1 rfl) ?_
      refine lv_aload_n hx hb dX8_lists_3 rfl (lv_at hl 0 rfl) ?_
      refine m_get (ci := 8) (C := RX8) (T := TX8) (n := 35) (v := .int (sf 5)) hx hb hts inX8_ hown hK rfl (hM.cel (by omega) (show (mw ac adr (va_up sf 10 ((lsF (fun i => asB fr (sc i) (sn i) (sw i) (sb i)) (af 19) (sf 10) i).2)) (va_up af 19 ((lsF (fun i => asB fr (sc i) (sn i) (sw i) (sb i)) (af 19) (sf 10) i).1))) 0 = .inr (8, mfs adr (va_up sf 10 ((lsF (fun i => asB fr (sc i) (sn i) (sw i) (sb i)) (af 19) (sf 10) i).2))) from rfl)) 6 (by decide) (hts _ (by decide +kernel)) rfl dX8_lists_4 ?_
      refine m_top (show (sf 5) = nI ns from hs.1) ?_
      refine lv_icmp_ge (tgt := 69) hx hb dX8_lists_7 (by decide) (fun c7 => ?_) (fun c7 => ?_)
      · have e9 : i = ns := by have := le_le c7 (by have := hs.2.1; omega) (by have := hs.2.1; omega); omega
        rw [hQ0]
        exact e_wv hx hb hlocks hr dX8_lists_69 hM hS (by rw [e9])
      · have hin : i < ns := nle_lt c7 (by have := hs.2.1; omega) (by have := hs.2.1; omega)
        have hns := hs.2.1
        refine lv_aload_n hx hb dX8_lists_10 rfl (lv_at hl 0 rfl) ?_
        refine lv_iload_n hx hb dX8_lists_11 rfl (lv_at hl 1 rfl) ?_
        refine r_calli (va_runV (As := [.int (nI i)]) (rest := []) ⟨hx, hb, hml, hown, hts⟩ (k_X8_isDueNow l D ac _ A adr (va_up sf 10 ((lsF (fun i => asB fr (sc i) (sn i) (sw i) (sb i)) (af 19) (sf 10) i).2)) (va_up af 19 ((lsF (fun i => asB fr (sc i) (sn i) (sw i) (sb i)) (af 19) (sf 10) i).1)) hM fs fr (hSy.t rfl) ns sc sn sw sb (hs.t rfl rfl rfl rfl rfl) i (by omega)) (cwV 1 hts gX8_lists_X8_isDueNow rfl rfl rfl (by decide +kernel) ⟨Nat.le_of_ble_eq_true rfl, Nat.le_of_ble_eq_true rfl⟩) (pV hK (ci := 8) rfl (hM.cel (by omega) (show (mw ac adr (va_up sf 10 ((lsF (fun i => asB fr (sc i) (sn i) (sw i) (sb i)) (af 19) (sf 10) i).2)) (va_up af 19 ((lsF (fun i => asB fr (sc i) (sn i) (sw i) (sb i)) (af 19) (sf 10) i).1))) 0 = .inr (8, mfs adr (va_up sf 10 ((lsF (fun i => asB fr (sc i) (sn i) (sw i) (sb i)) (af 19) (sf 10) i).2))) from rfl))) rfl rfl hl.1 rfl (lv_room (Nat.le_of_ble_eq_true rfl)) dX8_lists_12 ⟨Nat.le_of_ble_eq_true rfl, Nat.le_of_ble_eq_true rfl⟩) hS (fun rv_1 locs hrv_1 hS => ?_)
        subst hrv_1
        by_cases d17 : asB fr (sc i) (sn i) (sw i) (sb i) = true
        · refine m_top (show (if asB fr (sc i) (sn i) (sw i) (sb i) = true then 1 else 0) = (1 : Int32) from if_pos d17) ?_
          refine lv_istore_n (lv' := [(2, .int 1), (0, .ref (adr 0)), (1, .int (nI i))]) hx hb dX8_lists_15 rfl hl (by decide) rfl (fun ls hl => ?_)
          refine lv_iload_n hx hb dX8_lists_16 rfl (lv_at hl 0 rfl) ?_
          refine lv_if_eq (tgt := 52) hx hb dX8_lists_17 (by decide) (fun c17 => ?_) (fun c17 => ?_)
          · exact absurd c17 (by decide)
          · refine lv_aload_n hx hb dX8_lists_20 rfl (lv_at hl 1 rfl) ?_
            refine m_get (ci := 8) (C := RX8) (T := TX8) (n := 35) (v := .ref (adr 19)) hx hb hts inX8_ hown hK rfl (hM.cel (by omega) (show (mw ac adr (va_up sf 10 ((lsF (fun i => asB fr (sc i) (sn i) (sw i) (sb i)) (af 19) (sf 10) i).2)) (va_up af 19 ((lsF (fun i => asB fr (sc i) (sn i) (sw i) (sb i)) (af 19) (sf 10) i).1))) 0 = .inr (8, mfs adr (va_up sf 10 ((lsF (fun i => asB fr (sc i) (sn i) (sw i) (sb i)) (af 19) (sf 10) i).2))) from rfl)) 28 (by decide) (hts _ (by decide +kernel)) rfl dX8_lists_21 ?_
            refine lv_iload_n hx hb dX8_lists_24 rfl (lv_at hl 2 rfl) ?_
            refine m_iald hx hb hK (hM.cel (by omega) (show (mw ac adr (va_up sf 10 ((lsF (fun i => asB fr (sc i) (sn i) (sw i) (sb i)) (af 19) (sf 10) i).2)) (va_up af 19 ((lsF (fun i => asB fr (sc i) (sn i) (sw i) (sb i)) (af 19) (sf 10) i).1))) 19 = .inl (ac 0, 40, .inl ((lsF (fun i => asB fr (sc i) (sn i) (sw i) (sb i)) (af 19) (sf 10) i).1)) from rfl)) (vp_in_nI (by omega) (by decide)) dX8_lists_25 ?_
            refine m_top (show (((lsF (fun i => asB fr (sc i) (sn i) (sw i) (sb i)) (af 19) (sf 10) i).1) (nI i).toNatClampNeg) = (lsF (fun i => asB fr (sc i) (sn i) (sw i) (sb i)) (af 19) (sf 10) i).1 i from by rw [nI_clamp (by omega)]) ?_
            refine lv_if_ne (tgt := 52) hx hb dX8_lists_26 (by decide) (fun c26 => ?_) (fun c26 => ?_)
            · refine lv_iload_n hx hb dX8_lists_52 rfl (lv_at hl 0 rfl) ?_
              refine lv_if_ne (tgt := 63) hx hb dX8_lists_53 (by decide) (fun c53 => ?_) (fun c53 => ?_)
              · have hM := MW.cg (s1 := (va_up sf 10 ((lsF (fun i => asB fr (sc i) (sn i) (sw i) (sb i)) (af 19) (sf 10) (i + 1)).2))) (a1 := (va_up af 19 ((lsF (fun i => asB fr (sc i) (sn i) (sw i) (sb i)) (af 19) (sf 10) (i + 1)).1))) hM (fun j9 => if q0_ : j9 = 10 then (by subst q0_; show (lsF (fun i => asB fr (sc i) (sn i) (sw i) (sb i)) (af 19) (sf 10) (i + 1)).2 = (lsF (fun i => asB fr (sc i) (sn i) (sw i) (sb i)) (af 19) (sf 10) i).2; exact (by rw [lsF_b d17 c26])) else (by first | rfl | simp only [va_up, if_neg q0_])) (fun j9 => if q0_ : j9 = 19 then (by subst q0_; show (lsF (fun i => asB fr (sc i) (sn i) (sw i) (sb i)) (af 19) (sf 10) (i + 1)).1 = (lsF (fun i => asB fr (sc i) (sn i) (sw i) (sb i)) (af 19) (sf 10) i).1; exact (by rw [lsF_b d17 c26])) else (by first | rfl | simp only [va_up, if_neg q0_]))
                refine lv_iinc (v := nI (i + 1)) (lv' := [(1, .int (nI (i + 1))), (2, .int 1), (0, .ref (adr 0))]) hx hb dX8_lists_63 hl (k := 2) rfl (nI_1 _) (by decide) rfl (fun ls hl => ?_)
                refine lv_goto (tgt := 2) hx hb dX8_lists_66 (by decide) ?_
                exact ih2 (i + 1) (by omega) (by omega) _ _ (MW.cg hM (fun j9 => if q0_ : j9 = 10 then (by subst q0_; rfl) else (by first | rfl | simp only [va_up, if_neg q0_])) (fun j9 => if q0_ : j9 = 19 then (by subst q0_; rfl) else (by first | rfl | simp only [va_up, if_neg q0_]))) hS ls (lv_sub hl [2, 0] rfl)
              · exact absurd c53 (by decide)
            · refine lv_aload_n hx hb dX8_lists_29 rfl (lv_at hl 1 rfl) ?_
              refine lv_dup hx hb dX8_lists_30 rfl ?_
              refine m_get (ci := 8) (C := RX8) (T := TX8) (n := 35) (v := .int ((lsF (fun i => asB fr (sc i) (sn i) (sw i) (sb i)) (af 19) (sf 10) i).2)) hx hb hts inX8_ hown hK rfl (hM.cel (by omega) (show (mw ac adr (va_up sf 10 ((lsF (fun i => asB fr (sc i) (sn i) (sw i) (sb i)) (af 19) (sf 10) i).2)) (va_up af 19 ((lsF (fun i => asB fr (sc i) (sn i) (sw i) (sb i)) (af 19) (sf 10) i).1))) 0 = .inr (8, mfs adr (va_up sf 10 ((lsF (fun i => asB fr (sc i) (sn i) (sw i) (sb i)) (af 19) (sf 10) i).2))) from rfl)) 29 (by decide) (hts _ (by decide +kernel)) rfl dX8_lists_31 ?_
              refine lv_iconst (v := 1) hx hb dX8_lists_34 (by decide) ?_
              refine lv_iadd hx hb dX8_lists_35 ?_
              refine m_put (ci := 8) (C := RX8) (T := TX8) (n := 35) (v := .int (((lsF (fun i => asB fr (sc i) (sn i) (sw i) (sb i)) (af 19) (sf 10) i).2) + 1)) (ty := tyX8 29) hx hb hts inX8_ tyX8 tyX8_ok nmX8 hown hK hM hS rfl 0 (by omega) (show (mw ac adr (va_up sf 10 ((lsF (fun i => asB fr (sc i) (sn i) (sw i) (sb i)) (af 19) (sf 10) i).2)) (va_up af 19 ((lsF (fun i => asB fr (sc i) (sn i) (sw i) (sb i)) (af 19) (sf 10) i).1))) 0 = .inr (8, mfs adr (va_up sf 10 ((lsF (fun i => asB fr (sc i) (sn i) (sw i) (sb i)) (af 19) (sf 10) i).2))) from rfl) 29 (by decide) (hts _ (by decide +kernel)) rfl (by decide +kernel) rfl rfl (Nat.le_of_ble_eq_true rfl) dX8_lists_36 (fun H locs hM hS => ?_)
              have hM : MW D A 24 adr (va_up (mw ac adr (va_up sf 10 ((lsF (fun i => asB fr (sc i) (sn i) (sw i) (sb i)) (af 19) (sf 10) i).2)) (va_up af 19 ((lsF (fun i => asB fr (sc i) (sn i) (sw i) (sb i)) (af 19) (sf 10) i).1))) 0 (.inr (8, mfs adr (va_up sf 10 (((lsF (fun i => asB fr (sc i) (sn i) (sw i) (sb i)) (af 19) (sf 10) i).2) + 1))))) H := hM
              have hM := MW.mobj (s1 := (va_up sf 10 (((lsF (fun i => asB fr (sc i) (sn i) (sw i) (sb i)) (af 19) (sf 10) i).2) + 1))) hM rfl
              refine lv_aload_n hx hb dX8_lists_39 rfl (lv_at hl 1 rfl) ?_
              refine m_get (ci := 8) (C := RX8) (T := TX8) (n := 35) (v := .ref (adr 19)) hx hb hts inX8_ hown hK rfl (hM.cel (by omega) (show (mw ac adr (va_up sf 10 (((lsF (fun i => asB fr (sc i) (sn i) (sw i) (sb i)) (af 19) (sf 10) i).2) + 1)) (va_up af 19 ((lsF (fun i => asB fr (sc i) (sn i) (sw i) (sb i)) (af 19) (sf 10) i).1))) 0 = .inr (8, mfs adr (va_up sf 10 (((lsF (fun i => asB fr (sc i) (sn i) (sw i) (sb i)) (af 19) (sf 10) i).2) + 1))) from rfl)) 28 (by decide) (hts _ (by decide +kernel)) rfl dX8_lists_40 ?_
              refine lv_iload_n hx hb dX8_lists_43 rfl (lv_at hl 2 rfl) ?_
              refine lv_aload_n hx hb dX8_lists_44 rfl (lv_at hl 1 rfl) ?_
              refine m_get (ci := 8) (C := RX8) (T := TX8) (n := 35) (v := .int (((lsF (fun i => asB fr (sc i) (sn i) (sw i) (sb i)) (af 19) (sf 10) i).2) + 1)) hx hb hts inX8_ hown hK rfl (hM.cel (by omega) (show (mw ac adr (va_up sf 10 (((lsF (fun i => asB fr (sc i) (sn i) (sw i) (sb i)) (af 19) (sf 10) i).2) + 1)) (va_up af 19 ((lsF (fun i => asB fr (sc i) (sn i) (sw i) (sb i)) (af 19) (sf 10) i).1))) 0 = .inr (8, mfs adr (va_up sf 10 (((lsF (fun i => asB fr (sc i) (sn i) (sw i) (sb i)) (af 19) (sf 10) i).2) + 1))) from rfl)) 29 (by decide) (hts _ (by decide +kernel)) rfl dX8_lists_45 ?_
              refine m_iast hx hb hK hM hS 19 (by omega) (show (mw ac adr (va_up sf 10 (((lsF (fun i => asB fr (sc i) (sn i) (sw i) (sb i)) (af 19) (sf 10) i).2) + 1)) (va_up af 19 ((lsF (fun i => asB fr (sc i) (sn i) (sw i) (sb i)) (af 19) (sf 10) i).1))) 19 = .inl (ac 0, 40, .inl ((lsF (fun i => asB fr (sc i) (sn i) (sw i) (sb i)) (af 19) (sf 10) i).1)) from rfl) (vp_in_nI (by omega) (by decide)) dX8_lists_48 (fun H locs hM hS => ?_)
              have ef_ : (upd ((lsF (fun i => asB fr (sc i) (sn i) (sw i) (sb i)) (af 19) (sf 10) i).1) (nI i).toNatClampNeg (((lsF (fun i => asB fr (sc i) (sn i) (sw i) (sb i)) (af 19) (sf 10) i).2) + 1)) = upd ((lsF (fun i => asB fr (sc i) (sn i) (sw i) (sb i)) (af 19) (sf 10) i).1) i (((lsF (fun i => asB fr (sc i) (sn i) (sw i) (sb i)) (af 19) (sf 10) i).2) + 1) := by rw [nI_clamp (by omega)]
              rw [ef_] at hM
              clear ef_
              have hM := MW.marr (a1 := (va_up af 19 (upd ((lsF (fun i => asB fr (sc i) (sn i) (sw i) (sb i)) (af 19) (sf 10) i).1) i (((lsF (fun i => asB fr (sc i) (sn i) (sw i) (sb i)) (af 19) (sf 10) i).2) + 1)))) hM (by decide) rfl rfl (fun j9 hj9 => by simp only [va_up, if_neg hj9])
              refine lv_goto (tgt := 63) hx hb dX8_lists_49 (by decide) ?_
              have hM := MW.cg (s1 := (va_up sf 10 ((lsF (fun i => asB fr (sc i) (sn i) (sw i) (sb i)) (af 19) (sf 10) (i + 1)).2))) (a1 := (va_up af 19 ((lsF (fun i => asB fr (sc i) (sn i) (sw i) (sb i)) (af 19) (sf 10) (i + 1)).1))) hM (fun j9 => if q0_ : j9 = 10 then (by subst q0_; show (lsF (fun i => asB fr (sc i) (sn i) (sw i) (sb i)) (af 19) (sf 10) (i + 1)).2 = ((lsF (fun i => asB fr (sc i) (sn i) (sw i) (sb i)) (af 19) (sf 10) i).2) + 1; exact (by rw [lsF_a d17 c26])) else (by first | rfl | simp only [va_up, if_neg q0_])) (fun j9 => if q0_ : j9 = 19 then (by subst q0_; show (lsF (fun i => asB fr (sc i) (sn i) (sw i) (sb i)) (af 19) (sf 10) (i + 1)).1 = upd ((lsF (fun i => asB fr (sc i) (sn i) (sw i) (sb i)) (af 19) (sf 10) i).1) i (((lsF (fun i => asB fr (sc i) (sn i) (sw i) (sb i)) (af 19) (sf 10) i).2) + 1); exact (by rw [lsF_a d17 c26])) else (by first | rfl | simp only [va_up, if_neg q0_]))
              refine lv_iinc (v := nI (i + 1)) (lv' := [(1, .int (nI (i + 1))), (2, .int 1), (0, .ref (adr 0))]) hx hb dX8_lists_63 hl (k := 2) rfl (nI_1 _) (by decide) rfl (fun ls hl => ?_)
              refine lv_goto (tgt := 2) hx hb dX8_lists_66 (by decide) ?_
              exact ih2 (i + 1) (by omega) (by omega) _ _ (MW.cg hM (fun j9 => if q0_ : j9 = 10 then (by subst q0_; rfl) else (by first | rfl | simp only [va_up, if_neg q0_])) (fun j9 => if q0_ : j9 = 19 then (by subst q0_; rfl) else (by first | rfl | simp only [va_up, if_neg q0_]))) hS ls (lv_sub hl [2, 0] rfl)
        · refine m_top (show (if asB fr (sc i) (sn i) (sw i) (sb i) = true then 1 else 0) = (0 : Int32) from if_neg d17) ?_
          refine lv_istore_n (lv' := [(2, .int 0), (0, .ref (adr 0)), (1, .int (nI i))]) hx hb dX8_lists_15 rfl hl (by decide) rfl (fun ls hl => ?_)
          refine lv_iload_n hx hb dX8_lists_16 rfl (lv_at hl 0 rfl) ?_
          refine lv_if_eq (tgt := 52) hx hb dX8_lists_17 (by decide) (fun c17 => ?_) (fun c17 => ?_)
          · refine lv_iload_n hx hb dX8_lists_52 rfl (lv_at hl 0 rfl) ?_
            refine lv_if_ne (tgt := 63) hx hb dX8_lists_53 (by decide) (fun c53 => ?_) (fun c53 => ?_)
            · exact absurd c53 (by decide)
            · refine lv_aload_n hx hb dX8_lists_56 rfl (lv_at hl 1 rfl) ?_
              refine m_get (ci := 8) (C := RX8) (T := TX8) (n := 35) (v := .ref (adr 19)) hx hb hts inX8_ hown hK rfl (hM.cel (by omega) (show (mw ac adr (va_up sf 10 ((lsF (fun i => asB fr (sc i) (sn i) (sw i) (sb i)) (af 19) (sf 10) i).2)) (va_up af 19 ((lsF (fun i => asB fr (sc i) (sn i) (sw i) (sb i)) (af 19) (sf 10) i).1))) 0 = .inr (8, mfs adr (va_up sf 10 ((lsF (fun i => asB fr (sc i) (sn i) (sw i) (sb i)) (af 19) (sf 10) i).2))) from rfl)) 28 (by decide) (hts _ (by decide +kernel)) rfl dX8_lists_57 ?_
              refine lv_iload_n hx hb dX8_lists_60 rfl (lv_at hl 2 rfl) ?_
              refine lv_iconst (v := 0) hx hb dX8_lists_61 (by decide) ?_
              refine m_iast hx hb hK hM hS 19 (by omega) (show (mw ac adr (va_up sf 10 ((lsF (fun i => asB fr (sc i) (sn i) (sw i) (sb i)) (af 19) (sf 10) i).2)) (va_up af 19 ((lsF (fun i => asB fr (sc i) (sn i) (sw i) (sb i)) (af 19) (sf 10) i).1))) 19 = .inl (ac 0, 40, .inl ((lsF (fun i => asB fr (sc i) (sn i) (sw i) (sb i)) (af 19) (sf 10) i).1)) from rfl) (vp_in_nI (by omega) (by decide)) dX8_lists_62 (fun H locs hM hS => ?_)
              have ef_ : (upd ((lsF (fun i => asB fr (sc i) (sn i) (sw i) (sb i)) (af 19) (sf 10) i).1) (nI i).toNatClampNeg 0) = upd ((lsF (fun i => asB fr (sc i) (sn i) (sw i) (sb i)) (af 19) (sf 10) i).1) i 0 := by rw [nI_clamp (by omega)]
              rw [ef_] at hM
              clear ef_
              have hM := MW.marr (a1 := (va_up af 19 (upd ((lsF (fun i => asB fr (sc i) (sn i) (sw i) (sb i)) (af 19) (sf 10) i).1) i 0))) hM (by decide) rfl rfl (fun j9 hj9 => by simp only [va_up, if_neg hj9])
              have hM := MW.cg (s1 := (va_up sf 10 ((lsF (fun i => asB fr (sc i) (sn i) (sw i) (sb i)) (af 19) (sf 10) (i + 1)).2))) (a1 := (va_up af 19 ((lsF (fun i => asB fr (sc i) (sn i) (sw i) (sb i)) (af 19) (sf 10) (i + 1)).1))) hM (fun j9 => if q0_ : j9 = 10 then (by subst q0_; show (lsF (fun i => asB fr (sc i) (sn i) (sw i) (sb i)) (af 19) (sf 10) (i + 1)).2 = (lsF (fun i => asB fr (sc i) (sn i) (sw i) (sb i)) (af 19) (sf 10) i).2; exact (by rw [lsF_c d17])) else (by first | rfl | simp only [va_up, if_neg q0_])) (fun j9 => if q0_ : j9 = 19 then (by subst q0_; show (lsF (fun i => asB fr (sc i) (sn i) (sw i) (sb i)) (af 19) (sf 10) (i + 1)).1 = upd ((lsF (fun i => asB fr (sc i) (sn i) (sw i) (sb i)) (af 19) (sf 10) i).1) i 0; exact (by rw [lsF_c d17])) else (by first | rfl | simp only [va_up, if_neg q0_]))
              refine lv_iinc (v := nI (i + 1)) (lv' := [(1, .int (nI (i + 1))), (2, .int 0), (0, .ref (adr 0))]) hx hb dX8_lists_63 hl (k := 2) rfl (nI_1 _) (by decide) rfl (fun ls hl => ?_)
              refine lv_goto (tgt := 2) hx hb dX8_lists_66 (by decide) ?_
              exact ih2 (i + 1) (by omega) (by omega) _ _ (MW.cg hM (fun j9 => if q0_ : j9 = 10 then (by subst q0_; rfl) else (by first | rfl | simp only [va_up, if_neg q0_])) (fun j9 => if q0_ : j9 = 19 then (by subst q0_; rfl) else (by first | rfl | simp only [va_up, if_neg q0_]))) hS ls (lv_sub hl [2, 0] rfl)
          · exact absurd c17 (by decide)
  exact L2 _ 0 (Nat.lt_succ_self _) (Nat.zero_le _) _ _ (MW.cg hM (fun j9 => if q0_ : j9 = 10 then (by subst q0_; rfl) else (by first | rfl | simp only [va_up, if_neg q0_])) (fun j9 => if q0_ : j9 = 19 then (by subst q0_; rfl) else (by first | rfl | simp only [va_up, if_neg q0_]))) hS ls (lv_sub hl [1, 0] rfl)
set_option maxHeartbeats 4000000 in
set_option maxRecDepth 100000 in
/-- X8_dueNow -/
theorem k_X8_dueNow (l : Launch) (D : va_G) (ac : Nat → ClassId) (H : Heap) (A : Nat → Prop) (adr : Nat → Nat) (sf : Nat → Int32) (af : Nat → Nat → Int32) (hM : MW D A 24 adr (mw ac adr sf af) H) (ns : Nat) (hn : sf 5 = nI ns) (hns : ns ≤ 40) : ROi l yX8_dueNow wsX8_dueNow ({ frames := 0, cells := 0, slots := 0, locals := 0 }) [.ref (adr 0)] D ac H (fun r => r = nI (dnF (af 19) ns)) := by
  refine Met.ofW (cc := cX8_dueNow) (maxL := 3) (ret := (some .int)) (by decide) rfl ?_
  intro p e s m args below meth c s₁ B hml hv
  obtain ⟨hargs, hsz, hK⟩ := hv
  have hx := B.exec
  have hb := B.bytes
  have hr := B.returns
  have hts := atoms_spec (ws := wsX8_dueNow) B.pre
  have hown : s.vm.findClass RX8 = some m.cls := findClass_of_methodNamed B.named
  have hlocks := B.notSynchronized
  subst hsz
  have inX8_ : ∀ w ∈ wsX80, w ∈ wsX8_dueNow := by decide +kernel
  have hS : va_S (fun _ => False) s.heap s.heap [] := va_S.rf
  have hl := lv_entry ([.ref (adr 0)]) (n := 3) (Nat.le_of_ble_eq_true rfl)
  have hen := lg_entry_eq m [.ref (adr 0)] 3
  rw [← hargs] at hen
  rw [hen]
  generalize (lg_sl ([.ref (adr 0)]) ++ List.replicate (3 - (lg_sl ([.ref (adr 0)])).length) Slot.unset).toArray = ls at hl ⊢
  have hl : lv_has ls 3 [(0, .ref (adr 0))] := hl
  obtain ⟨Q0, hQ0⟩ : ∃ z, z = MQ below (va_Qi (fun r (_ : Unit) => (fun r => r = nI (dnF (af 19) ns)) r) (fun _ t => t.heap = s.heap) (fun _ => False)) args s 0 0 (fun _ => False) := ⟨_, rfl⟩
  rw [← hQ0]
  refine lv_iconst (v := 0) hx hb dX8_dueNow_0 (by decide) ?_
  refine lv_istore_n (lv' := [(1, .int 0), (0, .ref (adr 0))]) hx hb dX8_dueNow_1 rfl hl (by decide) rfl (fun ls hl => ?_)
  refine lv_iconst (v := 0) hx hb dX8_dueNow_2 (by decide) ?_
  refine lv_istore_n (lv' := [(2, .int 0), (1, .int 0), (0, .ref (adr 0))]) hx hb dX8_dueNow_3 rfl hl (by decide) rfl (fun ls hl => ?_)
  have L4 : ∀ (k9 : Nat) (i : Nat) (hk : ns - i < k9) (hi : i ≤ ns) (locs : List Loc) (hS : va_S (fun _ => False) s.heap s.heap locs) (ls : Array Slot) (hl : lv_has ls 3 [(0, .ref (adr 0)), (1, .int (nI (dnF (af 19) i))), (2, .int (nI i))]), W p l e (headSpec wsX8_dueNow ({ frames := 0, cells := 0, slots := 0, locals := 0 })).room s m args below meth c s.heap locs 0 0 Q0 (F0 m 4 ls []) := by
    intro k9
    induction k9 with
    | zero => intro i hk hi locs hS ls hl; exact absurd hk (Nat.not_lt_zero _)
    | succ k9 ih4 =>
      intro i hk hi locs hS ls hl
      refine lv_iload_n hx hb dX8_dueNow_4 rfl (lv_at hl 2 rfl) ?_
      refine lv_aload_n hx hb dX8_dueNow_5 rfl (lv_at hl 0 rfl) ?_
      refine m_get (ci := 8) (C := RX8) (T := TX8) (n := 35) (v := .int (sf 5)) hx hb hts inX8_ hown hK rfl (hM.cel (by omega) (show (mw ac adr sf af) 0 = .inr (8, mfs adr sf) from rfl)) 6 (by decide) (hts _ (by decide +kernel)) rfl dX8_dueNow_6 ?_
      refine m_top (show (sf 5) = nI ns from hn) ?_
      refine lv_icmp_ge (tgt := 35) hx hb dX8_dueNow_9 (by decide) (fun c9 => ?_) (fun c9 => ?_)
      · have e9 : i = ns := by have := le_le c9 (by omega) (by omega); omega
        refine lv_iload_n hx hb dX8_dueNow_35 rfl (lv_at hl 1 rfl) ?_
        rw [hQ0]
        exact e_i hx hb hlocks hr dX8_dueNow_36 hS (by rw [e9])
      · have hin : i < ns := nle_lt c9 (by omega) (by omega)
        refine lv_iload_n hx hb dX8_dueNow_12 rfl (lv_at hl 1 rfl) ?_
        refine lv_aload_n hx hb dX8_dueNow_13 rfl (lv_at hl 0 rfl) ?_
        refine m_get (ci := 8) (C := RX8) (T := TX8) (n := 35) (v := .ref (adr 19)) hx hb hts inX8_ hown hK rfl (hM.cel (by omega) (show (mw ac adr sf af) 0 = .inr (8, mfs adr sf) from rfl)) 28 (by decide) (hts _ (by decide +kernel)) rfl dX8_dueNow_14 ?_
        refine lv_iload_n hx hb dX8_dueNow_17 rfl (lv_at hl 2 rfl) ?_
        refine m_iald hx hb hK (hM.cel (by omega) (show (mw ac adr sf af) 19 = .inl (ac 0, 40, .inl (af 19)) from rfl)) (vp_in_nI (by omega) (by decide)) dX8_dueNow_18 ?_
        refine m_top (show ((af 19) (nI i).toNatClampNeg) = af 19 i from by rw [nI_clamp (by omega)]) ?_
        refine lv_if_le (tgt := 26) hx hb dX8_dueNow_19 (by decide) (fun c19 => ?_) (fun c19 => ?_)
        · refine lv_iconst (v := 0) hx hb dX8_dueNow_26 (by decide) ?_
          refine lv_iadd hx hb dX8_dueNow_27 ?_
          refine m_top (show ((nI (dnF (af 19) i)) + 0) = nI (dnF (af 19) (i + 1)) from by first | (rw [dnF_y c19]; exact nI_1 _) | (rw [dnF_n c19]; exact Int32.add_zero _)) ?_
          refine lv_istore_n (lv' := [(1, .int (nI (dnF (af 19) (i + 1)))), (0, .ref (adr 0)), (2, .int (nI i))]) hx hb dX8_dueNow_28 rfl hl (by decide) rfl (fun ls hl => ?_)
          refine lv_iinc (v := nI (i + 1)) (lv' := [(2, .int (nI (i + 1))), (1, .int (nI (dnF (af 19) (i + 1)))), (0, .ref (adr 0))]) hx hb dX8_dueNow_29 hl (k := 2) rfl (nI_1 _) (by decide) rfl (fun ls hl => ?_)
          refine lv_goto (tgt := 4) hx hb dX8_dueNow_32 (by decide) ?_
          exact ih4 (i + 1) (by omega) (by omega) _ hS ls (lv_sub hl [2, 1, 0] rfl)
        · refine lv_iconst (v := 1) hx hb dX8_dueNow_22 (by decide) ?_
          refine lv_goto (tgt := 27) hx hb dX8_dueNow_23 (by decide) ?_
          refine lv_iadd hx hb dX8_dueNow_27 ?_
          refine m_top (show ((nI (dnF (af 19) i)) + 1) = nI (dnF (af 19) (i + 1)) from by first | (rw [dnF_y c19]; exact nI_1 _) | (rw [dnF_n c19]; exact Int32.add_zero _)) ?_
          refine lv_istore_n (lv' := [(1, .int (nI (dnF (af 19) (i + 1)))), (0, .ref (adr 0)), (2, .int (nI i))]) hx hb dX8_dueNow_28 rfl hl (by decide) rfl (fun ls hl => ?_)
          refine lv_iinc (v := nI (i + 1)) (lv' := [(2, .int (nI (i + 1))), (1, .int (nI (dnF (af 19) (i + 1)))), (0, .ref (adr 0))]) hx hb dX8_dueNow_29 hl (k := 2) rfl (nI_1 _) (by decide) rfl (fun ls hl => ?_)
          refine lv_goto (tgt := 4) hx hb dX8_dueNow_32 (by decide) ?_
          exact ih4 (i + 1) (by omega) (by omega) _ hS ls (lv_sub hl [2, 1, 0] rfl)
  exact L4 _ 0 (Nat.lt_succ_self _) (Nat.zero_le _) _ hS ls (lv_sub hl [2, 1, 0] rfl)
