theorem opn_le {f : Nat → Int32} : ∀ n, opn f n ≤ n := by
  intro n
  induction n with
  | zero => exact Nat.le_refl _
  | succ n ih => simp only [opn]; split <;> omega
theorem msub {m : Nat} (h : 0 < m) : nI m - 1 = nI (m - 1) := pk_sub (a := m) (b := 1) h
theorem mdec {x : Int32} : x + Int32.ofInt (-1) = x - 1 := by
  rw [Int32.sub_eq_add_neg]
  rfl
theorem msub_0 {m : Nat} (hm : m < 2 ^ 31) (h : nI m - 1 < 0) : m = 0 := by
  rcases Nat.eq_zero_or_pos m with e | e
  · exact e
  · rw [msub e] at h
    exact absurd h (nI_pos (by omega))
theorem msub_p {m : Nat} (h : ¬ nI m - 1 < 0) : 0 < m := by
  rcases Nat.eq_zero_or_pos m with e | e
  · subst e; exact absurd (by decide) h
  · exact e
/-- the first place from m on with Q -/
def HnP (Q : Nat → Prop) (m n : Nat) (r : Int32) : Prop := (∃ i, m ≤ i ∧ i < n ∧ r = nI i ∧ Q i ∧ ∀ j, m ≤ j → j < i → ¬ Q j) ∨ (r = -1 ∧ ∀ j, m ≤ j → j < n → ¬ Q j)
theorem HnP.z {Q : Nat → Prop} {n : Nat} : HnP Q n n (-1) := Or.inr ⟨rfl, fun j h1 h2 => by omega⟩
theorem HnP.y {Q : Nat → Prop} {m n : Nat} (h0 : 0 < m) (hm : m ≤ n) (q : Q (m - 1)) : HnP Q (m - 1) n (nI (m - 1)) := Or.inl ⟨m - 1, Nat.le_refl _, by omega, rfl, q, fun j h1 h2 => by omega⟩
theorem HnP.n {Q : Nat → Prop} {m n : Nat} {r : Int32} (h0 : 0 < m) (h : HnP Q m n r) (q : ¬ Q (m - 1)) : HnP Q (m - 1) n r := by
  rcases h with ⟨i, q1, q2, q3, q4, q5⟩ | ⟨q1, q2⟩
  · refine Or.inl ⟨i, by omega, q2, q3, q4, fun j h1 h2 => ?_⟩
    rcases Nat.lt_or_ge j m with z | z
    · rw [show j = m - 1 by omega]; exact q
    · exact q5 j z h2
  · refine Or.inr ⟨q1, fun j h1 h2 => ?_⟩
    rcases Nat.lt_or_ge j m with z | z
    · rw [show j = m - 1 by omega]; exact q
    · exact q2 j z h2
/-- what keeps an order from being delivered, at a place -/
def hnQ (b : Int32) (n : Nat) (fr : Nat → Int32) (cl : Nat) (wd : Nat → Nat) (bf : Nat → Int32) (j : Nat) : Prop := (¬ opn bf n = 0 ∧ bf j = -1) ∨ (opn bf n = 0 ∧ b = 0 ∧ ast fr cl wd bf j)
theorem hn_whe {b : Int32} {n : Nat} {fr : Nat → Int32} {cl : Nat} {wd : Nat → Nat} {bf : Nat → Int32} {r : Int32} (h : HnP (hnQ b n fr cl wd bf) 0 n r) : WheP b n fr cl wd bf r := by
  by_cases e : opn bf n = 0
  · have ho := (opn_0 n).mp e
    refine Or.inr ⟨ho, ?_⟩
    rcases h with ⟨i, -, q2, q3, q4, q5⟩ | ⟨q1, q2⟩
    · rcases q4 with z | z
      · exact absurd e z.1
      · exact Or.inl ⟨z.2.1, i, q2, q3, z.2.2, fun j hj a => q5 j (Nat.zero_le _) hj (Or.inr ⟨e, z.2.1, a⟩)⟩
    · refine Or.inr ⟨q1, ?_⟩
      by_cases hb : b = 0
      · exact Or.inr (fun j hj a => q2 j (Nat.zero_le _) hj (Or.inr ⟨e, hb, a⟩))
      · exact Or.inl hb
  · rcases h with ⟨i, -, q2, q3, q4, q5⟩ | ⟨q1, q2⟩
    · rcases q4 with z | z
      · exact Or.inl ⟨i, q2, q3, z.2, fun j hj a => q5 j (Nat.zero_le _) hj (Or.inl ⟨e, a⟩)⟩
      · exact absurd z.1 e
    · exact absurd ((opn_0 n).mpr (fun j hj a => q2 j (Nat.zero_le _) hj (Or.inl ⟨e, a⟩))) e
theorem whyA {b : Int32} {n : Nat} {fr : Nat → Int32} {cl : Nat} {wd : Nat → Nat} {bf : Nat → Int32} (h : ¬ opn bf n = 0) : WhyP b n fr cl wd bf 1 := by
  refine Or.inl ⟨rfl, Classical.byContradiction (fun q => h ((opn_0 n).mpr (fun j hj a => q ⟨j, hj, a⟩)))⟩
theorem whyB {b : Int32} {n : Nat} {fr : Nat → Int32} {cl : Nat} {wd : Nat → Nat} {bf : Nat → Int32} {r : Int32} (h : opn bf n = 0) (h1 : WheP b n fr cl wd bf r) (h2 : ¬ r = -1) : WhyP b n fr cl wd bf 2 := by
  have ho := (opn_0 n).mp h
  rcases h1 with ⟨i, q1, q2, q3, q4⟩ | ⟨-, ⟨q1, i, q2, q3, q4, q5⟩ | ⟨q1, q2⟩⟩
  · exact absurd q3 (ho i q1)
  · exact Or.inr (Or.inl ⟨rfl, ho, q1, i, q2, q4⟩)
  · exact absurd q1 h2
theorem whyC {b : Int32} {n : Nat} {fr : Nat → Int32} {cl : Nat} {wd : Nat → Nat} {bf : Nat → Int32} {r : Int32} (hn : n ≤ 8) (h : opn bf n = 0) (h1 : WheP b n fr cl wd bf r) (h2 : r = -1) : WhyP b n fr cl wd bf 0 := by
  have ho := (opn_0 n).mp h
  rcases h1 with ⟨i, q1, q2, q3, q4⟩ | ⟨-, ⟨q1, i, q2, q3, q4, q5⟩ | ⟨q1, q2⟩⟩
  · exact absurd q3 (ho i q1)
  · exact absurd (q3.symm.trans h2) (nI_m1 (by omega))
  · exact Or.inr (Or.inr ⟨rfl, ho, q2⟩)
theorem whe_dlv {b : Int32} {n : Nat} {fr : Nat → Int32} {cl : Nat} {wd : Nat → Nat} {bf : Nat → Int32} {r : Int32} (hn : n ≤ 8) (h1 : WheP b n fr cl wd bf r) : r = -1 ↔ dlv b n fr cl wd bf = true := by
  have key : dlv b n fr cl wd bf = true ↔ (∀ j, j < n → ¬ bf j = -1) ∧ (¬ b = 0 ∨ ∀ j, j < n → ¬ ast fr cl wd bf j) := by
    unfold dlv
    rw [Bool.and_eq_true, decide_eq_true_eq, opn_0, Bool.or_eq_true, decide_eq_true_eq, Bool.not_eq_true', asB_i]
  rw [key]
  rcases h1 with ⟨i, q1, q2, q3, q4⟩ | ⟨q0, ⟨q1, i, q2, q3, q4, q5⟩ | ⟨q1, q2⟩⟩
  · exact ⟨fun z => absurd (q2.symm.trans z) (nI_m1 (by omega)), fun z => absurd q3 (z.1 i q1)⟩
  · exact ⟨fun z => absurd (q3.symm.trans z) (nI_m1 (by omega)), fun z => z.2.elim (fun y => absurd q1 y) (fun y => absurd q4 (y i q2))⟩
  · exact ⟨fun _ => ⟨q0, q2⟩, fun _ => q1⟩
set_option maxHeartbeats 4000000 in
set_option maxRecDepth 100000 in
/-- X8_hindered -/
theorem k_X8_hindered (l : Launch) (D : va_G) (ac : Nat → ClassId) (H : Heap) (A : Nat → Prop) (adr : Nat → Nat) (sf : Nat → Int32) (af : Nat → Nat → Int32) (hM : MW D A 24 adr (mw ac adr sf af) H) (fs fr : Nat → Int32) (hSy : SayR af fs fr) (no : Nat) (oc on_ : Nat → Nat) (owd : Nat → Nat → Nat) (rb st : Nat → Int32) (ho : MOrd sf af no oc on_ owd rb st) (o : Nat) (ho9 : o < no) (bf : Nat → Int32) (hb9 : ∀ j, j < on_ o → af 14 (8 * o + j) = bf j) : ROi l yX8_hindered wsX8_hindered ({ frames := 3, cells := 0, slots := 0, locals := 70 }) [.ref (adr 0), .int (nI o)] D ac H (WheP (rb o) (on_ o) fr (oc o) (owd o) bf) := by
  refine Met.ofW (cc := cX8_hindered) (maxL := 7) (ret := (some .int)) (by decide) rfl ?_
  intro p e s m args below meth c s₁ B hml hv
  obtain ⟨hargs, hsz, hK⟩ := hv
  have hx := B.exec
  have hb := B.bytes
  have hr := B.returns
  have hts := atoms_spec (ws := wsX8_hindered) B.pre
  have hown : s.vm.findClass RX8 = some m.cls := findClass_of_methodNamed B.named
  have hlocks := B.notSynchronized
  subst hsz
  have inX8_ : ∀ w ∈ wsX80, w ∈ wsX8_hindered := by decide +kernel
  have hS : va_S (fun _ => False) s.heap s.heap [] := va_S.rf
  have hl := lv_entry ([.ref (adr 0), .int (nI o)]) (n := 7) (Nat.le_of_ble_eq_true rfl)
  have hen := lg_entry_eq m [.ref (adr 0), .int (nI o)] 7
  rw [← hargs] at hen
  rw [hen]
  generalize (lg_sl ([.ref (adr 0), .int (nI o)]) ++ List.replicate (7 - (lg_sl ([.ref (adr 0), .int (nI o)])).length) Slot.unset).toArray = ls at hl ⊢
  have hl : lv_has ls 7 [(0, .ref (adr 0)), (1, .int (nI o))] := hl
  obtain ⟨Q0, hQ0⟩ : ∃ z0_, z0_ = MQ below (va_Qi (fun r (_ : Unit) => (WheP (rb o) (on_ o) fr (oc o) (owd o) bf) r) (fun _ t => t.heap = s.heap) (fun _ => False)) args s 0 0 (fun _ => False) := ⟨_, rfl⟩
  rw [← hQ0]
  have h60 := ho.2.1
  obtain ⟨o1_, o2_, ⟨o3_, o4_, o5_⟩, ⟨o6_, o7_⟩, o8_⟩ := ho.2.2 o ho9
  have on9 := opn_le (f := bf) (on_ o)
  refine lv_aload_n hx hb dX8_hindered_0 rfl (lv_at hl 0 rfl) ?_
  refine lv_iload_n hx hb dX8_hindered_1 rfl (lv_at hl 1 rfl) ?_
  refine r_calli (va_runV (As := [.int (nI o)]) (rest := []) ⟨hx, hb, hml, hown, hts⟩ (k_X8_open l D ac _ A adr sf af hM no oc on_ owd rb st (ho.t rfl rfl rfl rfl rfl rfl) o ho9 bf hb9) (cwV 1 hts gX8_hindered_X8_open rfl rfl rfl (by decide +kernel) ⟨Nat.le_of_ble_eq_true rfl, Nat.le_of_ble_eq_true rfl⟩) (pV hK (ci := 8) rfl (hM.cel (by omega) (show (mw ac adr sf af) 0 = .inr (8, mfs adr sf) from rfl))) rfl rfl hl.1 rfl (lv_room (Nat.le_of_ble_eq_true rfl)) dX8_hindered_2 ⟨Nat.le_of_ble_eq_true rfl, Nat.le_of_ble_eq_true rfl⟩) hS (fun rv_1 locs hrv_1 hS => ?_)
  subst hrv_1
  have J13 : ∀ (ls : Array Slot), lv_has ls 7 [(0, .ref (adr 0)), (1, .int (nI o))] → W p l e (headSpec wsX8_hindered ({ frames := 3, cells := 0, slots := 0, locals := 70 })).room s m args below meth c s.heap locs 0 0 Q0 (F0 m 13 ls [.int (if ¬ opn bf (on_ o) = 0 then (1 : Int32) else 0)]) := by
    intro ls hl
    refine lv_istore_n (lv' := [(2, .int (if ¬ opn bf (on_ o) = 0 then (1 : Int32) else 0)), (0, .ref (adr 0)), (1, .int (nI o))]) hx hb dX8_hindered_13 rfl hl (by decide) rfl (fun ls hl => ?_)
    refine lv_iconst (v := (-1)) hx hb dX8_hindered_14 (by decide) ?_
    refine lv_istore_n (lv' := [(3, .int (-1)), (2, .int (if ¬ opn bf (on_ o) = 0 then (1 : Int32) else 0)), (0, .ref (adr 0)), (1, .int (nI o))]) hx hb dX8_hindered_15 rfl hl (by decide) rfl (fun ls hl => ?_)
    refine lv_aload_n hx hb dX8_hindered_16 rfl (lv_at hl 2 rfl) ?_
    refine m_get (ci := 8) (C := RX8) (T := TX8) (n := 35) (v := .ref (adr 8)) hx hb hts inX8_ hown hK rfl (hM.cel (by omega) (show (mw ac adr sf af) 0 = .inr (8, mfs adr sf) from rfl)) 14 (by decide) (hts _ (by decide +kernel)) rfl dX8_hindered_17 ?_
    refine lv_iload_n hx hb dX8_hindered_20 rfl (lv_at hl 3 rfl) ?_
    refine m_iald hx hb hK (hM.cel (by omega) (show (mw ac adr sf af) 8 = .inl (ac 0, 60, .inl (af 8)) from rfl)) (vp_in_nI (by omega) (by decide)) dX8_hindered_21 ?_
    refine m_top (show ((af 8) (nI o).toNatClampNeg) = nI (on_ o) from by rw [nI_clamp (by omega)]; exact o2_) ?_
    refine lv_iconst (v := 1) hx hb dX8_hindered_22 (by decide) ?_
    refine lv_isub hx hb dX8_hindered_23 ?_
    refine lv_istore (lv' := [(4, .int ((nI (on_ o)) - 1)), (3, .int (-1)), (2, .int (if ¬ opn bf (on_ o) = 0 then (1 : Int32) else 0)), (0, .ref (adr 0)), (1, .int (nI o))]) hx hb dX8_hindered_24 hl (by decide) rfl (fun ls hl => ?_)
    have L26 : ∀ (k9 : Nat) (v9 : Nat) (fd : Int32) (hk : v9 < k9) (hm : v9 ≤ on_ o) (hF : HnP (hnQ (rb o) (on_ o) fr (oc o) (owd o) bf) v9 (on_ o) fd) (locs : List Loc) (hS : va_S (fun _ => False) s.heap s.heap locs) (ls : Array Slot) (hl : lv_has ls 7 [(0, .ref (adr 0)), (1, .int (nI o)), (2, .int (if ¬ opn bf (on_ o) = 0 then (1 : Int32) else 0)), (3, .int fd), (4, .int (nI v9 - 1))]), W p l e (headSpec wsX8_hindered ({ frames := 3, cells := 0, slots := 0, locals := 70 })).room s m args below meth c s.heap locs 0 0 Q0 (F0 m 26 ls []) := by
      intro k9
      induction k9 with
      | zero => intro v9 fd hk hm hF locs hS ls hl; exact absurd hk (Nat.not_lt_zero _)
      | succ k9 ih26 =>
        intro v9 fd hk hm hF locs hS ls hl
        refine lv_iload hx hb dX8_hindered_26 (lv_at hl 4 rfl) ?_
        refine lv_if_lt (tgt := 119) hx hb dX8_hindered_28 (by decide) (fun c28 => ?_) (fun c28 => ?_)
        · have e9 : v9 = 0 := msub_0 (by omega) c28
          refine lv_iload_n hx hb dX8_hindered_119 rfl (lv_at hl 3 rfl) ?_
          rw [hQ0]
          exact e_i hx hb hlocks hr dX8_hindered_120 hS (by rw [e9] at hF; exact hn_whe hF)
        · have hm0 : 0 < v9 := msub_p c28
          obtain ⟨u1_, u2_⟩ := o8_ (v9 - 1) (by omega)
          refine lv_aload_n hx hb dX8_hindered_31 rfl (lv_at hl 0 rfl) ?_
          refine m_get (ci := 8) (C := RX8) (T := TX8) (n := 35) (v := .ref (adr 14)) hx hb hts inX8_ hown hK rfl (hM.cel (by omega) (show (mw ac adr sf af) 0 = .inr (8, mfs adr sf) from rfl)) 22 (by decide) (hts _ (by decide +kernel)) rfl dX8_hindered_32 ?_
          refine lv_bipush (v := 8) hx hb dX8_hindered_35 (by decide) ?_
          refine lv_iload_n hx hb dX8_hindered_37 rfl (lv_at hl 1 rfl) ?_
          refine lv_imul hx hb dX8_hindered_38 ?_
          refine m_top (show (8 * (nI o)) = nI (8 * o) from by rw [show (8 : Int32) = nI 8 from rfl, pk_mul]) ?_
          refine lv_iload hx hb dX8_hindered_39 (lv_at hl 4 rfl) ?_
          refine lv_iadd hx hb dX8_hindered_41 ?_
          refine m_top (show ((nI (8 * o)) + (nI v9 - 1)) = nI (8 * o + (v9 - 1)) from by rw [msub hm0, nI_add]) ?_
          refine m_iald hx hb hK (hM.cel (by omega) (show (mw ac adr sf af) 14 = .inl (ac 0, 480, .inl (af 14)) from rfl)) (vp_in_nI (by omega) (by decide)) dX8_hindered_42 ?_
          refine m_top (show ((af 14) (nI (8 * o + (v9 - 1))).toNatClampNeg) = bf (v9 - 1) from by rw [nI_clamp (by omega)]; exact hb9 _ (by omega)) ?_
          refine lv_istore (lv' := [(5, .int (bf (v9 - 1))), (0, .ref (adr 0)), (1, .int (nI o)), (2, .int (if ¬ opn bf (on_ o) = 0 then (1 : Int32) else 0)), (3, .int fd), (4, .int (nI v9 - 1))]) hx hb dX8_hindered_43 hl (by decide) rfl (fun ls hl => ?_)
          refine lv_aload_n hx hb dX8_hindered_45 rfl (lv_at hl 1 rfl) ?_
          refine m_get (ci := 8) (C := RX8) (T := TX8) (n := 35) (v := .ref (adr 10)) hx hb hts inX8_ hown hK rfl (hM.cel (by omega) (show (mw ac adr sf af) 0 = .inr (8, mfs adr sf) from rfl)) 16 (by decide) (hts _ (by decide +kernel)) rfl dX8_hindered_46 ?_
          refine lv_iload_n hx hb dX8_hindered_49 rfl (lv_at hl 2 rfl) ?_
          refine m_zald hx hb hK (hM.cel (by omega) (show (mw ac adr sf af) 10 = .inl (ac 2, 60, .inl (af 10)) from rfl)) (vp_in_nI (by omega) (by decide)) dX8_hindered_50 ?_
          refine m_top (show ((af 10) (nI o).toNatClampNeg) = rb o from by rw [nI_clamp (by omega)]; exact o6_) ?_
          refine lv_if_ne (tgt := 85) hx hb dX8_hindered_51 (by decide) (fun c51 => ?_) (fun c51 => ?_)
          · refine lv_iconst (v := 0) hx hb dX8_hindered_85 (by decide) ?_
            refine lv_istore (lv' := [(6, .int 0), (5, .int (bf (v9 - 1))), (0, .ref (adr 0)), (1, .int (nI o)), (2, .int (if ¬ opn bf (on_ o) = 0 then (1 : Int32) else 0)), (3, .int fd), (4, .int (nI v9 - 1))]) hx hb dX8_hindered_86 hl (by decide) rfl (fun ls hl => ?_)
            refine lv_iload_n hx hb dX8_hindered_88 rfl (lv_at hl 4 rfl) ?_
            by_cases d89 : ¬ opn bf (on_ o) = 0
            · refine m_top (show (if ¬ opn bf (on_ o) = 0 then (1 : Int32) else 0) = (1 : Int32) from if_pos d89) ?_
              refine lv_if_eq (tgt := 101) hx hb dX8_hindered_89 (by decide) (fun c89 => ?_) (fun c89 => ?_)
              · exact absurd c89 (by decide)
              · refine lv_iload hx hb dX8_hindered_92 (lv_at hl 1 rfl) ?_
                refine lv_iconst (v := (-1)) hx hb dX8_hindered_94 (by decide) ?_
                refine lv_icmp_ne (tgt := 111) hx hb dX8_hindered_95 (by decide) (fun c95 => ?_) (fun c95 => ?_)
                · refine lv_iload_n hx hb dX8_hindered_111 rfl (lv_at hl 5 rfl) ?_
                  refine lv_istore_n (lv' := [(3, .int fd), (6, .int 0), (5, .int (bf (v9 - 1))), (0, .ref (adr 0)), (1, .int (nI o)), (2, .int (if ¬ opn bf (on_ o) = 0 then (1 : Int32) else 0)), (4, .int (nI v9 - 1))]) hx hb dX8_hindered_112 rfl hl (by decide) rfl (fun ls hl => ?_)
                  refine lv_iinc (v := nI (v9 - 1) - 1) (lv' := [(4, .int (nI (v9 - 1) - 1)), (3, .int fd), (6, .int 0), (5, .int (bf (v9 - 1))), (0, .ref (adr 0)), (1, .int (nI o)), (2, .int (if ¬ opn bf (on_ o) = 0 then (1 : Int32) else 0))]) hx hb dX8_hindered_113 hl (k := 6) rfl (by rw [mdec, msub hm0]) (by decide) rfl (fun ls hl => ?_)
                  refine lv_goto (tgt := 26) hx hb dX8_hindered_116 (by decide) ?_
                  exact ih26 (v9 - 1) fd (by omega) (by omega) (HnP.n hm0 hF (by first | exact fun q => q.elim (fun z => c95 z.2) (fun z => d89 z.1) | exact fun q => q.elim (fun z => d89 z.1) (fun z => c51 z.2.1) | exact fun q => q.elim (fun z => d89 z.1) (fun z => d78 z.2.2))) _ hS ls (lv_sub hl [4, 5, 6, 1, 0] rfl)
                · refine lv_goto (tgt := 106) hx hb dX8_hindered_98 (by decide) ?_
                  refine lv_iload hx hb dX8_hindered_106 (lv_at hl 6 rfl) ?_
                  refine lv_goto (tgt := 112) hx hb dX8_hindered_108 (by decide) ?_
                  refine m_top (show (nI v9 - 1 : Int32) = nI (v9 - 1) from msub hm0) ?_
                  refine lv_istore_n (lv' := [(3, .int (nI (v9 - 1))), (6, .int 0), (5, .int (bf (v9 - 1))), (0, .ref (adr 0)), (1, .int (nI o)), (2, .int (if ¬ opn bf (on_ o) = 0 then (1 : Int32) else 0)), (4, .int (nI v9 - 1))]) hx hb dX8_hindered_112 rfl hl (by decide) rfl (fun ls hl => ?_)
                  refine lv_iinc (v := nI (v9 - 1) - 1) (lv' := [(4, .int (nI (v9 - 1) - 1)), (3, .int (nI (v9 - 1))), (6, .int 0), (5, .int (bf (v9 - 1))), (0, .ref (adr 0)), (1, .int (nI o)), (2, .int (if ¬ opn bf (on_ o) = 0 then (1 : Int32) else 0))]) hx hb dX8_hindered_113 hl (k := 6) rfl (by rw [mdec, msub hm0]) (by decide) rfl (fun ls hl => ?_)
                  refine lv_goto (tgt := 26) hx hb dX8_hindered_116 (by decide) ?_
                  exact ih26 (v9 - 1) (nI (v9 - 1)) (by omega) (by omega) (HnP.y hm0 hm (by first | exact Or.inl ⟨d89, c95⟩ | exact Or.inr ⟨Decidable.not_not.mp d89, c51, d78⟩)) _ hS ls (lv_sub hl [4, 5, 6, 1, 0] rfl)
            · refine m_top (show (if ¬ opn bf (on_ o) = 0 then (1 : Int32) else 0) = (0 : Int32) from if_neg d89) ?_
              refine lv_if_eq (tgt := 101) hx hb dX8_hindered_89 (by decide) (fun c89 => ?_) (fun c89 => ?_)
              · refine lv_iload hx hb dX8_hindered_101 (lv_at hl 0 rfl) ?_
                refine lv_if_eq (tgt := 111) hx hb dX8_hindered_103 (by decide) (fun c103 => ?_) (fun c103 => ?_)
                · refine lv_iload_n hx hb dX8_hindered_111 rfl (lv_at hl 5 rfl) ?_
                  refine lv_istore_n (lv' := [(3, .int fd), (6, .int 0), (5, .int (bf (v9 - 1))), (0, .ref (adr 0)), (1, .int (nI o)), (2, .int (if ¬ opn bf (on_ o) = 0 then (1 : Int32) else 0)), (4, .int (nI v9 - 1))]) hx hb dX8_hindered_112 rfl hl (by decide) rfl (fun ls hl => ?_)
                  refine lv_iinc (v := nI (v9 - 1) - 1) (lv' := [(4, .int (nI (v9 - 1) - 1)), (3, .int fd), (6, .int 0), (5, .int (bf (v9 - 1))), (0, .ref (adr 0)), (1, .int (nI o)), (2, .int (if ¬ opn bf (on_ o) = 0 then (1 : Int32) else 0))]) hx hb dX8_hindered_113 hl (k := 6) rfl (by rw [mdec, msub hm0]) (by decide) rfl (fun ls hl => ?_)
                  refine lv_goto (tgt := 26) hx hb dX8_hindered_116 (by decide) ?_
                  exact ih26 (v9 - 1) fd (by omega) (by omega) (HnP.n hm0 hF (by first | exact fun q => q.elim (fun z => c95 z.2) (fun z => d89 z.1) | exact fun q => q.elim (fun z => d89 z.1) (fun z => c51 z.2.1) | exact fun q => q.elim (fun z => d89 z.1) (fun z => d78 z.2.2))) _ hS ls (lv_sub hl [4, 5, 6, 1, 0] rfl)
                · exact absurd c103 (by decide)
              · exact absurd c89 (by decide)
          · refine lv_aload_n hx hb dX8_hindered_54 rfl (lv_at hl 1 rfl) ?_
            refine lv_aload_n hx hb dX8_hindered_55 rfl (lv_at hl 1 rfl) ?_
            refine m_get (ci := 8) (C := RX8) (T := TX8) (n := 35) (v := .ref (adr 7)) hx hb hts inX8_ hown hK rfl (hM.cel (by omega) (show (mw ac adr sf af) 0 = .inr (8, mfs adr sf) from rfl)) 13 (by decide) (hts _ (by decide +kernel)) rfl dX8_hindered_56 ?_
            refine lv_iload_n hx hb dX8_hindered_59 rfl (lv_at hl 2 rfl) ?_
            refine m_iald hx hb hK (hM.cel (by omega) (show (mw ac adr sf af) 7 = .inl (ac 0, 60, .inl (af 7)) from rfl)) (vp_in_nI (by omega) (by decide)) dX8_hindered_60 ?_
            refine m_top (show ((af 7) (nI o).toNatClampNeg) = nI (oc o) from by rw [nI_clamp (by omega)]; exact o1_) ?_
            refine lv_aload_n hx hb dX8_hindered_61 rfl (lv_at hl 1 rfl) ?_
            refine m_get (ci := 8) (C := RX8) (T := TX8) (n := 35) (v := .ref (adr 9)) hx hb hts inX8_ hown hK rfl (hM.cel (by omega) (show (mw ac adr sf af) 0 = .inr (8, mfs adr sf) from rfl)) 15 (by decide) (hts _ (by decide +kernel)) rfl dX8_hindered_62 ?_
            refine lv_bipush (v := 8) hx hb dX8_hindered_65 (by decide) ?_
            refine lv_iload_n hx hb dX8_hindered_67 rfl (lv_at hl 2 rfl) ?_
            refine lv_imul hx hb dX8_hindered_68 ?_
            refine m_top (show (8 * (nI o)) = nI (8 * o) from by rw [show (8 : Int32) = nI 8 from rfl, pk_mul]) ?_
            refine lv_iload hx hb dX8_hindered_69 (lv_at hl 5 rfl) ?_
            refine lv_iadd hx hb dX8_hindered_71 ?_
            refine m_top (show ((nI (8 * o)) + (nI v9 - 1)) = nI (8 * o + (v9 - 1)) from by rw [msub hm0, nI_add]) ?_
            refine m_iald hx hb hK (hM.cel (by omega) (show (mw ac adr sf af) 9 = .inl (ac 0, 480, .inl (af 9)) from rfl)) (vp_in_nI (by omega) (by decide)) dX8_hindered_72 ?_
            refine m_top (show ((af 9) (nI (8 * o + (v9 - 1))).toNatClampNeg) = nI (owd o (v9 - 1)) from by rw [nI_clamp (by omega)]; exact u1_) ?_
            refine lv_iload hx hb dX8_hindered_73 (lv_at hl 0 rfl) ?_
            refine r_calli (va_runV (As := [.int (nI (oc o)), .int (nI (owd o (v9 - 1))), .int (bf (v9 - 1))]) (rest := []) ⟨hx, hb, hml, hown, hts⟩ (k_X8_isAgainst l D ac _ A adr sf af hM fs fr (hSy.t rfl) (oc o) (owd o (v9 - 1)) (by omega) (by omega) (bf (v9 - 1))) (cwV 3 hts gX8_hindered_X8_isAgainst rfl rfl rfl (by decide +kernel) ⟨Nat.le_of_ble_eq_true rfl, Nat.le_of_ble_eq_true rfl⟩) (pV hK (ci := 8) rfl (hM.cel (by omega) (show (mw ac adr sf af) 0 = .inr (8, mfs adr sf) from rfl))) rfl rfl hl.1 rfl (lv_room (Nat.le_of_ble_eq_true rfl)) dX8_hindered_75 ⟨Nat.le_of_ble_eq_true rfl, Nat.le_of_ble_eq_true rfl⟩) hS (fun rv_2 locs hrv_2 hS => ?_)
            subst hrv_2
            by_cases d78 : ast fr (oc o) (owd o) bf (v9 - 1)
            · refine m_top (show (if ¬ fr ((oc o) * 50 + (owd o (v9 - 1))) = -1 ∧ ¬ fr ((oc o) * 50 + (owd o (v9 - 1))) = (bf (v9 - 1)) then 1 else 0) = (1 : Int32) from if_pos d78) ?_
              refine lv_if_eq (tgt := 85) hx hb dX8_hindered_78 (by decide) (fun c78 => ?_) (fun c78 => ?_)
              · exact absurd c78 (by decide)
              · refine lv_iconst (v := 1) hx hb dX8_hindered_81 (by decide) ?_
                refine lv_goto (tgt := 86) hx hb dX8_hindered_82 (by decide) ?_
                refine lv_istore (lv' := [(6, .int 1), (5, .int (bf (v9 - 1))), (0, .ref (adr 0)), (1, .int (nI o)), (2, .int (if ¬ opn bf (on_ o) = 0 then (1 : Int32) else 0)), (3, .int fd), (4, .int (nI v9 - 1))]) hx hb dX8_hindered_86 hl (by decide) rfl (fun ls hl => ?_)
                refine lv_iload_n hx hb dX8_hindered_88 rfl (lv_at hl 4 rfl) ?_
                by_cases d89 : ¬ opn bf (on_ o) = 0
                · refine m_top (show (if ¬ opn bf (on_ o) = 0 then (1 : Int32) else 0) = (1 : Int32) from if_pos d89) ?_
                  refine lv_if_eq (tgt := 101) hx hb dX8_hindered_89 (by decide) (fun c89 => ?_) (fun c89 => ?_)
                  · exact absurd c89 (by decide)
                  · refine lv_iload hx hb dX8_hindered_92 (lv_at hl 1 rfl) ?_
                    refine lv_iconst (v := (-1)) hx hb dX8_hindered_94 (by decide) ?_
                    refine lv_icmp_ne (tgt := 111) hx hb dX8_hindered_95 (by decide) (fun c95 => ?_) (fun c95 => ?_)
                    · refine lv_iload_n hx hb dX8_hindered_111 rfl (lv_at hl 5 rfl) ?_
                      refine lv_istore_n (lv' := [(3, .int fd), (6, .int 1), (5, .int (bf (v9 - 1))), (0, .ref (adr 0)), (1, .int (nI o)), (2, .int (if ¬ opn bf (on_ o) = 0 then (1 : Int32) else 0)), (4, .int (nI v9 - 1))]) hx hb dX8_hindered_112 rfl hl (by decide) rfl (fun ls hl => ?_)
                      refine lv_iinc (v := nI (v9 - 1) - 1) (lv' := [(4, .int (nI (v9 - 1) - 1)), (3, .int fd), (6, .int 1), (5, .int (bf (v9 - 1))), (0, .ref (adr 0)), (1, .int (nI o)), (2, .int (if ¬ opn bf (on_ o) = 0 then (1 : Int32) else 0))]) hx hb dX8_hindered_113 hl (k := 6) rfl (by rw [mdec, msub hm0]) (by decide) rfl (fun ls hl => ?_)
                      refine lv_goto (tgt := 26) hx hb dX8_hindered_116 (by decide) ?_
                      exact ih26 (v9 - 1) fd (by omega) (by omega) (HnP.n hm0 hF (by first | exact fun q => q.elim (fun z => c95 z.2) (fun z => d89 z.1) | exact fun q => q.elim (fun z => d89 z.1) (fun z => c51 z.2.1) | exact fun q => q.elim (fun z => d89 z.1) (fun z => d78 z.2.2))) _ hS ls (lv_sub hl [4, 5, 6, 1, 0] rfl)
                    · refine lv_goto (tgt := 106) hx hb dX8_hindered_98 (by decide) ?_
                      refine lv_iload hx hb dX8_hindered_106 (lv_at hl 6 rfl) ?_
                      refine lv_goto (tgt := 112) hx hb dX8_hindered_108 (by decide) ?_
                      refine m_top (show (nI v9 - 1 : Int32) = nI (v9 - 1) from msub hm0) ?_
                      refine lv_istore_n (lv' := [(3, .int (nI (v9 - 1))), (6, .int 1), (5, .int (bf (v9 - 1))), (0, .ref (adr 0)), (1, .int (nI o)), (2, .int (if ¬ opn bf (on_ o) = 0 then (1 : Int32) else 0)), (4, .int (nI v9 - 1))]) hx hb dX8_hindered_112 rfl hl (by decide) rfl (fun ls hl => ?_)
                      refine lv_iinc (v := nI (v9 - 1) - 1) (lv' := [(4, .int (nI (v9 - 1) - 1)), (3, .int (nI (v9 - 1))), (6, .int 1), (5, .int (bf (v9 - 1))), (0, .ref (adr 0)), (1, .int (nI o)), (2, .int (if ¬ opn bf (on_ o) = 0 then (1 : Int32) else 0))]) hx hb dX8_hindered_113 hl (k := 6) rfl (by rw [mdec, msub hm0]) (by decide) rfl (fun ls hl => ?_)
                      refine lv_goto (tgt := 26) hx hb dX8_hindered_116 (by decide) ?_
                      exact ih26 (v9 - 1) (nI (v9 - 1)) (by omega) (by omega) (HnP.y hm0 hm (by first | exact Or.inl ⟨d89, c95⟩ | exact Or.inr ⟨Decidable.not_not.mp d89, c51, d78⟩)) _ hS ls (lv_sub hl [4, 5, 6, 1, 0] rfl)
                · refine m_top (show (if ¬ opn bf (on_ o) = 0 then (1 : Int32) else 0) = (0 : Int32) from if_neg d89) ?_
                  refine lv_if_eq (tgt := 101) hx hb dX8_hindered_89 (by decide) (fun c89 => ?_) (fun c89 => ?_)
                  · refine lv_iload hx hb dX8_hindered_101 (lv_at hl 0 rfl) ?_
                    refine lv_if_eq (tgt := 111) hx hb dX8_hindered_103 (by decide) (fun c103 => ?_) (fun c103 => ?_)
                    · exact absurd c103 (by decide)
                    · refine lv_iload hx hb dX8_hindered_106 (lv_at hl 6 rfl) ?_
                      refine lv_goto (tgt := 112) hx hb dX8_hindered_108 (by decide) ?_
                      refine m_top (show (nI v9 - 1 : Int32) = nI (v9 - 1) from msub hm0) ?_
                      refine lv_istore_n (lv' := [(3, .int (nI (v9 - 1))), (6, .int 1), (5, .int (bf (v9 - 1))), (0, .ref (adr 0)), (1, .int (nI o)), (2, .int (if ¬ opn bf (on_ o) = 0 then (1 : Int32) else 0)), (4, .int (nI v9 - 1))]) hx hb dX8_hindered_112 rfl hl (by decide) rfl (fun ls hl => ?_)
                      refine lv_iinc (v := nI (v9 - 1) - 1) (lv' := [(4, .int (nI (v9 - 1) - 1)), (3, .int (nI (v9 - 1))), (6, .int 1), (5, .int (bf (v9 - 1))), (0, .ref (adr 0)), (1, .int (nI o)), (2, .int (if ¬ opn bf (on_ o) = 0 then (1 : Int32) else 0))]) hx hb dX8_hindered_113 hl (k := 6) rfl (by rw [mdec, msub hm0]) (by decide) rfl (fun ls hl => ?_)
                      refine lv_goto (tgt := 26) hx hb dX8_hindered_116 (by decide) ?_
                      exact ih26 (v9 - 1) (nI (v9 - 1)) (by omega) (by omega) (HnP.y hm0 hm (by first | exact Or.inl ⟨d89, c95⟩ | exact Or.inr ⟨Decidable.not_not.mp d89, c51, d78⟩)) _ hS ls (lv_sub hl [4, 5, 6, 1, 0] rfl)
                  · exact absurd c89 (by decide)
            · refine m_top (show (if ¬ fr ((oc o) * 50 + (owd o (v9 - 1))) = -1 ∧ ¬ fr ((oc o) * 50 + (owd o (v9 - 1))) = (bf (v9 - 1)) then 1 else 0) = (0 : Int32) from if_neg d78) ?_
              refine lv_if_eq (tgt := 85) hx hb dX8_hindered_78 (by decide) (fun c78 => ?_) (fun c78 => ?_)
              · refine lv_iconst (v := 0) hx hb dX8_hindered_85 (by decide) ?_
                refine lv_istore (lv' := [(6, .int 0), (5, .int (bf (v9 - 1))), (0, .ref (adr 0)), (1, .int (nI o)), (2, .int (if ¬ opn bf (on_ o) = 0 then (1 : Int32) else 0)), (3, .int fd), (4, .int (nI v9 - 1))]) hx hb dX8_hindered_86 hl (by decide) rfl (fun ls hl => ?_)
                refine lv_iload_n hx hb dX8_hindered_88 rfl (lv_at hl 4 rfl) ?_
                by_cases d89 : ¬ opn bf (on_ o) = 0
                · refine m_top (show (if ¬ opn bf (on_ o) = 0 then (1 : Int32) else 0) = (1 : Int32) from if_pos d89) ?_
                  refine lv_if_eq (tgt := 101) hx hb dX8_hindered_89 (by decide) (fun c89 => ?_) (fun c89 => ?_)
                  · exact absurd c89 (by decide)
                  · refine lv_iload hx hb dX8_hindered_92 (lv_at hl 1 rfl) ?_
                    refine lv_iconst (v := (-1)) hx hb dX8_hindered_94 (by decide) ?_
                    refine lv_icmp_ne (tgt := 111) hx hb dX8_hindered_95 (by decide) (fun c95 => ?_) (fun c95 => ?_)
                    · refine lv_iload_n hx hb dX8_hindered_111 rfl (lv_at hl 5 rfl) ?_
                      refine lv_istore_n (lv' := [(3, .int fd), (6, .int 0), (5, .int (bf (v9 - 1))), (0, .ref (adr 0)), (1, .int (nI o)), (2, .int (if ¬ opn bf (on_ o) = 0 then (1 : Int32) else 0)), (4, .int (nI v9 - 1))]) hx hb dX8_hindered_112 rfl hl (by decide) rfl (fun ls hl => ?_)
                      refine lv_iinc (v := nI (v9 - 1) - 1) (lv' := [(4, .int (nI (v9 - 1) - 1)), (3, .int fd), (6, .int 0), (5, .int (bf (v9 - 1))), (0, .ref (adr 0)), (1, .int (nI o)), (2, .int (if ¬ opn bf (on_ o) = 0 then (1 : Int32) else 0))]) hx hb dX8_hindered_113 hl (k := 6) rfl (by rw [mdec, msub hm0]) (by decide) rfl (fun ls hl => ?_)
                      refine lv_goto (tgt := 26) hx hb dX8_hindered_116 (by decide) ?_
                      exact ih26 (v9 - 1) fd (by omega) (by omega) (HnP.n hm0 hF (by first | exact fun q => q.elim (fun z => c95 z.2) (fun z => d89 z.1) | exact fun q => q.elim (fun z => d89 z.1) (fun z => c51 z.2.1) | exact fun q => q.elim (fun z => d89 z.1) (fun z => d78 z.2.2))) _ hS ls (lv_sub hl [4, 5, 6, 1, 0] rfl)
                    · refine lv_goto (tgt := 106) hx hb dX8_hindered_98 (by decide) ?_
                      refine lv_iload hx hb dX8_hindered_106 (lv_at hl 6 rfl) ?_
                      refine lv_goto (tgt := 112) hx hb dX8_hindered_108 (by decide) ?_
                      refine m_top (show (nI v9 - 1 : Int32) = nI (v9 - 1) from msub hm0) ?_
                      refine lv_istore_n (lv' := [(3, .int (nI (v9 - 1))), (6, .int 0), (5, .int (bf (v9 - 1))), (0, .ref (adr 0)), (1, .int (nI o)), (2, .int (if ¬ opn bf (on_ o) = 0 then (1 : Int32) else 0)), (4, .int (nI v9 - 1))]) hx hb dX8_hindered_112 rfl hl (by decide) rfl (fun ls hl => ?_)
                      refine lv_iinc (v := nI (v9 - 1) - 1) (lv' := [(4, .int (nI (v9 - 1) - 1)), (3, .int (nI (v9 - 1))), (6, .int 0), (5, .int (bf (v9 - 1))), (0, .ref (adr 0)), (1, .int (nI o)), (2, .int (if ¬ opn bf (on_ o) = 0 then (1 : Int32) else 0))]) hx hb dX8_hindered_113 hl (k := 6) rfl (by rw [mdec, msub hm0]) (by decide) rfl (fun ls hl => ?_)
                      refine lv_goto (tgt := 26) hx hb dX8_hindered_116 (by decide) ?_
                      exact ih26 (v9 - 1) (nI (v9 - 1)) (by omega) (by omega) (HnP.y hm0 hm (by first | exact Or.inl ⟨d89, c95⟩ | exact Or.inr ⟨Decidable.not_not.mp d89, c51, d78⟩)) _ hS ls (lv_sub hl [4, 5, 6, 1, 0] rfl)
                · refine m_top (show (if ¬ opn bf (on_ o) = 0 then (1 : Int32) else 0) = (0 : Int32) from if_neg d89) ?_
                  refine lv_if_eq (tgt := 101) hx hb dX8_hindered_89 (by decide) (fun c89 => ?_) (fun c89 => ?_)
                  · refine lv_iload hx hb dX8_hindered_101 (lv_at hl 0 rfl) ?_
                    refine lv_if_eq (tgt := 111) hx hb dX8_hindered_103 (by decide) (fun c103 => ?_) (fun c103 => ?_)
                    · refine lv_iload_n hx hb dX8_hindered_111 rfl (lv_at hl 5 rfl) ?_
                      refine lv_istore_n (lv' := [(3, .int fd), (6, .int 0), (5, .int (bf (v9 - 1))), (0, .ref (adr 0)), (1, .int (nI o)), (2, .int (if ¬ opn bf (on_ o) = 0 then (1 : Int32) else 0)), (4, .int (nI v9 - 1))]) hx hb dX8_hindered_112 rfl hl (by decide) rfl (fun ls hl => ?_)
                      refine lv_iinc (v := nI (v9 - 1) - 1) (lv' := [(4, .int (nI (v9 - 1) - 1)), (3, .int fd), (6, .int 0), (5, .int (bf (v9 - 1))), (0, .ref (adr 0)), (1, .int (nI o)), (2, .int (if ¬ opn bf (on_ o) = 0 then (1 : Int32) else 0))]) hx hb dX8_hindered_113 hl (k := 6) rfl (by rw [mdec, msub hm0]) (by decide) rfl (fun ls hl => ?_)
                      refine lv_goto (tgt := 26) hx hb dX8_hindered_116 (by decide) ?_
                      exact ih26 (v9 - 1) fd (by omega) (by omega) (HnP.n hm0 hF (by first | exact fun q => q.elim (fun z => c95 z.2) (fun z => d89 z.1) | exact fun q => q.elim (fun z => d89 z.1) (fun z => c51 z.2.1) | exact fun q => q.elim (fun z => d89 z.1) (fun z => d78 z.2.2))) _ hS ls (lv_sub hl [4, 5, 6, 1, 0] rfl)
                    · exact absurd c103 (by decide)
                  · exact absurd c89 (by decide)
              · exact absurd c78 (by decide)
    exact L26 _ (on_ o) (-1) (Nat.lt_succ_self _) (Nat.le_refl _) HnP.z _ hS ls (lv_sub hl [3, 4, 2, 1, 0] rfl)
  refine lv_if_le (tgt := 12) hx hb dX8_hindered_5 (by decide) (fun c5 => ?_) (fun c5 => ?_)
  · have f5 : ¬ ¬ opn bf (on_ o) = 0 := fun q => q (by have := le_le (b := 0) c5 (by omega) (by omega); omega)
    refine lv_iconst (v := 0) hx hb dX8_hindered_12 (by decide) ?_
    refine m_top (show (0 : Int32) = if ¬ opn bf (on_ o) = 0 then (1 : Int32) else 0 from by first | exact (if_neg f5).symm | exact (if_pos f5).symm) ?_
    exact J13 ls hl
  · have f5 : ¬ opn bf (on_ o) = 0 := by have := nle_lt (b := 0) c5 (by omega) (by omega); omega
    refine lv_iconst (v := 1) hx hb dX8_hindered_8 (by decide) ?_
    refine lv_goto (tgt := 13) hx hb dX8_hindered_9 (by decide) ?_
    refine m_top (show (1 : Int32) = if ¬ opn bf (on_ o) = 0 then (1 : Int32) else 0 from by first | exact (if_neg f5).symm | exact (if_pos f5).symm) ?_
    exact J13 ls hl
set_option maxHeartbeats 4000000 in
set_option maxRecDepth 100000 in
/-- X8_why -/
theorem k_X8_why (l : Launch) (D : va_G) (ac : Nat → ClassId) (H : Heap) (A : Nat → Prop) (adr : Nat → Nat) (sf : Nat → Int32) (af : Nat → Nat → Int32) (hM : MW D A 24 adr (mw ac adr sf af) H) (fs fr : Nat → Int32) (hSy : SayR af fs fr) (no : Nat) (oc on_ : Nat → Nat) (owd : Nat → Nat → Nat) (rb st : Nat → Int32) (ho : MOrd sf af no oc on_ owd rb st) (hd : Nat → Option Nat) (hh : MHan af no hd) (obf : Nat → Nat → Int32) (mt co py : Nat → Int32) (hk : MTak af hd on_ obf mt co py) (x : Int32) : WRi l yX8_why wsX8_why ({ frames := 4, cells := 0, slots := 0, locals := 96 }) [.ref (adr 0), .int x] D ac H A 24 adr (MPo ac adr sf af (cd2 (ix x 4).isNone ((ix x 4).bind hd).isNone) (fun r s1 a1 => ∃ o, (ix x 4).bind hd = some o ∧ WhyP (rb o) (on_ o) fr (oc o) (owd o) (obf o) r ∧ Scr sf af s1 a1)) := by
  refine Met.ofW (cc := cX8_why) (maxL := 3) (ret := (some .int)) (by decide) rfl ?_
  intro p e s m args below meth c s₁ B hml hv
  obtain ⟨hargs, hsz, hK⟩ := hv
  have hx := B.exec
  have hb := B.bytes
  have hr := B.returns
  have hts := atoms_spec (ws := wsX8_why) B.pre
  have hown : s.vm.findClass RX8 = some m.cls := findClass_of_methodNamed B.named
  have hlocks := B.notSynchronized
  subst hsz
  have hS : va_S A s.heap s.heap [] := va_S.rf
  have hl := lv_entry ([.ref (adr 0), .int x]) (n := 3) (Nat.le_of_ble_eq_true rfl)
  have hen := lg_entry_eq m [.ref (adr 0), .int x] 3
  rw [← hargs] at hen
  rw [hen]
  generalize (lg_sl ([.ref (adr 0), .int x]) ++ List.replicate (3 - (lg_sl ([.ref (adr 0), .int x])).length) Slot.unset).toArray = ls at hl ⊢
  have hl : lv_has ls 3 [(0, .ref (adr 0)), (1, .int x)] := hl
  obtain ⟨Q0, hQ0⟩ : ∃ z0_, z0_ = MQ below (va_Qi (MPo ac adr sf af (cd2 (ix x 4).isNone ((ix x 4).bind hd).isNone) (fun r s1 a1 => ∃ o, (ix x 4).bind hd = some o ∧ WhyP (rb o) (on_ o) fr (oc o) (owd o) (obf o) r ∧ Scr sf af s1 a1)) (fun c t => MW D A 24 adr c t.heap) A) args s 0 0 A := ⟨_, rfl⟩
  rw [← hQ0]
  have h60 := ho.2.1
  refine lv_aload_n hx hb dX8_why_0 rfl (lv_at hl 0 rfl) ?_
  refine lv_iload_n hx hb dX8_why_1 rfl (lv_at hl 1 rfl) ?_
  refine w_calli (va_runV (As := [.int x]) (rest := []) ⟨hx, hb, hml, hown, hts⟩ (k_X8_isAtWork l D ac _ A adr sf af hM no oc on_ owd rb st (ho.t rfl rfl rfl rfl rfl rfl) hd (hh.t rfl) x) (cwV 1 hts gX8_why_X8_isAtWork rfl rfl rfl (by decide +kernel) ⟨Nat.le_of_ble_eq_true rfl, Nat.le_of_ble_eq_true rfl⟩) (pV hK (ci := 8) rfl (hM.cel (by omega) (show (mw ac adr sf af) 0 = .inr (8, mfs adr sf) from rfl))) rfl rfl hl.1 rfl (lv_room (Nat.le_of_ble_eq_true rfl)) dX8_why_2 ⟨Nat.le_of_ble_eq_true rfl, Nat.le_of_ble_eq_true rfl⟩) hS (fun rv_1 w_2 H locs hw_2 hM hS => ?_)
  obtain ⟨hrv_1, he_3⟩ := hw_2
  rw [he_3] at hM
  have hM := (MW.cg (s1 := (va_up sf 0 (nI (cd2 (ix x 4).isNone ((ix x 4).bind hd).isNone)))) (a1 := af) hM (fun j9 => if q0_ : j9 = 0 then (by subst q0_; rfl) else (by first | rfl | simp only [va_up, if_neg q0_])) (fun _ => rfl))
  subst hrv_1
  by_cases d5 : cd2 (ix x 4).isNone ((ix x 4).bind hd).isNone = 0
  · refine m_top (show (if cd2 (ix x 4).isNone ((ix x 4).bind hd).isNone = 0 then 1 else 0) = (1 : Int32) from if_pos d5) ?_
    obtain ⟨t, o, ht, ex_, eh, eb_⟩ := aw_ex d5
    have ho9 := (hh t ht).2 o eh
    obtain ⟨o1_, o2_, ⟨o3_, o4_, o5_⟩, ⟨o6_, o7_⟩, o8_⟩ := ho.2.2 o ho9
    subst ex_
    refine lv_if_ne (tgt := 10) hx hb dX8_why_5 (by decide) (fun c5 => ?_) (fun c5 => ?_)
    · refine lv_aload_n hx hb dX8_why_10 rfl (lv_at hl 0 rfl) ?_
      refine lv_iload_n hx hb dX8_why_11 rfl (lv_at hl 1 rfl) ?_
      refine r_calli (va_runV (As := [.int (nI t)]) (rest := []) ⟨hx, hb, hml, hown, hts⟩ (k_X8_orderOf l D ac _ A adr (va_up sf 0 (nI (cd2 (ix (nI t) 4).isNone ((ix (nI t) 4).bind hd).isNone))) af hM no ho.1 ho.2.1 (nI t)) (cwV 1 hts gX8_why_X8_orderOf rfl rfl rfl (by decide +kernel) ⟨Nat.le_of_ble_eq_true rfl, Nat.le_of_ble_eq_true rfl⟩) (pV hK (ci := 8) rfl (hM.cel (by omega) (show (mw ac adr (va_up sf 0 (nI (cd2 (ix (nI t) 4).isNone ((ix (nI t) 4).bind hd).isNone))) af) 0 = .inr (8, mfs adr (va_up sf 0 (nI (cd2 (ix (nI t) 4).isNone ((ix (nI t) 4).bind hd).isNone)))) from rfl))) rfl rfl hl.1 rfl (lv_room (Nat.le_of_ble_eq_true rfl)) dX8_why_12 ⟨Nat.le_of_ble_eq_true rfl, Nat.le_of_ble_eq_true rfl⟩) hS (fun rv_4 locs hrv_4 hS => ?_)
      subst hrv_4
      refine m_top (show (loF (af 11) (nI t) no) = nI o from by rw [(hh t ht).1, eh]; rfl) ?_
      refine lv_istore_n (lv' := [(2, .int (nI o)), (0, .ref (adr 0)), (1, .int (nI t))]) hx hb dX8_why_15 rfl hl (by decide) rfl (fun ls hl => ?_)
      refine lv_aload_n hx hb dX8_why_16 rfl (lv_at hl 1 rfl) ?_
      refine lv_iload_n hx hb dX8_why_17 rfl (lv_at hl 0 rfl) ?_
      refine r_calli (va_runV (As := [.int (nI o)]) (rest := []) ⟨hx, hb, hml, hown, hts⟩ (k_X8_open l D ac _ A adr (va_up sf 0 (nI (cd2 (ix (nI t) 4).isNone ((ix (nI t) 4).bind hd).isNone))) af hM no oc on_ owd rb st (ho.t rfl rfl rfl rfl rfl rfl) o ho9 (obf o) ((hk t o ht eh).2)) (cwV 1 hts gX8_why_X8_open rfl rfl rfl (by decide +kernel) ⟨Nat.le_of_ble_eq_true rfl, Nat.le_of_ble_eq_true rfl⟩) (pV hK (ci := 8) rfl (hM.cel (by omega) (show (mw ac adr (va_up sf 0 (nI (cd2 (ix (nI t) 4).isNone ((ix (nI t) 4).bind hd).isNone))) af) 0 = .inr (8, mfs adr (va_up sf 0 (nI (cd2 (ix (nI t) 4).isNone ((ix (nI t) 4).bind hd).isNone)))) from rfl))) rfl rfl hl.1 rfl (lv_room (Nat.le_of_ble_eq_true rfl)) dX8_why_18 ⟨Nat.le_of_ble_eq_true rfl, Nat.le_of_ble_eq_true rfl⟩) hS (fun rv_5 locs hrv_5 hS => ?_)
      subst hrv_5
      have on9 := opn_le (f := obf o) (on_ o)
      refine lv_if_le (tgt := 28) hx hb dX8_why_21 (by decide) (fun c21 => ?_) (fun c21 => ?_)
      · have f21 : opn (obf o) (on_ o) = 0 := by have := le_le (b := 0) c21 (by omega) (by omega); omega
        refine lv_aload_n hx hb dX8_why_28 rfl (lv_at hl 1 rfl) ?_
        refine lv_iload_n hx hb dX8_why_29 rfl (lv_at hl 0 rfl) ?_
        refine r_calli (va_runV (As := [.int (nI o)]) (rest := []) ⟨hx, hb, hml, hown, hts⟩ (k_X8_hindered l D ac _ A adr (va_up sf 0 (nI (cd2 (ix (nI t) 4).isNone ((ix (nI t) 4).bind hd).isNone))) af hM fs fr (hSy.t rfl) no oc on_ owd rb st (ho.t rfl rfl rfl rfl rfl rfl) o ho9 (obf o) ((hk t o ht eh).2)) (cwV 1 hts gX8_why_X8_hindered rfl rfl rfl (by decide +kernel) ⟨Nat.le_of_ble_eq_true rfl, Nat.le_of_ble_eq_true rfl⟩) (pV hK (ci := 8) rfl (hM.cel (by omega) (show (mw ac adr (va_up sf 0 (nI (cd2 (ix (nI t) 4).isNone ((ix (nI t) 4).bind hd).isNone))) af) 0 = .inr (8, mfs adr (va_up sf 0 (nI (cd2 (ix (nI t) 4).isNone ((ix (nI t) 4).bind hd).isNone)))) from rfl))) rfl rfl hl.1 rfl (lv_room (Nat.le_of_ble_eq_true rfl)) dX8_why_30 ⟨Nat.le_of_ble_eq_true rfl, Nat.le_of_ble_eq_true rfl⟩) hS (fun rv_6 locs hrv_6 hS => ?_)
        refine lv_iconst (v := (-1)) hx hb dX8_why_33 (by decide) ?_
        refine lv_icmp_eq (tgt := 41) hx hb dX8_why_34 (by decide) (fun c34 => ?_) (fun c34 => ?_)
        · refine lv_iconst (v := 0) hx hb dX8_why_41 (by decide) ?_
          rw [hQ0]
          exact e_wi hx hb hlocks hr dX8_why_42 hM hS (MPo.ok d5 (by show nI _ = 0; rw [d5]; rfl) ⟨o, eb_, whyC (by omega) f21 hrv_6 c34, ⟨fun k9 u1_ u2_ => by first | rfl | simp only [va_up, if_neg u1_, if_neg u2_], fun k9 u1_ u2_ => by first | rfl | simp only [va_up, if_neg u1_, if_neg u2_]⟩⟩)
        · refine lv_iconst (v := 2) hx hb dX8_why_37 (by decide) ?_
          refine lv_goto (tgt := 42) hx hb dX8_why_38 (by decide) ?_
          rw [hQ0]
          exact e_wi hx hb hlocks hr dX8_why_42 hM hS (MPo.ok d5 (by show nI _ = 0; rw [d5]; rfl) ⟨o, eb_, whyB f21 hrv_6 c34, ⟨fun k9 u1_ u2_ => by first | rfl | simp only [va_up, if_neg u1_, if_neg u2_], fun k9 u1_ u2_ => by first | rfl | simp only [va_up, if_neg u1_, if_neg u2_]⟩⟩)
      · have f21 : ¬ opn (obf o) (on_ o) = 0 := by have := nle_lt (b := 0) c21 (by omega) (by omega); omega
        refine lv_iconst (v := 1) hx hb dX8_why_24 (by decide) ?_
        refine lv_goto (tgt := 42) hx hb dX8_why_25 (by decide) ?_
        rw [hQ0]
        exact e_wi hx hb hlocks hr dX8_why_42 hM hS (MPo.ok d5 (by show nI _ = 0; rw [d5]; rfl) ⟨o, eb_, whyA f21, ⟨fun k9 u1_ u2_ => by first | rfl | simp only [va_up, if_neg u1_, if_neg u2_], fun k9 u1_ u2_ => by first | rfl | simp only [va_up, if_neg u1_, if_neg u2_]⟩⟩)
    · exact absurd c5 (by decide)
  · refine m_top (show (if cd2 (ix x 4).isNone ((ix x 4).bind hd).isNone = 0 then 1 else 0) = (0 : Int32) from if_neg d5) ?_
    refine lv_if_ne (tgt := 10) hx hb dX8_why_5 (by decide) (fun c5 => ?_) (fun c5 => ?_)
    · exact absurd c5 (by decide)
    · refine lv_iconst (v := 0) hx hb dX8_why_8 (by decide) ?_
      rw [hQ0]
      exact e_wi hx hb hlocks hr dX8_why_9 hM hS (MPo.no rfl d5 rfl ⟨fun k9 u1_ u2_ => by first | rfl | simp only [va_up, if_neg u1_, if_neg u2_], fun k9 u1_ u2_ => by first | rfl | simp only [va_up, if_neg u1_, if_neg u2_]⟩)
set_option maxHeartbeats 4000000 in
set_option maxRecDepth 100000 in
/-- X8_wherefore -/
theorem k_X8_wherefore (l : Launch) (D : va_G) (ac : Nat → ClassId) (H : Heap) (A : Nat → Prop) (adr : Nat → Nat) (sf : Nat → Int32) (af : Nat → Nat → Int32) (hM : MW D A 24 adr (mw ac adr sf af) H) (fs fr : Nat → Int32) (hSy : SayR af fs fr) (no : Nat) (oc on_ : Nat → Nat) (owd : Nat → Nat → Nat) (rb st : Nat → Int32) (ho : MOrd sf af no oc on_ owd rb st) (hd : Nat → Option Nat) (hh : MHan af no hd) (obf : Nat → Nat → Int32) (mt co py : Nat → Int32) (hk : MTak af hd on_ obf mt co py) (x : Int32) : WRi l yX8_wherefore wsX8_wherefore ({ frames := 4, cells := 0, slots := 0, locals := 96 }) [.ref (adr 0), .int x] D ac H A 24 adr (MPo ac adr sf af (cd2 (ix x 4).isNone ((ix x 4).bind hd).isNone) (fun r s1 a1 => ∃ o, (ix x 4).bind hd = some o ∧ WheP (rb o) (on_ o) fr (oc o) (owd o) (obf o) r ∧ Scr sf af s1 a1)) := by
  refine Met.ofW (cc := cX8_wherefore) (maxL := 2) (ret := (some .int)) (by decide) rfl ?_
  intro p e s m args below meth c s₁ B hml hv
  obtain ⟨hargs, hsz, hK⟩ := hv
  have hx := B.exec
  have hb := B.bytes
  have hr := B.returns
  have hts := atoms_spec (ws := wsX8_wherefore) B.pre
  have hown : s.vm.findClass RX8 = some m.cls := findClass_of_methodNamed B.named
  have hlocks := B.notSynchronized
  subst hsz
  have hS : va_S A s.heap s.heap [] := va_S.rf
  have hl := lv_entry ([.ref (adr 0), .int x]) (n := 2) (Nat.le_of_ble_eq_true rfl)
  have hen := lg_entry_eq m [.ref (adr 0), .int x] 2
  rw [← hargs] at hen
  rw [hen]
  generalize (lg_sl ([.ref (adr 0), .int x]) ++ List.replicate (2 - (lg_sl ([.ref (adr 0), .int x])).length) Slot.unset).toArray = ls at hl ⊢
  have hl : lv_has ls 2 [(0, .ref (adr 0)), (1, .int x)] := hl
  obtain ⟨Q0, hQ0⟩ : ∃ z0_, z0_ = MQ below (va_Qi (MPo ac adr sf af (cd2 (ix x 4).isNone ((ix x 4).bind hd).isNone) (fun r s1 a1 => ∃ o, (ix x 4).bind hd = some o ∧ WheP (rb o) (on_ o) fr (oc o) (owd o) (obf o) r ∧ Scr sf af s1 a1)) (fun c t => MW D A 24 adr c t.heap) A) args s 0 0 A := ⟨_, rfl⟩
  rw [← hQ0]
  have h60 := ho.2.1
  refine lv_aload_n hx hb dX8_wherefore_0 rfl (lv_at hl 0 rfl) ?_
  refine lv_iload_n hx hb dX8_wherefore_1 rfl (lv_at hl 1 rfl) ?_
  refine w_calli (va_runV (As := [.int x]) (rest := []) ⟨hx, hb, hml, hown, hts⟩ (k_X8_isAtWork l D ac _ A adr sf af hM no oc on_ owd rb st (ho.t rfl rfl rfl rfl rfl rfl) hd (hh.t rfl) x) (cwV 1 hts gX8_wherefore_X8_isAtWork rfl rfl rfl (by decide +kernel) ⟨Nat.le_of_ble_eq_true rfl, Nat.le_of_ble_eq_true rfl⟩) (pV hK (ci := 8) rfl (hM.cel (by omega) (show (mw ac adr sf af) 0 = .inr (8, mfs adr sf) from rfl))) rfl rfl hl.1 rfl (lv_room (Nat.le_of_ble_eq_true rfl)) dX8_wherefore_2 ⟨Nat.le_of_ble_eq_true rfl, Nat.le_of_ble_eq_true rfl⟩) hS (fun rv_1 w_2 H locs hw_2 hM hS => ?_)
  obtain ⟨hrv_1, he_3⟩ := hw_2
  rw [he_3] at hM
  have hM := (MW.cg (s1 := (va_up sf 0 (nI (cd2 (ix x 4).isNone ((ix x 4).bind hd).isNone)))) (a1 := af) hM (fun j9 => if q0_ : j9 = 0 then (by subst q0_; rfl) else (by first | rfl | simp only [va_up, if_neg q0_])) (fun _ => rfl))
  subst hrv_1
  by_cases d5 : cd2 (ix x 4).isNone ((ix x 4).bind hd).isNone = 0
  · refine m_top (show (if cd2 (ix x 4).isNone ((ix x 4).bind hd).isNone = 0 then 1 else 0) = (1 : Int32) from if_pos d5) ?_
    obtain ⟨t, o, ht, ex_, eh, eb_⟩ := aw_ex d5
    have ho9 := (hh t ht).2 o eh
    obtain ⟨o1_, o2_, ⟨o3_, o4_, o5_⟩, ⟨o6_, o7_⟩, o8_⟩ := ho.2.2 o ho9
    subst ex_
    refine lv_if_eq (tgt := 20) hx hb dX8_wherefore_5 (by decide) (fun c5 => ?_) (fun c5 => ?_)
    · exact absurd c5 (by decide)
    · refine lv_aload_n hx hb dX8_wherefore_8 rfl (lv_at hl 0 rfl) ?_
      refine lv_aload_n hx hb dX8_wherefore_9 rfl (lv_at hl 0 rfl) ?_
      refine lv_iload_n hx hb dX8_wherefore_10 rfl (lv_at hl 1 rfl) ?_
      refine r_calli (va_runV (As := [.int (nI t)]) (rest := [.ref (adr 0)]) ⟨hx, hb, hml, hown, hts⟩ (k_X8_orderOf l D ac _ A adr (va_up sf 0 (nI (cd2 (ix (nI t) 4).isNone ((ix (nI t) 4).bind hd).isNone))) af hM no ho.1 ho.2.1 (nI t)) (cwV 1 hts gX8_wherefore_X8_orderOf rfl rfl rfl (by decide +kernel) ⟨Nat.le_of_ble_eq_true rfl, Nat.le_of_ble_eq_true rfl⟩) (pV hK (ci := 8) rfl (hM.cel (by omega) (show (mw ac adr (va_up sf 0 (nI (cd2 (ix (nI t) 4).isNone ((ix (nI t) 4).bind hd).isNone))) af) 0 = .inr (8, mfs adr (va_up sf 0 (nI (cd2 (ix (nI t) 4).isNone ((ix (nI t) 4).bind hd).isNone)))) from rfl))) rfl rfl hl.1 rfl (lv_room (Nat.le_of_ble_eq_true rfl)) dX8_wherefore_11 ⟨Nat.le_of_ble_eq_true rfl, Nat.le_of_ble_eq_true rfl⟩) hS (fun rv_4 locs hrv_4 hS => ?_)
      subst hrv_4
      refine m_top (show (loF (af 11) (nI t) no) = nI o from by rw [(hh t ht).1, eh]; rfl) ?_
      refine r_calli (va_runV (As := [.int (nI o)]) (rest := []) ⟨hx, hb, hml, hown, hts⟩ (k_X8_hindered l D ac _ A adr (va_up sf 0 (nI (cd2 (ix (nI t) 4).isNone ((ix (nI t) 4).bind hd).isNone))) af hM fs fr (hSy.t rfl) no oc on_ owd rb st (ho.t rfl rfl rfl rfl rfl rfl) o ho9 (obf o) ((hk t o ht eh).2)) (cwV 1 hts gX8_wherefore_X8_hindered rfl rfl rfl (by decide +kernel) ⟨Nat.le_of_ble_eq_true rfl, Nat.le_of_ble_eq_true rfl⟩) (pV hK (ci := 8) rfl (hM.cel (by omega) (show (mw ac adr (va_up sf 0 (nI (cd2 (ix (nI t) 4).isNone ((ix (nI t) 4).bind hd).isNone))) af) 0 = .inr (8, mfs adr (va_up sf 0 (nI (cd2 (ix (nI t) 4).isNone ((ix (nI t) 4).bind hd).isNone)))) from rfl))) rfl rfl hl.1 rfl (lv_room (Nat.le_of_ble_eq_true rfl)) dX8_wherefore_14 ⟨Nat.le_of_ble_eq_true rfl, Nat.le_of_ble_eq_true rfl⟩) hS (fun rv_5 locs hrv_5 hS => ?_)
      refine lv_goto (tgt := 21) hx hb dX8_wherefore_17 (by decide) ?_
      rw [hQ0]
      exact e_wi hx hb hlocks hr dX8_wherefore_21 hM hS (MPo.ok d5 (by show nI _ = 0; rw [d5]; rfl) ⟨o, eb_, hrv_5, ⟨fun k9 u1_ u2_ => by first | rfl | simp only [va_up, if_neg u1_, if_neg u2_], fun k9 u1_ u2_ => by first | rfl | simp only [va_up, if_neg u1_, if_neg u2_]⟩⟩)
  · refine m_top (show (if cd2 (ix x 4).isNone ((ix x 4).bind hd).isNone = 0 then 1 else 0) = (0 : Int32) from if_neg d5) ?_
    refine lv_if_eq (tgt := 20) hx hb dX8_wherefore_5 (by decide) (fun c5 => ?_) (fun c5 => ?_)
    · refine lv_iconst (v := 0) hx hb dX8_wherefore_20 (by decide) ?_
      rw [hQ0]
      exact e_wi hx hb hlocks hr dX8_wherefore_21 hM hS (MPo.no rfl d5 rfl ⟨fun k9 u1_ u2_ => by first | rfl | simp only [va_up, if_neg u1_, if_neg u2_], fun k9 u1_ u2_ => by first | rfl | simp only [va_up, if_neg u1_, if_neg u2_]⟩)
    · exact absurd c5 (by decide)
