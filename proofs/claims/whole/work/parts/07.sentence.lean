/-- how many of the first n are open -/
def opn (f : Nat → Int32) : Nat → Nat
  | 0 => 0
  | n + 1 => opn f n + (if f n = -1 then 1 else 0)
theorem opn_y {f : Nat → Int32} {n : Nat} (h : f n = -1) : opn f (n + 1) = opn f n + 1 := by simp only [opn]; rw [if_pos h]
theorem opn_n {f : Nat → Int32} {n : Nat} (h : ¬ f n = -1) : opn f (n + 1) = opn f n := by simp only [opn]; rw [if_neg h]; rfl
set_option maxHeartbeats 4000000 in
set_option maxRecDepth 100000 in
/-- Sentence.countOpen -/
theorem k_X6_countOpen (l : Launch) (D : va_G) (ac : Nat → ClassId) (H : Heap) (a r1 v1 r2 v2 cl n : Nat) (wf bf : Nat → Int32) (wd : Nat → Nat) (hs : SenC D ac H a r1 v1 r2 v2 cl n wf bf wd) : ROi l yX6_countOpen wsX6_countOpen ({ frames := 1, cells := 0, slots := 0, locals := 21 }) [.ref a] D ac H (fun r => r = nI (opn bf n)) := by
  refine Met.ofW (cc := cX6_countOpen) (maxL := 3) (ret := (some .int)) (by decide) rfl ?_
  intro p e s m args below meth c s₁ B hml hv
  obtain ⟨hargs, hsz, hK⟩ := hv
  have hx := B.exec
  have hb := B.bytes
  have hr := B.returns
  have hts := atoms_spec (ws := wsX6_countOpen) B.pre
  have hown : s.vm.findClass RX6 = some m.cls := findClass_of_methodNamed B.named
  have hlocks := B.notSynchronized
  subst hsz
  have inX4_ : ∀ w ∈ wsX40, w ∈ wsX6_countOpen := by decide +kernel
  have inX6_ : ∀ w ∈ wsX60, w ∈ wsX6_countOpen := by decide +kernel
  have hS : va_S (fun _ => False) s.heap s.heap [] := va_S.rf
  have hl := lv_entry ([.ref a]) (n := 3) (Nat.le_of_ble_eq_true rfl)
  have hen := lg_entry_eq m [.ref a] 3
  rw [← hargs] at hen
  rw [hen]
  generalize (lg_sl ([.ref a]) ++ List.replicate (3 - (lg_sl ([.ref a])).length) Slot.unset).toArray = ls at hl ⊢
  have hl : lv_has ls 3 [(0, .ref a)] := hl
  obtain ⟨Q0, hQ0⟩ : ∃ z, z = MQ below (va_Qi (fun r (_ : Unit) => (fun r => r = nI (opn bf n)) r) (fun _ t => t.heap = s.heap) (fun _ => False)) args s 0 0 (fun _ => False) := ⟨_, rfl⟩
  rw [← hQ0]
  obtain ⟨hn, hcl, hwd⟩ := hs.2.2.2.2.2
  refine lv_iconst (v := 0) hx hb dX6_countOpen_0 (by decide) ?_
  refine lv_istore_n (lv' := [(1, .int 0), (0, .ref a)]) hx hb dX6_countOpen_1 rfl hl (by decide) rfl (fun ls hl => ?_)
  refine lv_iconst (v := 0) hx hb dX6_countOpen_2 (by decide) ?_
  refine lv_istore_n (lv' := [(2, .int 0), (1, .int 0), (0, .ref a)]) hx hb dX6_countOpen_3 rfl hl (by decide) rfl (fun ls hl => ?_)
  have L4 : ∀ (k9 : Nat) (i : Nat) (hk : n - i < k9) (hi : i ≤ n) (locs : List Loc) (hS : va_S (fun _ => False) s.heap s.heap locs) (ls : Array Slot) (hl : lv_has ls 3 [(0, .ref a), (1, .int (nI (opn bf i))), (2, .int (nI i))]), W p l e (headSpec wsX6_countOpen ({ frames := 1, cells := 0, slots := 0, locals := 21 })).room s m args below meth c s.heap locs 0 0 Q0 (F0 m 4 ls []) := by
    intro k9
    induction k9 with
    | zero => intro i hk hi locs hS ls hl; exact absurd hk (Nat.not_lt_zero _)
    | succ k9 ih4 =>
      intro i hk hi locs hS ls hl
      refine lv_iload_n hx hb dX6_countOpen_4 rfl (lv_at hl 2 rfl) ?_
      refine lv_aload_n hx hb dX6_countOpen_5 rfl (lv_at hl 0 rfl) ?_
      refine m_get (ci := 6) (C := RX6) (T := TX6) (n := 3) (v := .ref r2) hx hb hts inX6_ hown hK rfl hs.1 2 (by decide) (hts _ (by decide +kernel)) rfl dX6_countOpen_6 ?_
      refine m_getN (host := RX7) (ci := 4) (C := RX4) (T := TX4) (n := 2) (v := .int (nI n)) hx hb hts inX4_ hown hK rfl hs.2.2.2.1 1 (by decide) 1 rfl rfl dX6_countOpen_9 ?_
      refine lv_icmp_ge (tgt := 36) hx hb dX6_countOpen_12 (by decide) (fun c12 => ?_) (fun c12 => ?_)
      · have hin : i = n := by have := le_le (b := i) c12 (by omega) (by omega); omega
        refine lv_iload_n hx hb dX6_countOpen_36 rfl (lv_at hl 1 rfl) ?_
        rw [hQ0]
        exact e_i hx hb hlocks hr dX6_countOpen_37 hS (by rw [hin])
      · have hin : i < n := nle_lt c12 (by omega) (by omega)
        refine lv_aload_n hx hb dX6_countOpen_15 rfl (lv_at hl 0 rfl) ?_
        refine m_get (ci := 6) (C := RX6) (T := TX6) (n := 3) (v := .ref r2) hx hb hts inX6_ hown hK rfl hs.1 2 (by decide) (hts _ (by decide +kernel)) rfl dX6_countOpen_16 ?_
        refine lv_iload_n hx hb dX6_countOpen_19 rfl (lv_at hl 2 rfl) ?_
        refine r_calli (va_runV (As := [.int (nI i)]) (rest := []) ⟨hx, hb, hml, hown, hts⟩ (k_X4_at l D ac _ r2 v2 n bf hs.2.2.2.1 hs.2.2.2.2.1 (by omega) (nI i)) (cwV 1 hts gX6_countOpen_X4_at rfl rfl rfl (by decide +kernel) ⟨Nat.le_of_ble_eq_true rfl, Nat.le_of_ble_eq_true rfl⟩) (pV hK (ci := 4) rfl hs.2.2.2.1) rfl rfl hl.1 rfl (lv_room (Nat.le_of_ble_eq_true rfl)) dX6_countOpen_20 ⟨Nat.le_of_ble_eq_true rfl, Nat.le_of_ble_eq_true rfl⟩) hS (fun rv_1 locs hrv_1 hS => ?_)
        subst hrv_1
        refine m_top (show ((ix (nI i) n).elim (-1) bf) = bf i from by rw [ix_nI hin (by omega)]; rfl) ?_
        refine lv_iconst (v := (-1)) hx hb dX6_countOpen_23 (by decide) ?_
        refine lv_icmp_ne (tgt := 30) hx hb dX6_countOpen_24 (by decide) (fun c24 => ?_) (fun c24 => ?_)
        · rw [← opn_n c24] at hl
          refine lv_iinc (v := nI (i + 1)) (lv' := [(2, .int (nI (i + 1))), (0, .ref a), (1, .int (nI (opn bf (i + 1))))]) hx hb dX6_countOpen_30 hl (k := 2) rfl (nI_1 _) (by decide) rfl (fun ls hl => ?_)
          refine lv_goto (tgt := 4) hx hb dX6_countOpen_33 (by decide) ?_
          exact ih4 (i + 1) (by omega) (by omega) _ hS ls (lv_sub hl [1, 2, 0] rfl)
        · refine lv_iinc (v := nI (opn bf (i + 1))) (lv' := [(1, .int (nI (opn bf (i + 1)))), (0, .ref a), (2, .int (nI i))]) hx hb dX6_countOpen_27 hl (k := 1) rfl (by rw [show opn bf (i + 1) = opn bf i + 1 from opn_y c24]; exact nI_1 _) (by decide) rfl (fun ls hl => ?_)
          refine lv_iinc (v := nI (i + 1)) (lv' := [(2, .int (nI (i + 1))), (1, .int (nI (opn bf (i + 1)))), (0, .ref a)]) hx hb dX6_countOpen_30 hl (k := 2) rfl (nI_1 _) (by decide) rfl (fun ls hl => ?_)
          refine lv_goto (tgt := 4) hx hb dX6_countOpen_33 (by decide) ?_
          exact ih4 (i + 1) (by omega) (by omega) _ hS ls (lv_sub hl [2, 1, 0] rfl)
  exact L4 _ 0 (Nat.lt_succ_self _) (Nat.zero_le _) _ hS ls (lv_sub hl [2, 1, 0] rfl)
def FoP (n : Nat) (bf : Nat → Int32) (r : Int32) : Prop := (∃ i, i < n ∧ r = nI i ∧ bf i = -1 ∧ ∀ j, j < i → ¬ bf j = -1) ∨ (r = -1 ∧ ∀ j, j < n → ¬ bf j = -1)
set_option maxHeartbeats 4000000 in
set_option maxRecDepth 100000 in
/-- Sentence.firstOpen -/
theorem k_X6_firstOpen (l : Launch) (D : va_G) (ac : Nat → ClassId) (H : Heap) (a r1 v1 r2 v2 cl n : Nat) (wf bf : Nat → Int32) (wd : Nat → Nat) (hs : SenC D ac H a r1 v1 r2 v2 cl n wf bf wd) : ROi l yX6_firstOpen wsX6_firstOpen ({ frames := 1, cells := 0, slots := 0, locals := 21 }) [.ref a] D ac H (FoP n bf) := by
  refine Met.ofW (cc := cX6_firstOpen) (maxL := 2) (ret := (some .int)) (by decide) rfl ?_
  intro p e s m args below meth c s₁ B hml hv
  obtain ⟨hargs, hsz, hK⟩ := hv
  have hx := B.exec
  have hb := B.bytes
  have hr := B.returns
  have hts := atoms_spec (ws := wsX6_firstOpen) B.pre
  have hown : s.vm.findClass RX6 = some m.cls := findClass_of_methodNamed B.named
  have hlocks := B.notSynchronized
  subst hsz
  have inX4_ : ∀ w ∈ wsX40, w ∈ wsX6_firstOpen := by decide +kernel
  have inX6_ : ∀ w ∈ wsX60, w ∈ wsX6_firstOpen := by decide +kernel
  have hS : va_S (fun _ => False) s.heap s.heap [] := va_S.rf
  have hl := lv_entry ([.ref a]) (n := 2) (Nat.le_of_ble_eq_true rfl)
  have hen := lg_entry_eq m [.ref a] 2
  rw [← hargs] at hen
  rw [hen]
  generalize (lg_sl ([.ref a]) ++ List.replicate (2 - (lg_sl ([.ref a])).length) Slot.unset).toArray = ls at hl ⊢
  have hl : lv_has ls 2 [(0, .ref a)] := hl
  obtain ⟨Q0, hQ0⟩ : ∃ z, z = MQ below (va_Qi (fun r (_ : Unit) => (FoP n bf) r) (fun _ t => t.heap = s.heap) (fun _ => False)) args s 0 0 (fun _ => False) := ⟨_, rfl⟩
  rw [← hQ0]
  obtain ⟨hn, hcl, hwd⟩ := hs.2.2.2.2.2
  refine lv_iconst (v := 0) hx hb dX6_firstOpen_0 (by decide) ?_
  refine lv_istore_n (lv' := [(1, .int 0), (0, .ref a)]) hx hb dX6_firstOpen_1 rfl hl (by decide) rfl (fun ls hl => ?_)
  have L2 : ∀ (k9 : Nat) (i : Nat) (hk : n - i < k9) (hi : i ≤ n) (hall : ∀ j, j < i → ¬ bf j = -1) (locs : List Loc) (hS : va_S (fun _ => False) s.heap s.heap locs) (ls : Array Slot) (hl : lv_has ls 2 [(0, .ref a), (1, .int (nI i))]), W p l e (headSpec wsX6_firstOpen ({ frames := 1, cells := 0, slots := 0, locals := 21 })).room s m args below meth c s.heap locs 0 0 Q0 (F0 m 2 ls []) := by
    intro k9
    induction k9 with
    | zero => intro i hk hi hall locs hS ls hl; exact absurd hk (Nat.not_lt_zero _)
    | succ k9 ih2 =>
      intro i hk hi hall locs hS ls hl
      refine lv_iload_n hx hb dX6_firstOpen_2 rfl (lv_at hl 1 rfl) ?_
      refine lv_aload_n hx hb dX6_firstOpen_3 rfl (lv_at hl 0 rfl) ?_
      refine m_get (ci := 6) (C := RX6) (T := TX6) (n := 3) (v := .ref r2) hx hb hts inX6_ hown hK rfl hs.1 2 (by decide) (hts _ (by decide +kernel)) rfl dX6_firstOpen_4 ?_
      refine m_getN (host := RX7) (ci := 4) (C := RX4) (T := TX4) (n := 2) (v := .int (nI n)) hx hb hts inX4_ hown hK rfl hs.2.2.2.1 1 (by decide) 1 rfl rfl dX6_firstOpen_7 ?_
      refine lv_icmp_ge (tgt := 33) hx hb dX6_firstOpen_10 (by decide) (fun c10 => ?_) (fun c10 => ?_)
      · have hin : i = n := by have := le_le (b := i) c10 (by omega) (by omega); omega
        refine lv_iconst (v := (-1)) hx hb dX6_firstOpen_33 (by decide) ?_
        rw [hQ0]
        exact e_i hx hb hlocks hr dX6_firstOpen_34 hS (Or.inr ⟨rfl, by rw [← hin]; exact hall⟩)
      · have hin : i < n := nle_lt c10 (by omega) (by omega)
        refine lv_aload_n hx hb dX6_firstOpen_13 rfl (lv_at hl 0 rfl) ?_
        refine m_get (ci := 6) (C := RX6) (T := TX6) (n := 3) (v := .ref r2) hx hb hts inX6_ hown hK rfl hs.1 2 (by decide) (hts _ (by decide +kernel)) rfl dX6_firstOpen_14 ?_
        refine lv_iload_n hx hb dX6_firstOpen_17 rfl (lv_at hl 1 rfl) ?_
        refine r_calli (va_runV (As := [.int (nI i)]) (rest := []) ⟨hx, hb, hml, hown, hts⟩ (k_X4_at l D ac _ r2 v2 n bf hs.2.2.2.1 hs.2.2.2.2.1 (by omega) (nI i)) (cwV 1 hts gX6_firstOpen_X4_at rfl rfl rfl (by decide +kernel) ⟨Nat.le_of_ble_eq_true rfl, Nat.le_of_ble_eq_true rfl⟩) (pV hK (ci := 4) rfl hs.2.2.2.1) rfl rfl hl.1 rfl (lv_room (Nat.le_of_ble_eq_true rfl)) dX6_firstOpen_18 ⟨Nat.le_of_ble_eq_true rfl, Nat.le_of_ble_eq_true rfl⟩) hS (fun rv_1 locs hrv_1 hS => ?_)
        subst hrv_1
        refine m_top (show ((ix (nI i) n).elim (-1) bf) = bf i from by rw [ix_nI hin (by omega)]; rfl) ?_
        refine lv_iconst (v := (-1)) hx hb dX6_firstOpen_21 (by decide) ?_
        refine lv_icmp_ne (tgt := 27) hx hb dX6_firstOpen_22 (by decide) (fun c22 => ?_) (fun c22 => ?_)
        · refine lv_iinc (v := nI (i + 1)) (lv' := [(1, .int (nI (i + 1))), (0, .ref a)]) hx hb dX6_firstOpen_27 hl (k := 1) rfl (nI_1 _) (by decide) rfl (fun ls hl => ?_)
          refine lv_goto (tgt := 2) hx hb dX6_firstOpen_30 (by decide) ?_
          exact ih2 (i + 1) (by omega) (by omega) (fun j hj => by rcases Nat.lt_succ_iff_lt_or_eq.mp hj with q | q; exact hall j q; rw [q]; exact c22) _ hS ls (lv_sub hl [1, 0] rfl)
        · refine lv_iload_n hx hb dX6_firstOpen_25 rfl (lv_at hl 1 rfl) ?_
          rw [hQ0]
          exact e_i hx hb hlocks hr dX6_firstOpen_26 hS (Or.inl ⟨i, hin, rfl, c22, hall⟩)
  exact L2 _ 0 (Nat.lt_succ_self _) (Nat.zero_le _) (fun j h => absurd h (Nat.not_lt_zero j)) _ hS ls (lv_sub hl [1, 0] rfl)
/-- the word at place j is ruled, and became something else -/
abbrev ast (fr : Nat → Int32) (cl : Nat) (wd : Nat → Nat) (bf : Nat → Int32) (j : Nat) : Prop := ¬ fr (cl * 50 + wd j) = -1 ∧ ¬ fr (cl * 50 + wd j) = bf j
set_option maxHeartbeats 4000000 in
set_option maxRecDepth 100000 in
/-- Sentence.isAstrayAt -/
theorem k_X6_isAstrayAt (l : Launch) (D : va_G) (ac : Nat → ClassId) (H : Heap) (a r1 v1 r2 v2 cl n : Nat) (wf bf : Nat → Int32) (wd : Nat → Nat) (hs : SenC D ac H a r1 v1 r2 v2 cl n wf bf wd) (u u1 u2 u3 : Nat) (fs fr ft : Nat → Int32) (h5 : RulC D ac H u u1 u2 u3 fs fr ft) (j : Nat) (hj : j < n) : ROi l yX6_isAstrayAt wsX6_isAstrayAt ({ frames := 2, cells := 0, slots := 0, locals := 45 }) [.ref a, .int (nI j), .ref u] D ac H (fun r => r = if ast fr cl wd bf j then 1 else 0) := by
  refine Met.ofW (cc := cX6_isAstrayAt) (maxL := 4) (ret := (some .boolean)) (by decide) rfl ?_
  intro p e s m args below meth c s₁ B hml hv
  obtain ⟨hargs, hsz, hK⟩ := hv
  have hx := B.exec
  have hb := B.bytes
  have hr := B.returns
  have hts := atoms_spec (ws := wsX6_isAstrayAt) B.pre
  have hown : s.vm.findClass RX6 = some m.cls := findClass_of_methodNamed B.named
  have hlocks := B.notSynchronized
  subst hsz
  have inX6_ : ∀ w ∈ wsX60, w ∈ wsX6_isAstrayAt := by decide +kernel
  have hS : va_S (fun _ => False) s.heap s.heap [] := va_S.rf
  have hl := lv_entry ([.ref a, .int (nI j), .ref u]) (n := 4) (Nat.le_of_ble_eq_true rfl)
  have hen := lg_entry_eq m [.ref a, .int (nI j), .ref u] 4
  rw [← hargs] at hen
  rw [hen]
  generalize (lg_sl ([.ref a, .int (nI j), .ref u]) ++ List.replicate (4 - (lg_sl ([.ref a, .int (nI j), .ref u])).length) Slot.unset).toArray = ls at hl ⊢
  have hl : lv_has ls 4 [(0, .ref a), (1, .int (nI j)), (2, .ref u)] := hl
  obtain ⟨hn, hcl, hwd⟩ := hs.2.2.2.2.2
  have hj2 := hwd j hj
  refine lv_aload_n hx hb dX6_isAstrayAt_0 rfl (lv_at hl 2 rfl) ?_
  refine lv_aload_n hx hb dX6_isAstrayAt_1 rfl (lv_at hl 0 rfl) ?_
  refine m_get (ci := 6) (C := RX6) (T := TX6) (n := 3) (v := .int (nI cl)) hx hb hts inX6_ hown hK rfl hs.1 0 (by decide) (hts _ (by decide +kernel)) rfl dX6_isAstrayAt_2 ?_
  refine lv_aload_n hx hb dX6_isAstrayAt_5 rfl (lv_at hl 0 rfl) ?_
  refine m_get (ci := 6) (C := RX6) (T := TX6) (n := 3) (v := .ref r1) hx hb hts inX6_ hown hK rfl hs.1 1 (by decide) (hts _ (by decide +kernel)) rfl dX6_isAstrayAt_6 ?_
  refine lv_iload_n hx hb dX6_isAstrayAt_9 rfl (lv_at hl 1 rfl) ?_
  refine r_calli (va_runV (As := [.int (nI j)]) (rest := [.int (nI cl), .ref u]) ⟨hx, hb, hml, hown, hts⟩ (k_X4_at l D ac _ r1 v1 n wf hs.2.1 hs.2.2.1 (by omega) (nI j)) (cwV 1 hts gX6_isAstrayAt_X4_at rfl rfl rfl (by decide +kernel) ⟨Nat.le_of_ble_eq_true rfl, Nat.le_of_ble_eq_true rfl⟩) (pV hK (ci := 4) rfl hs.2.1) rfl rfl hl.1 rfl (lv_room (Nat.le_of_ble_eq_true rfl)) dX6_isAstrayAt_10 ⟨Nat.le_of_ble_eq_true rfl, Nat.le_of_ble_eq_true rfl⟩) hS (fun rv_1 locs hrv_1 hS => ?_)
  subst hrv_1
  refine m_top (show ((ix (nI j) n).elim (-1) wf) = nI (wd j) from by rw [ix_nI hj (by omega)]; exact hj2.1) ?_
  refine r_calli (va_runV (As := [.int (nI cl), .int (nI (wd j))]) (rest := []) ⟨hx, hb, hml, hown, hts⟩ (k_X5_rulingOf l D ac _ u u1 u2 u3 fs fr ft ⟨h5.1, h5.2.1, h5.2.2.1, h5.2.2.2⟩ cl (wd j) (by omega) (hj2.2)) (cwV 2 hts gX6_isAstrayAt_X5_rulingOf rfl rfl rfl (by decide +kernel) ⟨Nat.le_of_ble_eq_true rfl, Nat.le_of_ble_eq_true rfl⟩) (pV hK (ci := 5) rfl h5.1) rfl rfl hl.1 rfl (lv_room (Nat.le_of_ble_eq_true rfl)) dX6_isAstrayAt_13 ⟨Nat.le_of_ble_eq_true rfl, Nat.le_of_ble_eq_true rfl⟩) hS (fun rv_2 locs hrv_2 hS => ?_)
  subst hrv_2
  refine lv_istore_n (lv' := [(3, .int (fr (cl * 50 + (wd j)))), (0, .ref a), (1, .int (nI j)), (2, .ref u)]) hx hb dX6_isAstrayAt_16 rfl hl (by decide) rfl (fun ls hl => ?_)
  refine lv_iload_n hx hb dX6_isAstrayAt_17 rfl (lv_at hl 0 rfl) ?_
  refine lv_iconst (v := (-1)) hx hb dX6_isAstrayAt_18 (by decide) ?_
  refine lv_icmp_eq (tgt := 38) hx hb dX6_isAstrayAt_19 (by decide) (fun c19 => ?_) (fun c19 => ?_)
  · refine lv_iconst (v := 0) hx hb dX6_isAstrayAt_38 (by decide) ?_
    exact e_z hx hb hlocks hr dX6_isAstrayAt_39 (by decide) hS (by simp [ast, *])
  · refine lv_iload_n hx hb dX6_isAstrayAt_22 rfl (lv_at hl 0 rfl) ?_
    refine lv_aload_n hx hb dX6_isAstrayAt_23 rfl (lv_at hl 1 rfl) ?_
    refine m_get (ci := 6) (C := RX6) (T := TX6) (n := 3) (v := .ref r2) hx hb hts inX6_ hown hK rfl hs.1 2 (by decide) (hts _ (by decide +kernel)) rfl dX6_isAstrayAt_24 ?_
    refine lv_iload_n hx hb dX6_isAstrayAt_27 rfl (lv_at hl 2 rfl) ?_
    refine r_calli (va_runV (As := [.int (nI j)]) (rest := [.int (fr (cl * 50 + (wd j)))]) ⟨hx, hb, hml, hown, hts⟩ (k_X4_at l D ac _ r2 v2 n bf hs.2.2.2.1 hs.2.2.2.2.1 (by omega) (nI j)) (cwV 1 hts gX6_isAstrayAt_X4_at rfl rfl rfl (by decide +kernel) ⟨Nat.le_of_ble_eq_true rfl, Nat.le_of_ble_eq_true rfl⟩) (pV hK (ci := 4) rfl hs.2.2.2.1) rfl rfl hl.1 rfl (lv_room (Nat.le_of_ble_eq_true rfl)) dX6_isAstrayAt_28 ⟨Nat.le_of_ble_eq_true rfl, Nat.le_of_ble_eq_true rfl⟩) hS (fun rv_3 locs hrv_3 hS => ?_)
    subst hrv_3
    refine m_top (show ((ix (nI j) n).elim (-1) bf) = bf j from by rw [ix_nI hj (by omega)]; rfl) ?_
    refine lv_icmp_eq (tgt := 38) hx hb dX6_isAstrayAt_31 (by decide) (fun c31 => ?_) (fun c31 => ?_)
    · refine lv_iconst (v := 0) hx hb dX6_isAstrayAt_38 (by decide) ?_
      exact e_z hx hb hlocks hr dX6_isAstrayAt_39 (by decide) hS (by simp [ast, *])
    · refine lv_iconst (v := 1) hx hb dX6_isAstrayAt_34 (by decide) ?_
      refine lv_goto (tgt := 39) hx hb dX6_isAstrayAt_35 (by decide) ?_
      exact e_z hx hb hlocks hr dX6_isAstrayAt_39 (by decide) hS (by simp [ast, *])
def FaP (n : Nat) (fr : Nat → Int32) (cl : Nat) (wd : Nat → Nat) (bf : Nat → Int32) (r : Int32) : Prop := (∃ i, i < n ∧ r = nI i ∧ ast fr cl wd bf i ∧ ∀ j, j < i → ¬ ast fr cl wd bf j) ∨ (r = -1 ∧ ∀ j, j < n → ¬ ast fr cl wd bf j)
set_option maxHeartbeats 4000000 in
set_option maxRecDepth 100000 in
/-- Sentence.firstAstray -/
theorem k_X6_firstAstray (l : Launch) (D : va_G) (ac : Nat → ClassId) (H : Heap) (a r1 v1 r2 v2 cl n : Nat) (wf bf : Nat → Int32) (wd : Nat → Nat) (hs : SenC D ac H a r1 v1 r2 v2 cl n wf bf wd) (u u1 u2 u3 : Nat) (fs fr ft : Nat → Int32) (h5 : RulC D ac H u u1 u2 u3 fs fr ft) : ROi l yX6_firstAstray wsX6_firstAstray ({ frames := 3, cells := 0, slots := 0, locals := 68 }) [.ref a, .ref u] D ac H (FaP n fr cl wd bf) := by
  refine Met.ofW (cc := cX6_firstAstray) (maxL := 3) (ret := (some .int)) (by decide) rfl ?_
  intro p e s m args below meth c s₁ B hml hv
  obtain ⟨hargs, hsz, hK⟩ := hv
  have hx := B.exec
  have hb := B.bytes
  have hr := B.returns
  have hts := atoms_spec (ws := wsX6_firstAstray) B.pre
  have hown : s.vm.findClass RX6 = some m.cls := findClass_of_methodNamed B.named
  have hlocks := B.notSynchronized
  subst hsz
  have inX4_ : ∀ w ∈ wsX40, w ∈ wsX6_firstAstray := by decide +kernel
  have inX6_ : ∀ w ∈ wsX60, w ∈ wsX6_firstAstray := by decide +kernel
  have hS : va_S (fun _ => False) s.heap s.heap [] := va_S.rf
  have hl := lv_entry ([.ref a, .ref u]) (n := 3) (Nat.le_of_ble_eq_true rfl)
  have hen := lg_entry_eq m [.ref a, .ref u] 3
  rw [← hargs] at hen
  rw [hen]
  generalize (lg_sl ([.ref a, .ref u]) ++ List.replicate (3 - (lg_sl ([.ref a, .ref u])).length) Slot.unset).toArray = ls at hl ⊢
  have hl : lv_has ls 3 [(0, .ref a), (1, .ref u)] := hl
  obtain ⟨Q0, hQ0⟩ : ∃ z, z = MQ below (va_Qi (fun r (_ : Unit) => (FaP n fr cl wd bf) r) (fun _ t => t.heap = s.heap) (fun _ => False)) args s 0 0 (fun _ => False) := ⟨_, rfl⟩
  rw [← hQ0]
  obtain ⟨hn, hcl, hwd⟩ := hs.2.2.2.2.2
  refine lv_iconst (v := 0) hx hb dX6_firstAstray_0 (by decide) ?_
  refine lv_istore_n (lv' := [(2, .int 0), (0, .ref a), (1, .ref u)]) hx hb dX6_firstAstray_1 rfl hl (by decide) rfl (fun ls hl => ?_)
  have L2 : ∀ (k9 : Nat) (i : Nat) (hk : n - i < k9) (hi : i ≤ n) (hall : ∀ j, j < i → ¬ ast fr cl wd bf j) (locs : List Loc) (hS : va_S (fun _ => False) s.heap s.heap locs) (ls : Array Slot) (hl : lv_has ls 3 [(0, .ref a), (1, .ref u), (2, .int (nI i))]), W p l e (headSpec wsX6_firstAstray ({ frames := 3, cells := 0, slots := 0, locals := 68 })).room s m args below meth c s.heap locs 0 0 Q0 (F0 m 2 ls []) := by
    intro k9
    induction k9 with
    | zero => intro i hk hi hall locs hS ls hl; exact absurd hk (Nat.not_lt_zero _)
    | succ k9 ih2 =>
      intro i hk hi hall locs hS ls hl
      refine lv_iload_n hx hb dX6_firstAstray_2 rfl (lv_at hl 2 rfl) ?_
      refine lv_aload_n hx hb dX6_firstAstray_3 rfl (lv_at hl 0 rfl) ?_
      refine m_get (ci := 6) (C := RX6) (T := TX6) (n := 3) (v := .ref r1) hx hb hts inX6_ hown hK rfl hs.1 1 (by decide) (hts _ (by decide +kernel)) rfl dX6_firstAstray_4 ?_
      refine m_getN (host := RX7) (ci := 4) (C := RX4) (T := TX4) (n := 2) (v := .int (nI n)) hx hb hts inX4_ hown hK rfl hs.2.1 1 (by decide) 1 rfl rfl dX6_firstAstray_7 ?_
      refine lv_icmp_ge (tgt := 30) hx hb dX6_firstAstray_10 (by decide) (fun c10 => ?_) (fun c10 => ?_)
      · have hin : i = n := by have := le_le (b := i) c10 (by omega) (by omega); omega
        refine lv_iconst (v := (-1)) hx hb dX6_firstAstray_30 (by decide) ?_
        rw [hQ0]
        exact e_i hx hb hlocks hr dX6_firstAstray_31 hS (Or.inr ⟨rfl, by rw [← hin]; exact hall⟩)
      · have hin : i < n := nle_lt c10 (by omega) (by omega)
        refine lv_aload_n hx hb dX6_firstAstray_13 rfl (lv_at hl 0 rfl) ?_
        refine lv_iload_n hx hb dX6_firstAstray_14 rfl (lv_at hl 2 rfl) ?_
        refine lv_aload_n hx hb dX6_firstAstray_15 rfl (lv_at hl 1 rfl) ?_
        refine r_calli (va_runV (As := [.int (nI i), .ref u]) (rest := []) ⟨hx, hb, hml, hown, hts⟩ (k_X6_isAstrayAt l D ac _ a r1 v1 r2 v2 cl n wf bf wd hs u u1 u2 u3 fs fr ft ⟨h5.1, h5.2.1, h5.2.2.1, h5.2.2.2⟩ i (by omega)) (cwV 2 hts gX6_firstAstray_X6_isAstrayAt rfl rfl rfl (by decide +kernel) ⟨Nat.le_of_ble_eq_true rfl, Nat.le_of_ble_eq_true rfl⟩) (pV hK (ci := 6) rfl hs.1) rfl rfl hl.1 rfl (lv_room (Nat.le_of_ble_eq_true rfl)) dX6_firstAstray_16 ⟨Nat.le_of_ble_eq_true rfl, Nat.le_of_ble_eq_true rfl⟩) hS (fun rv_1 locs hrv_1 hS => ?_)
        subst hrv_1
        refine lv_if_eq (tgt := 24) hx hb dX6_firstAstray_19 (by decide) (fun c19 => ?_) (fun c19 => ?_)
        · refine lv_iinc (v := nI (i + 1)) (lv' := [(2, .int (nI (i + 1))), (0, .ref a), (1, .ref u)]) hx hb dX6_firstAstray_24 hl (k := 2) rfl (nI_1 _) (by decide) rfl (fun ls hl => ?_)
          refine lv_goto (tgt := 2) hx hb dX6_firstAstray_27 (by decide) ?_
          exact ih2 (i + 1) (by omega) (by omega) (fun j hj => by rcases Nat.lt_succ_iff_lt_or_eq.mp hj with q | q; exact hall j q; rw [q]; intro h9; rw [if_pos h9] at c19; exact absurd c19 (by decide)) _ hS ls (lv_sub hl [1, 2, 0] rfl)
        · refine lv_iload_n hx hb dX6_firstAstray_22 rfl (lv_at hl 2 rfl) ?_
          rw [hQ0]
          exact e_i hx hb hlocks hr dX6_firstAstray_23 hS (Or.inl ⟨i, hin, rfl, Classical.byContradiction (fun h9 => c19 (if_neg h9)), hall⟩)
  exact L2 _ 0 (Nat.lt_succ_self _) (Nat.zero_le _) (fun j h => absurd h (Nat.not_lt_zero j)) _ hS ls (lv_sub hl [1, 2, 0] rfl)
theorem va_upeq {w w1 : Nat → va_E} {v : Nat} {e : va_E} (h : w1 v = e) (h2 : ∀ q, q ≠ v → w1 q = w q) : w1 = va_up w v e := by
  funext q
  by_cases q1 : q = v
  · rw [q1, h, va_up_self]
  · rw [va_up_ne _ _ q1, h2 q q1]
set_option maxHeartbeats 4000000 in
set_option maxRecDepth 100000 in
/-- Sentence.forgetAll -/
theorem k_X6_forgetAll (l : Launch) (D : va_G) (ac : Nat → ClassId) (H : Heap) (A : Nat → Prop) (N : Nat) (adr : Nat → Nat) (w : Nat → va_E) (hM : MW D A N adr w H) (a r1 r2 v2 cl n : Nat) (bf : Nat → Int32) (ha : a < N) (hr2 : r2 < N) (hv2 : v2 < N) (hd : a ≠ r2 ∧ a ≠ v2 ∧ r2 ≠ v2) (hn : n ≤ 8) (g0 : w a = .inr (6, [.int (nI cl), .ref r1, .ref (adr r2)])) (g1 : w r2 = .inr (4, [.ref (adr v2), .int (nI n)])) (g2 : w v2 = .inl (ac 0, 8, .inl bf)) : WRv l yX6_forgetAll wsX6_forgetAll ({ frames := 2, cells := 0, slots := 0, locals := 43 }) [.ref (adr a)] D ac H A N adr (fun w1 => w1 = va_up w v2 (.inl (ac 0, 8, .inl (mixF n (fun _ => -1) bf)))) := by
  refine Met.ofW (cc := cX6_forgetAll) (maxL := 2) (ret := none) (by decide) rfl ?_
  intro p e s m args below meth c s₁ B hml hv
  obtain ⟨hargs, hsz, hK⟩ := hv
  have hx := B.exec
  have hb := B.bytes
  have hr := B.returns
  have hts := atoms_spec (ws := wsX6_forgetAll) B.pre
  have hown : s.vm.findClass RX6 = some m.cls := findClass_of_methodNamed B.named
  have hlocks := B.notSynchronized
  subst hsz
  have inX4_ : ∀ w ∈ wsX40, w ∈ wsX6_forgetAll := by decide +kernel
  have inX6_ : ∀ w ∈ wsX60, w ∈ wsX6_forgetAll := by decide +kernel
  have hS : va_S A s.heap s.heap [] := va_S.rf
  have hl := lv_entry ([.ref (adr a)]) (n := 2) (Nat.le_of_ble_eq_true rfl)
  have hen := lg_entry_eq m [.ref (adr a)] 2
  rw [← hargs] at hen
  rw [hen]
  generalize (lg_sl ([.ref (adr a)]) ++ List.replicate (2 - (lg_sl ([.ref (adr a)])).length) Slot.unset).toArray = ls at hl ⊢
  have hl : lv_has ls 2 [(0, .ref (adr a))] := hl
  obtain ⟨Q0, hQ0⟩ : ∃ z, z = MQ below (va_Qv (fun w1 => w1 = va_up w v2 (.inl (ac 0, 8, .inl (mixF n (fun _ => -1) bf)))) (fun c t => MW D A N adr c t.heap) A) args s 0 0 A := ⟨_, rfl⟩
  rw [← hQ0]
  refine lv_iconst (v := 0) hx hb dX6_forgetAll_0 (by decide) ?_
  refine lv_istore_n (lv' := [(1, .int 0), (0, .ref (adr a))]) hx hb dX6_forgetAll_1 rfl hl (by decide) rfl (fun ls hl => ?_)
  have L2 : ∀ (k9 : Nat) (i : Nat) (hk : n - i < k9) (hi : i ≤ n) (w1 : Nat → va_E) (f0 : w1 a = .inr (6, [.int (nI cl), .ref r1, .ref (adr r2)])) (f1 : w1 r2 = .inr (4, [.ref (adr v2), .int (nI n)])) (f2 : w1 v2 = .inl (ac 0, 8, .inl (mixF i (fun _ => -1) bf))) (f3 : ∀ q, q ≠ v2 → w1 q = w q) (H : Heap) (locs : List Loc) (hM : MW D A N adr w1 H) (hS : va_S A s.heap H locs) (ls : Array Slot) (hl : lv_has ls 2 [(0, .ref (adr a)), (1, .int (nI i))]), W p l e (headSpec wsX6_forgetAll ({ frames := 2, cells := 0, slots := 0, locals := 43 })).room s m args below meth c H locs 0 0 Q0 (F0 m 2 ls []) := by
    intro k9
    induction k9 with
    | zero => intro i hk hi w1 f0 f1 f2 f3 H locs hM hS ls hl; exact absurd hk (Nat.not_lt_zero _)
    | succ k9 ih2 =>
      intro i hk hi w1 f0 f1 f2 f3 H locs hM hS ls hl
      refine lv_iload_n hx hb dX6_forgetAll_2 rfl (lv_at hl 1 rfl) ?_
      refine lv_aload_n hx hb dX6_forgetAll_3 rfl (lv_at hl 0 rfl) ?_
      refine m_get (ci := 6) (C := RX6) (T := TX6) (n := 3) (v := .ref (adr r2)) hx hb hts inX6_ hown hK rfl (hM.cel ha f0) 2 (by decide) (hts _ (by decide +kernel)) rfl dX6_forgetAll_4 ?_
      refine m_getN (host := RX7) (ci := 4) (C := RX4) (T := TX4) (n := 2) (v := .int (nI n)) hx hb hts inX4_ hown hK rfl (hM.cel hr2 f1) 1 (by decide) 1 rfl rfl dX6_forgetAll_7 ?_
      refine lv_icmp_ge (tgt := 28) hx hb dX6_forgetAll_10 (by decide) (fun c10 => ?_) (fun c10 => ?_)
      · have hin : i = n := by have := le_le (b := i) c10 (by omega) (by omega); omega
        rw [hQ0]
        exact e_wv hx hb hlocks hr dX6_forgetAll_28 hM hS (by rw [← hin]; exact va_upeq f2 f3)
      · have hin : i < n := nle_lt c10 (by omega) (by omega)
        refine lv_aload_n hx hb dX6_forgetAll_13 rfl (lv_at hl 0 rfl) ?_
        refine m_get (ci := 6) (C := RX6) (T := TX6) (n := 3) (v := .ref (adr r2)) hx hb hts inX6_ hown hK rfl (hM.cel ha f0) 2 (by decide) (hts _ (by decide +kernel)) rfl dX6_forgetAll_14 ?_
        refine lv_iload_n hx hb dX6_forgetAll_17 rfl (lv_at hl 1 rfl) ?_
        refine lv_iconst (v := (-1)) hx hb dX6_forgetAll_18 (by decide) ?_
        refine w_callv (va_runV (As := [.int (nI i), .int (-1)]) (rest := []) ⟨hx, hb, hml, hown, hts⟩ (k_X4_put l D ac _ A N adr w1 hM r2 v2 n (mixF i (fun _ => -1) bf) hr2 hv2 (by omega) f1 f2 (by omega) i (by omega) (-1)) (cwV 2 hts gX6_forgetAll_X4_put rfl rfl rfl (by decide +kernel) ⟨Nat.le_of_ble_eq_true rfl, Nat.le_of_ble_eq_true rfl⟩) (pV hK (ci := 4) rfl (hM.cel hr2 f1)) rfl rfl hl.1 rfl (lv_room (Nat.le_of_ble_eq_true rfl)) dX6_forgetAll_19 ⟨Nat.le_of_ble_eq_true rfl, Nat.le_of_ble_eq_true rfl⟩) hS (fun w_2 H locs hw_2 hM hS => ?_)
        have ef_ : upd (mixF i (fun _ => -1) bf) i (-1) = mixF (i + 1) (fun _ => -1) bf := mixF_s
        rw [ef_] at hw_2
        clear ef_
        have h_3 : w_2 a = .inr (6, [.int (nI cl), .ref r1, .ref (adr r2)]) := by rw [hw_2, va_up_ne _ _ (by omega)]; exact f0
        have h_4 : w_2 r2 = .inr (4, [.ref (adr v2), .int (nI n)]) := by rw [hw_2, va_up_ne _ _ (by omega)]; exact f1
        have h_5 : w_2 v2 = .inl (ac 0, 8, .inl (mixF (i + 1) (fun _ => -1) bf)) := by rw [hw_2]; exact va_up_self _ _ _
        refine lv_iinc (v := nI (i + 1)) (lv' := [(1, .int (nI (i + 1))), (0, .ref (adr a))]) hx hb dX6_forgetAll_22 hl (k := 1) rfl (nI_1 _) (by decide) rfl (fun ls hl => ?_)
        refine lv_goto (tgt := 2) hx hb dX6_forgetAll_25 (by decide) ?_
        exact ih2 (i + 1) (by omega) (by omega) w_2 h_3 h_4 h_5 (fun q q1 => by rw [hw_2, va_up_ne _ _ q1]; exact f3 q q1) _ _ hM hS ls (lv_sub hl [1, 0] rfl)
  exact L2 _ 0 (Nat.lt_succ_self _) (Nat.zero_le _) w g0 g1 (by rw [mixF_0]; exact g2) (fun q _ => rfl) _ _ hM hS ls (lv_sub hl [1, 0] rfl)
