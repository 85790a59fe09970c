def FbP (b : Int32) (n : Nat) (fr : Nat → Int32) (cl : Nat) (wd : Nat → Nat) (bf : Nat → Int32) (r : Int32) : Prop := (¬ b = 0 ∧ r = -1) ∨ (b = 0 ∧ ∃ i, i < n ∧ r = nI i ∧ ast fr cl wd bf i ∧ ∀ j, j < i → ¬ ast fr cl wd bf j) ∨ (b = 0 ∧ r = -1 ∧ ∀ j, j < n → ¬ ast fr cl wd bf j)
set_option maxHeartbeats 4000000 in
set_option maxRecDepth 100000 in
/-- Order.firstBroken -/
theorem k_X3_firstBroken (l : Launch) (D : va_G) (ac : Nat → ClassId) (H : Heap) (a r1 v1 r2 v2 cl n : Nat) (wf bf : Nat → Int32) (wd : Nat → Nat) (hs : SenC D ac H a r1 v1 r2 v2 cl n wf bf wd) (u u1 u2 u3 : Nat) (fs fr ft : Nat → Int32) (h5 : RulC D ac H u u1 u2 u3 fs fr ft) (o : Nat) (x1 b x3 x4 x5 x6 : Int32) (h9 : Cel D H o (.inr (3, [.int x1, .int b, .ref a, .int x3, .int x4, .int x5, .int x6]))) : ROi l yX3_firstBroken wsX3_firstBroken ({ frames := 4, cells := 0, slots := 0, locals := 90 }) [.ref o, .ref u] D ac H (FbP b n fr cl wd bf) := by
  refine Met.ofW (cc := cX3_firstBroken) (maxL := 2) (ret := (some .int)) (by decide) rfl ?_
  intro p e s m args below meth c s₁ B hml hv
  obtain ⟨hargs, hsz, hK⟩ := hv
  have hx := B.exec
  have hb := B.bytes
  have hr := B.returns
  have hts := atoms_spec (ws := wsX3_firstBroken) B.pre
  have hown : s.vm.findClass RX3 = some m.cls := findClass_of_methodNamed B.named
  have hlocks := B.notSynchronized
  subst hsz
  have inX3_ : ∀ w ∈ wsX30, w ∈ wsX3_firstBroken := by decide +kernel
  have hS : va_S (fun _ => False) s.heap s.heap [] := va_S.rf
  have hl := lv_entry ([.ref o, .ref u]) (n := 2) (Nat.le_of_ble_eq_true rfl)
  have hen := lg_entry_eq m [.ref o, .ref u] 2
  rw [← hargs] at hen
  rw [hen]
  generalize (lg_sl ([.ref o, .ref u]) ++ List.replicate (2 - (lg_sl ([.ref o, .ref u])).length) Slot.unset).toArray = ls at hl ⊢
  have hl : lv_has ls 2 [(0, .ref o), (1, .ref u)] := hl
  refine lv_aload_n hx hb dX3_firstBroken_0 rfl (lv_at hl 0 rfl) ?_
  refine m_get (ci := 3) (C := RX3) (T := TX3) (n := 7) (v := .int b) hx hb hts inX3_ hown hK rfl h9 1 (by decide) (hts _ (by decide +kernel)) rfl dX3_firstBroken_1 ?_
  refine lv_if_eq (tgt := 11) hx hb dX3_firstBroken_4 (by decide) (fun c4 => ?_) (fun c4 => ?_)
  · refine lv_aload_n hx hb dX3_firstBroken_11 rfl (lv_at hl 0 rfl) ?_
    refine m_get (ci := 3) (C := RX3) (T := TX3) (n := 7) (v := .ref a) hx hb hts inX3_ hown hK rfl h9 2 (by decide) (hts _ (by decide +kernel)) rfl dX3_firstBroken_12 ?_
    refine lv_aload_n hx hb dX3_firstBroken_15 rfl (lv_at hl 1 rfl) ?_
    refine r_calli (va_runV (As := [.ref u]) (rest := []) ⟨hx, hb, hml, hown, hts⟩ (k_X6_firstAstray l D ac _ a r1 v1 r2 v2 cl n wf bf wd hs u u1 u2 u3 fs fr ft ⟨h5.1, h5.2.1, h5.2.2.1, h5.2.2.2⟩) (cwV 1 hts gX3_firstBroken_X6_firstAstray rfl rfl rfl (by decide +kernel) ⟨Nat.le_of_ble_eq_true rfl, Nat.le_of_ble_eq_true rfl⟩) (pV hK (ci := 6) rfl hs.1) rfl rfl hl.1 rfl (lv_room (Nat.le_of_ble_eq_true rfl)) dX3_firstBroken_16 ⟨Nat.le_of_ble_eq_true rfl, Nat.le_of_ble_eq_true rfl⟩) hS (fun rv_1 locs hrv_1 hS => ?_)
    exact e_i hx hb hlocks hr dX3_firstBroken_19 hS (by first | exact Or.inl ⟨c4, rfl⟩ | (rcases hrv_1 with q | q; exact Or.inr (Or.inl ⟨c4, q⟩); exact Or.inr (Or.inr ⟨c4, q⟩)))
  · refine lv_iconst (v := (-1)) hx hb dX3_firstBroken_7 (by decide) ?_
    refine lv_goto (tgt := 19) hx hb dX3_firstBroken_8 (by decide) ?_
    exact e_i hx hb hlocks hr dX3_firstBroken_19 hS (by first | exact Or.inl ⟨c4, rfl⟩ | (rcases hrv_1 with q | q; exact Or.inr (Or.inl ⟨c4, q⟩); exact Or.inr (Or.inr ⟨c4, q⟩)))
def WhyP (b : Int32) (n : Nat) (fr : Nat → Int32) (cl : Nat) (wd : Nat → Nat) (bf : Nat → Int32) (r : Int32) : Prop := (r = 1 ∧ ∃ j, j < n ∧ bf j = -1) ∨ (r = 2 ∧ (∀ j, j < n → ¬ bf j = -1) ∧ b = 0 ∧ ∃ j, j < n ∧ ast fr cl wd bf j) ∨ (r = 0 ∧ (∀ j, j < n → ¬ bf j = -1) ∧ (¬ b = 0 ∨ ∀ j, j < n → ¬ ast fr cl wd bf j))
def WheP (b : Int32) (n : Nat) (fr : Nat → Int32) (cl : Nat) (wd : Nat → Nat) (bf : Nat → Int32) (r : Int32) : Prop := (∃ i, i < n ∧ r = nI i ∧ bf i = -1 ∧ ∀ j, j < i → ¬ bf j = -1) ∨ ((∀ j, j < n → ¬ bf j = -1) ∧ ((b = 0 ∧ ∃ i, i < n ∧ r = nI i ∧ ast fr cl wd bf i ∧ ∀ j, j < i → ¬ ast fr cl wd bf j) ∨ (r = -1 ∧ (¬ b = 0 ∨ ∀ j, j < n → ¬ ast fr cl wd bf j))))
theorem nI_nm1 {i n : Nat} (h : i < n) (hn : n ≤ 8) : ¬ nI i = -1 := by
  intro q
  have h1 : (nI i).toInt = (-1 : Int32).toInt := by rw [q]
  rw [nI_toInt (by omega), show (-1 : Int32).toInt = -1 from by decide] at h1
  omega
theorem why_1 {n : Nat} {r b : Int32} {fr bf : Nat → Int32} {cl : Nat} {wd : Nat → Nat} (h : (∃ i, i < n ∧ r = nI i ∧ bf i = -1 ∧ ∀ j, j < i → ¬ bf j = -1) ∨ (r = -1 ∧ ∀ j, j < n → ¬ bf j = -1)) (c : ¬ r = -1) : ((1 : Int32) = 1 ∧ ∃ j, j < n ∧ bf j = -1) ∨ ((1 : Int32) = 2 ∧ (∀ j, j < n → ¬ bf j = -1) ∧ b = 0 ∧ ∃ j, j < n ∧ ast fr cl wd bf j) ∨ ((1 : Int32) = 0 ∧ (∀ j, j < n → ¬ bf j = -1) ∧ (¬ b = 0 ∨ ∀ j, j < n → ¬ ast fr cl wd bf j)) := by
  rcases h with ⟨i, q1, q2, q3, q4⟩ | ⟨q1, q2⟩
  · exact Or.inl ⟨rfl, i, q1, q3⟩
  · exact absurd q1 c
theorem why_2 {n : Nat} {r r2 b : Int32} {fr bf : Nat → Int32} {cl : Nat} {wd : Nat → Nat} (hn : n ≤ 8) (h : (∃ i, i < n ∧ r = nI i ∧ bf i = -1 ∧ ∀ j, j < i → ¬ bf j = -1) ∨ (r = -1 ∧ ∀ j, j < n → ¬ bf j = -1)) (c : r = -1) : ∀ j, j < n → ¬ bf j = -1 := by
  rcases h with ⟨i, q1, q2, q3, q4⟩ | ⟨q1, q2⟩
  · exact absurd (q2.symm.trans c) (nI_nm1 q1 hn)
  · exact q2
theorem why_3 {n : Nat} {r b : Int32} {fr bf : Nat → Int32} {cl : Nat} {wd : Nat → Nat} (hn : n ≤ 8) (h : (¬ b = 0 ∧ r = -1) ∨ (b = 0 ∧ ∃ i, i < n ∧ r = nI i ∧ ast fr cl wd bf i ∧ ∀ j, j < i → ¬ ast fr cl wd bf j) ∨ (b = 0 ∧ r = -1 ∧ ∀ j, j < n → ¬ ast fr cl wd bf j)) : (b = 0 ∧ (∃ i, i < n ∧ r = nI i ∧ ast fr cl wd bf i ∧ ∀ j, j < i → ¬ ast fr cl wd bf j) ∧ ¬ r = -1) ∨ (r = -1 ∧ (¬ b = 0 ∨ ∀ j, j < n → ¬ ast fr cl wd bf j)) := by
  rcases h with ⟨q1, q2⟩ | ⟨q1, i, q2, q3, q4, q5⟩ | ⟨q1, q2, q3⟩
  · exact Or.inr ⟨q2, Or.inl q1⟩
  · exact Or.inl ⟨q1, ⟨i, q2, q3, q4, q5⟩, by rw [q3]; exact nI_nm1 q2 hn⟩
  · exact Or.inr ⟨q2, Or.inr q3⟩
theorem why_5 {n : Nat} {r r2 b : Int32} {fr bf : Nat → Int32} {cl : Nat} {wd : Nat → Nat} (hn : n ≤ 8) (h : (∃ i, i < n ∧ r = nI i ∧ bf i = -1 ∧ ∀ j, j < i → ¬ bf j = -1) ∨ (r = -1 ∧ ∀ j, j < n → ¬ bf j = -1)) (c : r = -1) (h2 : (¬ b = 0 ∧ r2 = -1) ∨ (b = 0 ∧ ∃ i, i < n ∧ r2 = nI i ∧ ast fr cl wd bf i ∧ ∀ j, j < i → ¬ ast fr cl wd bf j) ∨ (b = 0 ∧ r2 = -1 ∧ ∀ j, j < n → ¬ ast fr cl wd bf j)) {v : Int32} (hv : (¬ r2 = -1 ∧ v = 2) ∨ (r2 = -1 ∧ v = 0)) : (v = 1 ∧ ∃ j, j < n ∧ bf j = -1) ∨ (v = 2 ∧ (∀ j, j < n → ¬ bf j = -1) ∧ b = 0 ∧ ∃ j, j < n ∧ ast fr cl wd bf j) ∨ (v = 0 ∧ (∀ j, j < n → ¬ bf j = -1) ∧ (¬ b = 0 ∨ ∀ j, j < n → ¬ ast fr cl wd bf j)) := by
  have q0 := why_2 (r2 := r2) (b := b) (fr := fr) (cl := cl) (wd := wd) hn h c
  rcases why_3 hn h2 with ⟨q1, ⟨i, q2, q3, q4, q5⟩, q6⟩ | ⟨q1, q2⟩
  · rcases hv with ⟨_, hv⟩ | ⟨z, _⟩
    · exact Or.inr (Or.inl ⟨hv, q0, q1, i, q2, q4⟩)
    · exact absurd z q6
  · rcases hv with ⟨z, _⟩ | ⟨_, hv⟩
    · exact absurd q1 z
    · exact Or.inr (Or.inr ⟨hv, q0, q2⟩)
set_option maxHeartbeats 4000000 in
set_option maxRecDepth 100000 in
/-- Order.whyNot -/
theorem k_X3_whyNot (l : Launch) (D : va_G) (ac : Nat → ClassId) (H : Heap) (a r1 v1 r2 v2 cl n : Nat) (wf bf : Nat → Int32) (wd : Nat → Nat) (hs : SenC D ac H a r1 v1 r2 v2 cl n wf bf wd) (u u1 u2 u3 : Nat) (fs fr ft : Nat → Int32) (h5 : RulC D ac H u u1 u2 u3 fs fr ft) (o : Nat) (x1 b x3 x4 x5 x6 : Int32) (h9 : Cel D H o (.inr (3, [.int x1, .int b, .ref a, .int x3, .int x4, .int x5, .int x6]))) : ROi l yX3_whyNot wsX3_whyNot ({ frames := 5, cells := 0, slots := 0, locals := 111 }) [.ref o, .ref u] D ac H (WhyP b n fr cl wd bf) := by
  refine Met.ofW (cc := cX3_whyNot) (maxL := 2) (ret := (some .int)) (by decide) rfl ?_
  intro p e s m args below meth c s₁ B hml hv
  obtain ⟨hargs, hsz, hK⟩ := hv
  have hx := B.exec
  have hb := B.bytes
  have hr := B.returns
  have hts := atoms_spec (ws := wsX3_whyNot) B.pre
  have hown : s.vm.findClass RX3 = some m.cls := findClass_of_methodNamed B.named
  have hlocks := B.notSynchronized
  subst hsz
  have inX3_ : ∀ w ∈ wsX30, w ∈ wsX3_whyNot := by decide +kernel
  have hS : va_S (fun _ => False) s.heap s.heap [] := va_S.rf
  have hl := lv_entry ([.ref o, .ref u]) (n := 2) (Nat.le_of_ble_eq_true rfl)
  have hen := lg_entry_eq m [.ref o, .ref u] 2
  rw [← hargs] at hen
  rw [hen]
  generalize (lg_sl ([.ref o, .ref u]) ++ List.replicate (2 - (lg_sl ([.ref o, .ref u])).length) Slot.unset).toArray = ls at hl ⊢
  have hl : lv_has ls 2 [(0, .ref o), (1, .ref u)] := hl
  obtain ⟨hn, hcl, hwd⟩ := hs.2.2.2.2.2
  refine lv_aload_n hx hb dX3_whyNot_0 rfl (lv_at hl 0 rfl) ?_
  refine m_get (ci := 3) (C := RX3) (T := TX3) (n := 7) (v := .ref a) hx hb hts inX3_ hown hK rfl h9 2 (by decide) (hts _ (by decide +kernel)) rfl dX3_whyNot_1 ?_
  refine r_calli (va_runV (As := []) (rest := []) ⟨hx, hb, hml, hown, hts⟩ (k_X6_firstOpen l D ac _ a r1 v1 r2 v2 cl n wf bf wd hs) (cwV 0 hts gX3_whyNot_X6_firstOpen rfl rfl rfl (by decide +kernel) ⟨Nat.le_of_ble_eq_true rfl, Nat.le_of_ble_eq_true rfl⟩) (pV hK (ci := 6) rfl hs.1) rfl rfl hl.1 rfl (lv_room (Nat.le_of_ble_eq_true rfl)) dX3_whyNot_4 ⟨Nat.le_of_ble_eq_true rfl, Nat.le_of_ble_eq_true rfl⟩) hS (fun rv_1 locs hrv_1 hS => ?_)
  refine lv_iconst (v := (-1)) hx hb dX3_whyNot_7 (by decide) ?_
  refine lv_icmp_eq (tgt := 13) hx hb dX3_whyNot_8 (by decide) (fun c8 => ?_) (fun c8 => ?_)
  · refine lv_aload_n hx hb dX3_whyNot_13 rfl (lv_at hl 0 rfl) ?_
    refine lv_aload_n hx hb dX3_whyNot_14 rfl (lv_at hl 1 rfl) ?_
    refine r_calli (va_runV (As := [.ref u]) (rest := []) ⟨hx, hb, hml, hown, hts⟩ (k_X3_firstBroken l D ac _ a r1 v1 r2 v2 cl n wf bf wd hs u u1 u2 u3 fs fr ft ⟨h5.1, h5.2.1, h5.2.2.1, h5.2.2.2⟩ o x1 b x3 x4 x5 x6 h9) (cwV 1 hts gX3_whyNot_X3_firstBroken rfl rfl rfl (by decide +kernel) ⟨Nat.le_of_ble_eq_true rfl, Nat.le_of_ble_eq_true rfl⟩) (pV hK (ci := 3) rfl h9) rfl rfl hl.1 rfl (lv_room (Nat.le_of_ble_eq_true rfl)) dX3_whyNot_15 ⟨Nat.le_of_ble_eq_true rfl, Nat.le_of_ble_eq_true rfl⟩) hS (fun rv_2 locs hrv_2 hS => ?_)
    refine lv_iconst (v := (-1)) hx hb dX3_whyNot_18 (by decide) ?_
    refine lv_icmp_eq (tgt := 26) hx hb dX3_whyNot_19 (by decide) (fun c19 => ?_) (fun c19 => ?_)
    · refine lv_iconst (v := 0) hx hb dX3_whyNot_26 (by decide) ?_
      exact e_i hx hb hlocks hr dX3_whyNot_27 hS (by first | exact why_5 hn hrv_1 c8 hrv_2 (Or.inl ⟨c19, rfl⟩) | exact why_5 hn hrv_1 c8 hrv_2 (Or.inr ⟨c19, rfl⟩))
    · refine lv_iconst (v := 2) hx hb dX3_whyNot_22 (by decide) ?_
      refine lv_goto (tgt := 27) hx hb dX3_whyNot_23 (by decide) ?_
      exact e_i hx hb hlocks hr dX3_whyNot_27 hS (by first | exact why_5 hn hrv_1 c8 hrv_2 (Or.inl ⟨c19, rfl⟩) | exact why_5 hn hrv_1 c8 hrv_2 (Or.inr ⟨c19, rfl⟩))
  · refine lv_iconst (v := 1) hx hb dX3_whyNot_11 (by decide) ?_
    exact e_i hx hb hlocks hr dX3_whyNot_12 hS (why_1 hrv_1 c8)
theorem where_5 {n : Nat} {r r2 b : Int32} {fr bf : Nat → Int32} {cl : Nat} {wd : Nat → Nat} (hn : n ≤ 8) (h : (∃ i, i < n ∧ r = nI i ∧ bf i = -1 ∧ ∀ j, j < i → ¬ bf j = -1) ∨ (r = -1 ∧ ∀ j, j < n → ¬ bf j = -1)) (h2 : r = -1 → (¬ b = 0 ∧ r2 = -1) ∨ (b = 0 ∧ ∃ i, i < n ∧ r2 = nI i ∧ ast fr cl wd bf i ∧ ∀ j, j < i → ¬ ast fr cl wd bf j) ∨ (b = 0 ∧ r2 = -1 ∧ ∀ j, j < n → ¬ ast fr cl wd bf j)) {v : Int32} (hv : (¬ r = -1 ∧ v = r) ∨ (r = -1 ∧ v = r2)) : (∃ i, i < n ∧ v = nI i ∧ bf i = -1 ∧ ∀ j, j < i → ¬ bf j = -1) ∨ ((∀ j, j < n → ¬ bf j = -1) ∧ ((b = 0 ∧ ∃ i, i < n ∧ v = nI i ∧ ast fr cl wd bf i ∧ ∀ j, j < i → ¬ ast fr cl wd bf j) ∨ (v = -1 ∧ (¬ b = 0 ∨ ∀ j, j < n → ¬ ast fr cl wd bf j)))) := by
  rcases hv with ⟨c, rfl⟩ | ⟨c, rfl⟩
  · rcases h with h | ⟨q1, q2⟩
    · exact Or.inl h
    · exact absurd q1 c
  · have q0 := why_2 (r2 := v) (b := b) (fr := fr) (cl := cl) (wd := wd) hn h c
    refine Or.inr ⟨q0, ?_⟩
    rcases why_3 hn (h2 c) with ⟨q1, q2, q6⟩ | ⟨q1, q2⟩
    · exact Or.inl ⟨q1, q2⟩
    · exact Or.inr ⟨q1, q2⟩
set_option maxHeartbeats 4000000 in
set_option maxRecDepth 100000 in
/-- Order.whereNot -/
theorem k_X3_whereNot (l : Launch) (D : va_G) (ac : Nat → ClassId) (H : Heap) (a r1 v1 r2 v2 cl n : Nat) (wf bf : Nat → Int32) (wd : Nat → Nat) (hs : SenC D ac H a r1 v1 r2 v2 cl n wf bf wd) (u u1 u2 u3 : Nat) (fs fr ft : Nat → Int32) (h5 : RulC D ac H u u1 u2 u3 fs fr ft) (o : Nat) (x1 b x3 x4 x5 x6 : Int32) (h9 : Cel D H o (.inr (3, [.int x1, .int b, .ref a, .int x3, .int x4, .int x5, .int x6]))) : ROi l yX3_whereNot wsX3_whereNot ({ frames := 5, cells := 0, slots := 0, locals := 111 }) [.ref o, .ref u] D ac H (WheP b n fr cl wd bf) := by
  refine Met.ofW (cc := cX3_whereNot) (maxL := 3) (ret := (some .int)) (by decide) rfl ?_
  intro p e s m args below meth c s₁ B hml hv
  obtain ⟨hargs, hsz, hK⟩ := hv
  have hx := B.exec
  have hb := B.bytes
  have hr := B.returns
  have hts := atoms_spec (ws := wsX3_whereNot) B.pre
  have hown : s.vm.findClass RX3 = some m.cls := findClass_of_methodNamed B.named
  have hlocks := B.notSynchronized
  subst hsz
  have inX3_ : ∀ w ∈ wsX30, w ∈ wsX3_whereNot := by decide +kernel
  have hS : va_S (fun _ => False) s.heap s.heap [] := va_S.rf
  have hl := lv_entry ([.ref o, .ref u]) (n := 3) (Nat.le_of_ble_eq_true rfl)
  have hen := lg_entry_eq m [.ref o, .ref u] 3
  rw [← hargs] at hen
  rw [hen]
  generalize (lg_sl ([.ref o, .ref u]) ++ List.replicate (3 - (lg_sl ([.ref o, .ref u])).length) Slot.unset).toArray = ls at hl ⊢
  have hl : lv_has ls 3 [(0, .ref o), (1, .ref u)] := hl
  obtain ⟨hn, hcl, hwd⟩ := hs.2.2.2.2.2
  refine lv_aload_n hx hb dX3_whereNot_0 rfl (lv_at hl 0 rfl) ?_
  refine m_get (ci := 3) (C := RX3) (T := TX3) (n := 7) (v := .ref a) hx hb hts inX3_ hown hK rfl h9 2 (by decide) (hts _ (by decide +kernel)) rfl dX3_whereNot_1 ?_
  refine r_calli (va_runV (As := []) (rest := []) ⟨hx, hb, hml, hown, hts⟩ (k_X6_firstOpen l D ac _ a r1 v1 r2 v2 cl n wf bf wd hs) (cwV 0 hts gX3_whereNot_X6_firstOpen rfl rfl rfl (by decide +kernel) ⟨Nat.le_of_ble_eq_true rfl, Nat.le_of_ble_eq_true rfl⟩) (pV hK (ci := 6) rfl hs.1) rfl rfl hl.1 rfl (lv_room (Nat.le_of_ble_eq_true rfl)) dX3_whereNot_4 ⟨Nat.le_of_ble_eq_true rfl, Nat.le_of_ble_eq_true rfl⟩) hS (fun rv_1 locs hrv_1 hS => ?_)
  refine lv_istore_n (lv' := [(2, .int rv_1), (0, .ref o), (1, .ref u)]) hx hb dX3_whereNot_7 rfl hl (by decide) rfl (fun ls hl => ?_)
  refine lv_iload_n hx hb dX3_whereNot_8 rfl (lv_at hl 0 rfl) ?_
  refine lv_iconst (v := (-1)) hx hb dX3_whereNot_9 (by decide) ?_
  refine lv_icmp_eq (tgt := 17) hx hb dX3_whereNot_10 (by decide) (fun c10 => ?_) (fun c10 => ?_)
  · refine lv_aload_n hx hb dX3_whereNot_17 rfl (lv_at hl 1 rfl) ?_
    refine lv_aload_n hx hb dX3_whereNot_18 rfl (lv_at hl 2 rfl) ?_
    refine r_calli (va_runV (As := [.ref u]) (rest := []) ⟨hx, hb, hml, hown, hts⟩ (k_X3_firstBroken l D ac _ a r1 v1 r2 v2 cl n wf bf wd hs u u1 u2 u3 fs fr ft ⟨h5.1, h5.2.1, h5.2.2.1, h5.2.2.2⟩ o x1 b x3 x4 x5 x6 h9) (cwV 1 hts gX3_whereNot_X3_firstBroken rfl rfl rfl (by decide +kernel) ⟨Nat.le_of_ble_eq_true rfl, Nat.le_of_ble_eq_true rfl⟩) (pV hK (ci := 3) rfl h9) rfl rfl hl.1 rfl (lv_room (Nat.le_of_ble_eq_true rfl)) dX3_whereNot_19 ⟨Nat.le_of_ble_eq_true rfl, Nat.le_of_ble_eq_true rfl⟩) hS (fun rv_2 locs hrv_2 hS => ?_)
    exact e_i hx hb hlocks hr dX3_whereNot_22 hS (by first | exact where_5 hn hrv_1 (fun _ => hrv_2) (Or.inr ⟨c10, rfl⟩) | exact where_5 (r2 := -1) hn hrv_1 (fun z => absurd z c10) (Or.inl ⟨c10, rfl⟩))
  · refine lv_iload_n hx hb dX3_whereNot_13 rfl (lv_at hl 0 rfl) ?_
    refine lv_goto (tgt := 22) hx hb dX3_whereNot_14 (by decide) ?_
    exact e_i hx hb hlocks hr dX3_whereNot_22 hS (by first | exact where_5 hn hrv_1 (fun _ => hrv_2) (Or.inr ⟨c10, rfl⟩) | exact where_5 (r2 := -1) hn hrv_1 (fun z => absurd z c10) (Or.inl ⟨c10, rfl⟩))
