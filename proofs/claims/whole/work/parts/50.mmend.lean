theorem sayR_at {af a1 : Nat → Nat → Int32} {fs fr : Nat → Int32} {t k j : Nat} {u : Int32} (h : SayR af fs fr) (ht : t < 3) (hk : k < 4) (hj : j < 50) (h17 : a1 17 = upd (af 17) (200 * t + (k * 50 + j)) u) : SayR a1 (upd fs (t * 200 + (k * 50 + j)) u) (sayR fs fr t (k * 50 + j) u) := by
  have e0 : t * 200 + (k * 50 + j) = 200 * t + (k * 50 + j) := by omega
  refine ⟨fun q hq => ?_, fun q hq => ?_⟩
  · rw [h17, e0]
    unfold upd
    split
    · rfl
    · exact h.1 q hq
  · unfold sayR
    by_cases e : q = k * 50 + j
    · subst e
      rw [pk_us]
      unfold sayA
      rw [show 0 * 200 + (k * 50 + j) = k * 50 + j by omega, show 1 * 200 + (k * 50 + j) = 200 + (k * 50 + j) by omega, show 2 * 200 + (k * 50 + j) = 400 + (k * 50 + j) by omega]
    · rw [pk_un e, h.2 q hq, pk_un (by omega), pk_un (by omega), pk_un (by omega)]
theorem sayR_q {fs fr : Nat → Int32} {t q : Nat} {u : Int32} : sayR fs fr t q u q = sayA fs t q u := pk_us
set_option maxHeartbeats 4000000 in
set_option maxRecDepth 100000 in
/-- X8_say -/
theorem k_X8_say (l : Launch) (D : va_G) (ac : Nat → ClassId) (H : Heap) (A : Nat → Prop) (adr : Nat → Nat) (sf : Nat → Int32) (af : Nat → Nat → Int32) (hM : MW D A 24 adr (mw ac adr sf af) H) (fs fr : Nat → Int32) (hSy : SayR af fs fr) (ns : Nat) (sc sn : Nat → Nat) (sw : Nat → Nat → Nat) (sb : Nat → Nat → Int32) (hs : MSen sf af ns sc sn sw sb) (x y z u : Int32) : WRi l yX8_say wsX8_say ({ frames := 5, cells := 0, slots := 0, locals := 115 }) [.ref (adr 0), .int x, .int y, .int z, .int u] D ac H A 24 adr (MPo ac adr sf af (cd1 ((ix x 3).isNone || ((ix y 4).isNone || (ix z 50).isNone) || (decide (u < -1) || !decide (u < 100)))) (fun r s1 a1 => ∃ t k j, t < 3 ∧ k < 4 ∧ j < 50 ∧ x = nI t ∧ y = nI k ∧ z = nI j ∧ r = nI (dnF (lsF (fun i => asB (sayR fs fr t (k * 50 + j) u) (sc i) (sn i) (sw i) (sb i)) (af 19) (sf 10) ns).1 ns) ∧ s1 = (va_up (va_up (va_up sf 0 0) 9 (if sayA fs t (k * 50 + j) u = fr (k * 50 + j) then sf 9 else sf 9 + 1)) 10 ((lsF (fun i => asB (sayR fs fr t (k * 50 + j) u) (sc i) (sn i) (sw i) (sb i)) (af 19) (sf 10) ns).2)) ∧ a1 = (va_up (va_up (va_up af 17 (upd (af 17) (200 * t + (k * 50 + j)) u)) 18 (if sayA fs t (k * 50 + j) u = fr (k * 50 + j) then af 18 else upd (af 18) (k * 50 + j) (sf 9 + 1))) 19 ((lsF (fun i => asB (sayR fs fr t (k * 50 + j) u) (sc i) (sn i) (sw i) (sb i)) (af 19) (sf 10) ns).1)))) := by
  refine Met.ofW (cc := cX8_say) (maxL := 7) (ret := (some .int)) (by decide) rfl ?_
  intro p e s m args below meth c s₁ B hml hv
  obtain ⟨hargs, hsz, hK⟩ := hv
  have hx := B.exec
  have hb := B.bytes
  have hr := B.returns
  have hts := atoms_spec (ws := wsX8_say) B.pre
  have hown : s.vm.findClass RX8 = some m.cls := findClass_of_methodNamed B.named
  have hlocks := B.notSynchronized
  subst hsz
  have inX8_ : ∀ w ∈ wsX80, w ∈ wsX8_say := by decide +kernel
  have hS : va_S A s.heap s.heap [] := va_S.rf
  have hl := lv_entry ([.ref (adr 0), .int x, .int y, .int z, .int u]) (n := 7) (Nat.le_of_ble_eq_true rfl)
  have hen := lg_entry_eq m [.ref (adr 0), .int x, .int y, .int z, .int u] 7
  rw [← hargs] at hen
  rw [hen]
  generalize (lg_sl ([.ref (adr 0), .int x, .int y, .int z, .int u]) ++ List.replicate (7 - (lg_sl ([.ref (adr 0), .int x, .int y, .int z, .int u])).length) Slot.unset).toArray = ls at hl ⊢
  have hl : lv_has ls 7 [(0, .ref (adr 0)), (1, .int x), (2, .int y), (3, .int z), (4, .int u)] := hl
  obtain ⟨Q0, hQ0⟩ : ∃ z0_, z0_ = MQ below (va_Qi (MPo ac adr sf af (cd1 ((ix x 3).isNone || ((ix y 4).isNone || (ix z 50).isNone) || (decide (u < -1) || !decide (u < 100)))) (fun r s1 a1 => ∃ t k j, t < 3 ∧ k < 4 ∧ j < 50 ∧ x = nI t ∧ y = nI k ∧ z = nI j ∧ r = nI (dnF (lsF (fun i => asB (sayR fs fr t (k * 50 + j) u) (sc i) (sn i) (sw i) (sb i)) (af 19) (sf 10) ns).1 ns) ∧ s1 = (va_up (va_up (va_up sf 0 0) 9 (if sayA fs t (k * 50 + j) u = fr (k * 50 + j) then sf 9 else sf 9 + 1)) 10 ((lsF (fun i => asB (sayR fs fr t (k * 50 + j) u) (sc i) (sn i) (sw i) (sb i)) (af 19) (sf 10) ns).2)) ∧ a1 = (va_up (va_up (va_up af 17 (upd (af 17) (200 * t + (k * 50 + j)) u)) 18 (if sayA fs t (k * 50 + j) u = fr (k * 50 + j) then af 18 else upd (af 18) (k * 50 + j) (sf 9 + 1))) 19 ((lsF (fun i => asB (sayR fs fr t (k * 50 + j) u) (sc i) (sn i) (sw i) (sb i)) (af 19) (sf 10) ns).1)))) (fun c t => MW D A 24 adr c t.heap) A) args s 0 0 A := ⟨_, rfl⟩
  rw [← hQ0]
  have h7 := hs.2.1
  refine lv_iload_n hx hb dX8_say_0 rfl (lv_at hl 1 rfl) ?_
  refine lv_iconst (v := 3) hx hb dX8_say_1 (by decide) ?_
  refine m_top (show (3 : Int32) = nI 3 from rfl) ?_
  refine r_calli (va_runS (As := [.int x, .int (nI 3)]) (rest := []) ⟨hx, hb, hml, hown, hts⟩ (k_X8_isIn l D ac _ x 3 (by omega)) (va_cwS 2 hts gX8_say_X8_isIn rfl rfl rfl (by decide +kernel) ⟨Nat.le_of_ble_eq_true rfl, Nat.le_of_ble_eq_true rfl⟩) (pS hK) rfl rfl hl.1 rfl (lv_room (Nat.le_of_ble_eq_true rfl)) dX8_say_2 ⟨Nat.le_of_ble_eq_true rfl, Nat.le_of_ble_eq_true rfl⟩) hS (fun rv_1 locs hrv_1 hS => ?_)
  subst hrv_1
  rcases hi_x : ix x 3 with _ | k_x
  · refine m_top (show _ = (0 : Int32) from rfl) ?_
    refine lv_if_eq (tgt := 41) hx hb dX8_say_5 (by decide) (fun c5 => ?_) (fun c5 => ?_)
    · refine lv_iconst (v := 0) hx hb dX8_say_41 (by decide) ?_
      refine lv_istore (lv' := [(5, .int 0), (0, .ref (adr 0)), (1, .int x), (2, .int y), (3, .int z), (4, .int u)]) hx hb dX8_say_42 hl (by decide) rfl (fun ls hl => ?_)
      refine lv_aload_n hx hb dX8_say_44 rfl (lv_at hl 1 rfl) ?_
      refine lv_iload hx hb dX8_say_45 (lv_at hl 0 rfl) ?_
      refine lv_if_eq (tgt := 54) hx hb dX8_say_47 (by decide) (fun c47 => ?_) (fun c47 => ?_)
      · refine lv_iconst (v := 1) hx hb dX8_say_54 (by decide) ?_
        refine w_calli (va_runV (As := [.int 1]) (rest := []) ⟨hx, hb, hml, hown, hts⟩ (k_X8_holds l D ac _ A adr sf af hM 1) (cwV 1 hts gX8_say_X8_holds rfl rfl rfl (by decide +kernel) ⟨Nat.le_of_ble_eq_true rfl, Nat.le_of_ble_eq_true rfl⟩) (pV hK (ci := 8) rfl (hM.cel (by omega) (show (mw ac adr sf af) 0 = .inr (8, mfs adr sf) from rfl))) rfl rfl hl.1 rfl (lv_room (Nat.le_of_ble_eq_true rfl)) dX8_say_55 ⟨Nat.le_of_ble_eq_true rfl, Nat.le_of_ble_eq_true rfl⟩) hS (fun rv_2 w_3 H locs hw_3 hM hS => ?_)
        obtain ⟨hrv_2, he_4⟩ := hw_3
        rw [he_4] at hM
        have hM := (MW.cg (s1 := (va_up sf 0 1)) (a1 := af) hM (fun j9 => if q0_ : j9 = 0 then (by subst q0_; rfl) else (by first | rfl | simp only [va_up, if_neg q0_] | fail)) (fun _ => rfl))
        subst hrv_2
        refine m_top (show _ = (0 : Int32) from rfl) ?_
        refine lv_if_ne (tgt := 63) hx hb dX8_say_58 (by decide) (fun c58 => ?_) (fun c58 => ?_)
        · exact absurd c58 (by decide)
        · refine lv_iconst (v := 0) hx hb dX8_say_61 (by decide) ?_
          rw [hQ0]
          exact e_wi hx hb hlocks hr dX8_say_62 hM hS (MPo.no (c := 1) (by rw [say_code]; simp [cd1, hi_x] : cd1 ((ix x 3).isNone || ((ix y 4).isNone || (ix z 50).isNone) || (decide (u < -1) || !decide (u < 100))) = 1) (by decide) rfl ⟨fun k9 u1_ u2_ => by first | rfl | simp only [va_up, if_neg u1_, if_neg u2_] | fail, fun k9 u1_ u2_ => by first | rfl | simp only [va_up, if_neg u1_, if_neg u2_] | fail⟩)
      · exact absurd c47 (by decide)
    · exact absurd c5 (by decide)
  · obtain ⟨b_x, e_x⟩ := ix_of hi_x (by omega)
    refine m_top (show _ = (1 : Int32) from rfl) ?_
    subst e_x
    refine lv_if_eq (tgt := 41) hx hb dX8_say_5 (by decide) (fun c5 => ?_) (fun c5 => ?_)
    · exact absurd c5 (by decide)
    · refine lv_iload_n hx hb dX8_say_8 rfl (lv_at hl 2 rfl) ?_
      refine lv_iconst (v := 4) hx hb dX8_say_9 (by decide) ?_
      refine m_top (show (4 : Int32) = nI 4 from rfl) ?_
      refine r_calli (va_runS (As := [.int y, .int (nI 4)]) (rest := []) ⟨hx, hb, hml, hown, hts⟩ (k_X8_isIn l D ac _ y 4 (by omega)) (va_cwS 2 hts gX8_say_X8_isIn rfl rfl rfl (by decide +kernel) ⟨Nat.le_of_ble_eq_true rfl, Nat.le_of_ble_eq_true rfl⟩) (pS hK) rfl rfl hl.1 rfl (lv_room (Nat.le_of_ble_eq_true rfl)) dX8_say_10 ⟨Nat.le_of_ble_eq_true rfl, Nat.le_of_ble_eq_true rfl⟩) hS (fun rv_5 locs hrv_5 hS => ?_)
      subst hrv_5
      rcases hi_y : ix y 4 with _ | k_y
      · refine m_top (show _ = (0 : Int32) from rfl) ?_
        refine lv_if_eq (tgt := 41) hx hb dX8_say_13 (by decide) (fun c13 => ?_) (fun c13 => ?_)
        · refine lv_iconst (v := 0) hx hb dX8_say_41 (by decide) ?_
          refine lv_istore (lv' := [(5, .int 0), (0, .ref (adr 0)), (1, .int (nI k_x)), (2, .int y), (3, .int z), (4, .int u)]) hx hb dX8_say_42 hl (by decide) rfl (fun ls hl => ?_)
          refine lv_aload_n hx hb dX8_say_44 rfl (lv_at hl 1 rfl) ?_
          refine lv_iload hx hb dX8_say_45 (lv_at hl 0 rfl) ?_
          refine lv_if_eq (tgt := 54) hx hb dX8_say_47 (by decide) (fun c47 => ?_) (fun c47 => ?_)
          · refine lv_iconst (v := 1) hx hb dX8_say_54 (by decide) ?_
            refine w_calli (va_runV (As := [.int 1]) (rest := []) ⟨hx, hb, hml, hown, hts⟩ (k_X8_holds l D ac _ A adr sf af hM 1) (cwV 1 hts gX8_say_X8_holds rfl rfl rfl (by decide +kernel) ⟨Nat.le_of_ble_eq_true rfl, Nat.le_of_ble_eq_true rfl⟩) (pV hK (ci := 8) rfl (hM.cel (by omega) (show (mw ac adr sf af) 0 = .inr (8, mfs adr sf) from rfl))) rfl rfl hl.1 rfl (lv_room (Nat.le_of_ble_eq_true rfl)) dX8_say_55 ⟨Nat.le_of_ble_eq_true rfl, Nat.le_of_ble_eq_true rfl⟩) hS (fun rv_6 w_7 H locs hw_7 hM hS => ?_)
            obtain ⟨hrv_6, he_8⟩ := hw_7
            rw [he_8] at hM
            have hM := (MW.cg (s1 := (va_up sf 0 1)) (a1 := af) hM (fun j9 => if q0_ : j9 = 0 then (by subst q0_; rfl) else (by first | rfl | simp only [va_up, if_neg q0_] | fail)) (fun _ => rfl))
            subst hrv_6
            refine m_top (show _ = (0 : Int32) from rfl) ?_
            refine lv_if_ne (tgt := 63) hx hb dX8_say_58 (by decide) (fun c58 => ?_) (fun c58 => ?_)
            · exact absurd c58 (by decide)
            · refine lv_iconst (v := 0) hx hb dX8_say_61 (by decide) ?_
              rw [hQ0]
              exact e_wi hx hb hlocks hr dX8_say_62 hM hS (MPo.no (c := 1) (by rw [say_code]; simp [cd1, hi_x, hi_y] : cd1 ((ix (nI k_x) 3).isNone || ((ix y 4).isNone || (ix z 50).isNone) || (decide (u < -1) || !decide (u < 100))) = 1) (by decide) rfl ⟨fun k9 u1_ u2_ => by first | rfl | simp only [va_up, if_neg u1_, if_neg u2_] | fail, fun k9 u1_ u2_ => by first | rfl | simp only [va_up, if_neg u1_, if_neg u2_] | fail⟩)
          · exact absurd c47 (by decide)
        · exact absurd c13 (by decide)
      · obtain ⟨b_y, e_y⟩ := ix_of hi_y (by omega)
        refine m_top (show _ = (1 : Int32) from rfl) ?_
        subst e_y
        refine lv_if_eq (tgt := 41) hx hb dX8_say_13 (by decide) (fun c13 => ?_) (fun c13 => ?_)
        · exact absurd c13 (by decide)
        · refine lv_iload_n hx hb dX8_say_16 rfl (lv_at hl 3 rfl) ?_
          refine lv_bipush (v := 50) hx hb dX8_say_17 (by decide) ?_
          refine m_top (show (50 : Int32) = nI 50 from rfl) ?_
          refine r_calli (va_runS (As := [.int z, .int (nI 50)]) (rest := []) ⟨hx, hb, hml, hown, hts⟩ (k_X8_isIn l D ac _ z 50 (by omega)) (va_cwS 2 hts gX8_say_X8_isIn rfl rfl rfl (by decide +kernel) ⟨Nat.le_of_ble_eq_true rfl, Nat.le_of_ble_eq_true rfl⟩) (pS hK) rfl rfl hl.1 rfl (lv_room (Nat.le_of_ble_eq_true rfl)) dX8_say_19 ⟨Nat.le_of_ble_eq_true rfl, Nat.le_of_ble_eq_true rfl⟩) hS (fun rv_9 locs hrv_9 hS => ?_)
          subst hrv_9
          rcases hi_z : ix z 50 with _ | k_z
          · refine m_top (show _ = (0 : Int32) from rfl) ?_
            refine lv_if_eq (tgt := 41) hx hb dX8_say_22 (by decide) (fun c22 => ?_) (fun c22 => ?_)
            · refine lv_iconst (v := 0) hx hb dX8_say_41 (by decide) ?_
              refine lv_istore (lv' := [(5, .int 0), (0, .ref (adr 0)), (1, .int (nI k_x)), (2, .int (nI k_y)), (3, .int z), (4, .int u)]) hx hb dX8_say_42 hl (by decide) rfl (fun ls hl => ?_)
              refine lv_aload_n hx hb dX8_say_44 rfl (lv_at hl 1 rfl) ?_
              refine lv_iload hx hb dX8_say_45 (lv_at hl 0 rfl) ?_
              refine lv_if_eq (tgt := 54) hx hb dX8_say_47 (by decide) (fun c47 => ?_) (fun c47 => ?_)
              · refine lv_iconst (v := 1) hx hb dX8_say_54 (by decide) ?_
                refine w_calli (va_runV (As := [.int 1]) (rest := []) ⟨hx, hb, hml, hown, hts⟩ (k_X8_holds l D ac _ A adr sf af hM 1) (cwV 1 hts gX8_say_X8_holds rfl rfl rfl (by decide +kernel) ⟨Nat.le_of_ble_eq_true rfl, Nat.le_of_ble_eq_true rfl⟩) (pV hK (ci := 8) rfl (hM.cel (by omega) (show (mw ac adr sf af) 0 = .inr (8, mfs adr sf) from rfl))) rfl rfl hl.1 rfl (lv_room (Nat.le_of_ble_eq_true rfl)) dX8_say_55 ⟨Nat.le_of_ble_eq_true rfl, Nat.le_of_ble_eq_true rfl⟩) hS (fun rv_10 w_11 H locs hw_11 hM hS => ?_)
                obtain ⟨hrv_10, he_12⟩ := hw_11
                rw [he_12] at hM
                have hM := (MW.cg (s1 := (va_up sf 0 1)) (a1 := af) hM (fun j9 => if q0_ : j9 = 0 then (by subst q0_; rfl) else (by first | rfl | simp only [va_up, if_neg q0_] | fail)) (fun _ => rfl))
                subst hrv_10
                refine m_top (show _ = (0 : Int32) from rfl) ?_
                refine lv_if_ne (tgt := 63) hx hb dX8_say_58 (by decide) (fun c58 => ?_) (fun c58 => ?_)
                · exact absurd c58 (by decide)
                · refine lv_iconst (v := 0) hx hb dX8_say_61 (by decide) ?_
                  rw [hQ0]
                  exact e_wi hx hb hlocks hr dX8_say_62 hM hS (MPo.no (c := 1) (by rw [say_code]; simp [cd1, hi_x, hi_y, hi_z] : cd1 ((ix (nI k_x) 3).isNone || ((ix (nI k_y) 4).isNone || (ix z 50).isNone) || (decide (u < -1) || !decide (u < 100))) = 1) (by decide) rfl ⟨fun k9 u1_ u2_ => by first | rfl | simp only [va_up, if_neg u1_, if_neg u2_] | fail, fun k9 u1_ u2_ => by first | rfl | simp only [va_up, if_neg u1_, if_neg u2_] | fail⟩)
              · exact absurd c47 (by decide)
            · exact absurd c22 (by decide)
          · obtain ⟨b_z, e_z⟩ := ix_of hi_z (by omega)
            refine m_top (show _ = (1 : Int32) from rfl) ?_
            subst e_z
            refine lv_if_eq (tgt := 41) hx hb dX8_say_22 (by decide) (fun c22 => ?_) (fun c22 => ?_)
            · exact absurd c22 (by decide)
            · refine lv_iload hx hb dX8_say_25 (lv_at hl 4 rfl) ?_
              refine lv_iconst (v := 1) hx hb dX8_say_27 (by decide) ?_
              refine lv_iadd hx hb dX8_say_28 ?_
              refine lv_bipush (v := 101) hx hb dX8_say_29 (by decide) ?_
              refine m_top (show (101 : Int32) = nI 101 from rfl) ?_
              refine r_calli (va_runS (As := [.int (u + 1), .int (nI 101)]) (rest := []) ⟨hx, hb, hml, hown, hts⟩ (k_X8_isIn l D ac _ (u + 1) 101 (by omega)) (va_cwS 2 hts gX8_say_X8_isIn rfl rfl rfl (by decide +kernel) ⟨Nat.le_of_ble_eq_true rfl, Nat.le_of_ble_eq_true rfl⟩) (pS hK) rfl rfl hl.1 rfl (lv_room (Nat.le_of_ble_eq_true rfl)) dX8_say_31 ⟨Nat.le_of_ble_eq_true rfl, Nat.le_of_ble_eq_true rfl⟩) hS (fun rv_13 locs hrv_13 hS => ?_)
              subst hrv_13
              rcases hi_u : ix (u + 1) 101 with _ | k_u
              · refine m_top (show _ = (0 : Int32) from rfl) ?_
                refine lv_if_eq (tgt := 41) hx hb dX8_say_34 (by decide) (fun c34 => ?_) (fun c34 => ?_)
                · refine lv_iconst (v := 0) hx hb dX8_say_41 (by decide) ?_
                  refine lv_istore (lv' := [(5, .int 0), (0, .ref (adr 0)), (1, .int (nI k_x)), (2, .int (nI k_y)), (3, .int (nI k_z)), (4, .int u)]) hx hb dX8_say_42 hl (by decide) rfl (fun ls hl => ?_)
                  refine lv_aload_n hx hb dX8_say_44 rfl (lv_at hl 1 rfl) ?_
                  refine lv_iload hx hb dX8_say_45 (lv_at hl 0 rfl) ?_
                  refine lv_if_eq (tgt := 54) hx hb dX8_say_47 (by decide) (fun c47 => ?_) (fun c47 => ?_)
                  · refine lv_iconst (v := 1) hx hb dX8_say_54 (by decide) ?_
                    refine w_calli (va_runV (As := [.int 1]) (rest := []) ⟨hx, hb, hml, hown, hts⟩ (k_X8_holds l D ac _ A adr sf af hM 1) (cwV 1 hts gX8_say_X8_holds rfl rfl rfl (by decide +kernel) ⟨Nat.le_of_ble_eq_true rfl, Nat.le_of_ble_eq_true rfl⟩) (pV hK (ci := 8) rfl (hM.cel (by omega) (show (mw ac adr sf af) 0 = .inr (8, mfs adr sf) from rfl))) rfl rfl hl.1 rfl (lv_room (Nat.le_of_ble_eq_true rfl)) dX8_say_55 ⟨Nat.le_of_ble_eq_true rfl, Nat.le_of_ble_eq_true rfl⟩) hS (fun rv_14 w_15 H locs hw_15 hM hS => ?_)
                    obtain ⟨hrv_14, he_16⟩ := hw_15
                    rw [he_16] at hM
                    have hM := (MW.cg (s1 := (va_up sf 0 1)) (a1 := af) hM (fun j9 => if q0_ : j9 = 0 then (by subst q0_; rfl) else (by first | rfl | simp only [va_up, if_neg q0_] | fail)) (fun _ => rfl))
                    subst hrv_14
                    refine m_top (show _ = (0 : Int32) from rfl) ?_
                    refine lv_if_ne (tgt := 63) hx hb dX8_say_58 (by decide) (fun c58 => ?_) (fun c58 => ?_)
                    · exact absurd c58 (by decide)
                    · refine lv_iconst (v := 0) hx hb dX8_say_61 (by decide) ?_
                      rw [hQ0]
                      exact e_wi hx hb hlocks hr dX8_say_62 hM hS (MPo.no (c := 1) (by rw [say_code]; simp [cd1, hi_x, hi_y, hi_z, hi_u] : cd1 ((ix (nI k_x) 3).isNone || ((ix (nI k_y) 4).isNone || (ix (nI k_z) 50).isNone) || (decide (u < -1) || !decide (u < 100))) = 1) (by decide) rfl ⟨fun k9 u1_ u2_ => by first | rfl | simp only [va_up, if_neg u1_, if_neg u2_] | fail, fun k9 u1_ u2_ => by first | rfl | simp only [va_up, if_neg u1_, if_neg u2_] | fail⟩)
                  · exact absurd c47 (by decide)
                · exact absurd c34 (by decide)
              · obtain ⟨b_u, e_u⟩ := ix_of hi_u (by omega)
                refine m_top (show _ = (1 : Int32) from rfl) ?_
                refine lv_if_eq (tgt := 41) hx hb dX8_say_34 (by decide) (fun c34 => ?_) (fun c34 => ?_)
                · exact absurd c34 (by decide)
                · refine lv_iconst (v := 1) hx hb dX8_say_37 (by decide) ?_
                  refine lv_goto (tgt := 42) hx hb dX8_say_38 (by decide) ?_
                  refine lv_istore (lv' := [(5, .int 1), (0, .ref (adr 0)), (1, .int (nI k_x)), (2, .int (nI k_y)), (3, .int (nI k_z)), (4, .int u)]) hx hb dX8_say_42 hl (by decide) rfl (fun ls hl => ?_)
                  refine lv_aload_n hx hb dX8_say_44 rfl (lv_at hl 1 rfl) ?_
                  refine lv_iload hx hb dX8_say_45 (lv_at hl 0 rfl) ?_
                  refine lv_if_eq (tgt := 54) hx hb dX8_say_47 (by decide) (fun c47 => ?_) (fun c47 => ?_)
                  · exact absurd c47 (by decide)
                  · refine lv_iconst (v := 0) hx hb dX8_say_50 (by decide) ?_
                    refine lv_goto (tgt := 55) hx hb dX8_say_51 (by decide) ?_
                    refine w_calli (va_runV (As := [.int 0]) (rest := []) ⟨hx, hb, hml, hown, hts⟩ (k_X8_holds l D ac _ A adr sf af hM 0) (cwV 1 hts gX8_say_X8_holds rfl rfl rfl (by decide +kernel) ⟨Nat.le_of_ble_eq_true rfl, Nat.le_of_ble_eq_true rfl⟩) (pV hK (ci := 8) rfl (hM.cel (by omega) (show (mw ac adr sf af) 0 = .inr (8, mfs adr sf) from rfl))) rfl rfl hl.1 rfl (lv_room (Nat.le_of_ble_eq_true rfl)) dX8_say_55 ⟨Nat.le_of_ble_eq_true rfl, Nat.le_of_ble_eq_true rfl⟩) hS (fun rv_17 w_18 H locs hw_18 hM hS => ?_)
                    obtain ⟨hrv_17, he_19⟩ := hw_18
                    rw [he_19] at hM
                    have hM := (MW.cg (s1 := (va_up sf 0 0)) (a1 := af) hM (fun j9 => if q0_ : j9 = 0 then (by subst q0_; rfl) else (by first | rfl | simp only [va_up, if_neg q0_] | fail)) (fun _ => rfl))
                    subst hrv_17
                    refine m_top (show _ = (1 : Int32) from rfl) ?_
                    refine lv_if_ne (tgt := 63) hx hb dX8_say_58 (by decide) (fun c58 => ?_) (fun c58 => ?_)
                    · refine lv_aload_n hx hb dX8_say_63 rfl (lv_at hl 1 rfl) ?_
                      refine lv_iload_n hx hb dX8_say_64 rfl (lv_at hl 3 rfl) ?_
                      refine lv_iload_n hx hb dX8_say_65 rfl (lv_at hl 4 rfl) ?_
                      refine r_calli (va_runV (As := [.int (nI k_y), .int (nI k_z)]) (rest := []) ⟨hx, hb, hml, hown, hts⟩ (k_X8_rulingOf l D ac _ A adr (va_up sf 0 0) af hM fs fr (hSy.t rfl) k_y k_z (by omega) (by omega)) (cwV 2 hts gX8_say_X8_rulingOf rfl rfl rfl (by decide +kernel) ⟨Nat.le_of_ble_eq_true rfl, Nat.le_of_ble_eq_true rfl⟩) (pV hK (ci := 8) rfl (hM.cel (by omega) (show (mw ac adr (va_up sf 0 0) af) 0 = .inr (8, mfs adr (va_up sf 0 0)) from rfl))) rfl rfl hl.1 rfl (lv_room (Nat.le_of_ble_eq_true rfl)) dX8_say_66 ⟨Nat.le_of_ble_eq_true rfl, Nat.le_of_ble_eq_true rfl⟩) hS (fun rv_20 locs hrv_20 hS => ?_)
                      subst hrv_20
                      refine lv_istore (lv' := [(6, .int (fr (k_y * 50 + k_z))), (5, .int 1), (0, .ref (adr 0)), (1, .int (nI k_x)), (2, .int (nI k_y)), (3, .int (nI k_z)), (4, .int u)]) hx hb dX8_say_69 hl (by decide) rfl (fun ls hl => ?_)
                      refine lv_aload_n hx hb dX8_say_71 rfl (lv_at hl 2 rfl) ?_
                      refine m_get (ci := 8) (C := RX8) (T := TX8) (n := 35) (v := .ref (adr 17)) hx hb hts inX8_ hown hK rfl (hM.cel (by omega) (show (mw ac adr (va_up sf 0 0) af) 0 = .inr (8, mfs adr (va_up sf 0 0)) from rfl)) 25 (by decide) (hts _ (by decide +kernel)) rfl dX8_say_72 ?_
                      refine lv_sipush (v := 200) hx hb dX8_say_75 (by decide) ?_
                      refine lv_iload_n hx hb dX8_say_78 rfl (lv_at hl 3 rfl) ?_
                      refine lv_imul hx hb dX8_say_79 ?_
                      refine m_top (show (200 * (nI k_x)) = nI (200 * k_x) from by rw [show (200 : Int32) = nI 200 from rfl, pk_mul]) ?_
                      refine lv_iload_n hx hb dX8_say_80 rfl (lv_at hl 4 rfl) ?_
                      refine lv_iload_n hx hb dX8_say_81 rfl (lv_at hl 5 rfl) ?_
                      refine r_calli (va_runS (As := [.int (nI k_y), .int (nI k_z)]) (rest := [.int (nI (200 * k_x)), .ref (adr 17)]) ⟨hx, hb, hml, hown, hts⟩ (k_X8_at l D ac _ k_y k_z) (va_cwS 2 hts gX8_say_X8_at rfl rfl rfl (by decide +kernel) ⟨Nat.le_of_ble_eq_true rfl, Nat.le_of_ble_eq_true rfl⟩) (pS hK) rfl rfl hl.1 rfl (lv_room (Nat.le_of_ble_eq_true rfl)) dX8_say_82 ⟨Nat.le_of_ble_eq_true rfl, Nat.le_of_ble_eq_true rfl⟩) hS (fun rv_21 locs hrv_21 hS => ?_)
                      subst hrv_21
                      refine lv_iadd hx hb dX8_say_85 ?_
                      refine m_top (show ((nI (200 * k_x)) + (nI (k_y * 50 + k_z))) = nI (200 * k_x + (k_y * 50 + k_z)) from nI_add _ _) ?_
                      refine lv_iload hx hb dX8_say_86 (lv_at hl 6 rfl) ?_
                      refine m_iast hx hb hK hM hS 17 (by omega) (show (mw ac adr (va_up sf 0 0) af) 17 = .inl (ac 0, 600, .inl (af 17)) from rfl) (vp_in_nI (by omega) (by decide)) dX8_say_88 (fun H locs hM hS => ?_)
                      have ef_ : (upd (af 17) (nI (200 * k_x + (k_y * 50 + k_z))).toNatClampNeg u) = upd (af 17) (200 * k_x + (k_y * 50 + k_z)) u := by rw [nI_clamp (by omega)]
                      rw [ef_] at hM
                      clear ef_
                      have hM := MW.marr (a1 := (va_up af 17 (upd (af 17) (200 * k_x + (k_y * 50 + k_z)) u))) hM (by decide) rfl rfl (fun j9 hj9 => by simp only [va_up, if_neg hj9])
                      refine lv_aload_n hx hb dX8_say_89 rfl (lv_at hl 2 rfl) ?_
                      refine lv_iload_n hx hb dX8_say_90 rfl (lv_at hl 4 rfl) ?_
                      refine lv_iload_n hx hb dX8_say_91 rfl (lv_at hl 5 rfl) ?_
                      refine r_calli (va_runV (As := [.int (nI k_y), .int (nI k_z)]) (rest := []) ⟨hx, hb, hml, hown, hts⟩ (k_X8_rulingOf l D ac _ A adr (va_up sf 0 0) (va_up af 17 (upd (af 17) (200 * k_x + (k_y * 50 + k_z)) u)) hM ((upd fs (k_x * 200 + (k_y * 50 + k_z)) u)) ((sayR fs fr k_x (k_y * 50 + k_z) u)) (sayR_at hSy b_x b_y b_z rfl) k_y k_z (by omega) (by omega)) (cwV 2 hts gX8_say_X8_rulingOf rfl rfl rfl (by decide +kernel) ⟨Nat.le_of_ble_eq_true rfl, Nat.le_of_ble_eq_true rfl⟩) (pV hK (ci := 8) rfl (hM.cel (by omega) (show (mw ac adr (va_up sf 0 0) (va_up af 17 (upd (af 17) (200 * k_x + (k_y * 50 + k_z)) u))) 0 = .inr (8, mfs adr (va_up sf 0 0)) from rfl))) rfl rfl hl.1 rfl (lv_room (Nat.le_of_ble_eq_true rfl)) dX8_say_92 ⟨Nat.le_of_ble_eq_true rfl, Nat.le_of_ble_eq_true rfl⟩) hS (fun rv_23 locs hrv_23 hS => ?_)
                      subst hrv_23
                      refine m_top (show (((sayR fs fr k_x (k_y * 50 + k_z) u)) (k_y * 50 + k_z)) = sayA fs k_x (k_y * 50 + k_z) u from sayR_q) ?_
                      refine lv_iload hx hb dX8_say_95 (lv_at hl 0 rfl) ?_
                      refine lv_icmp_eq (tgt := 124) hx hb dX8_say_97 (by decide) (fun c97 => ?_) (fun c97 => ?_)
                      · have f97 : sayA fs k_x (k_y * 50 + k_z) u = fr (k_y * 50 + k_z) := c97
                        have hM := MW.cg (s1 := (va_up (va_up sf 0 0) 9 (if sayA fs k_x (k_y * 50 + k_z) u = fr (k_y * 50 + k_z) then sf 9 else sf 9 + 1))) (a1 := (va_up (va_up af 17 (upd (af 17) (200 * k_x + (k_y * 50 + k_z)) u)) 18 (if sayA fs k_x (k_y * 50 + k_z) u = fr (k_y * 50 + k_z) then af 18 else upd (af 18) (k_y * 50 + k_z) (sf 9 + 1)))) hM (fun j9 => if q0_ : j9 = 9 then (by subst q0_; show (if sayA fs k_x (k_y * 50 + k_z) u = fr (k_y * 50 + k_z) then sf 9 else sf 9 + 1) = sf 9; exact (if_pos f97)) else (by first | rfl | simp only [va_up, if_neg q0_] | fail)) (fun j9 => if q0_ : j9 = 18 then (by subst q0_; show (if sayA fs k_x (k_y * 50 + k_z) u = fr (k_y * 50 + k_z) then af 18 else upd (af 18) (k_y * 50 + k_z) (sf 9 + 1)) = af 18; exact (if_pos f97)) else (by first | rfl | simp only [va_up, if_neg q0_] | fail))
                        refine lv_aload_n hx hb dX8_say_124 rfl (lv_at hl 2 rfl) ?_
                        refine w_callv (va_runV (As := []) (rest := []) ⟨hx, hb, hml, hown, hts⟩ (k_X8_lists l D ac _ A adr (va_up (va_up sf 0 0) 9 (if sayA fs k_x (k_y * 50 + k_z) u = fr (k_y * 50 + k_z) then sf 9 else sf 9 + 1)) (va_up (va_up af 17 (upd (af 17) (200 * k_x + (k_y * 50 + k_z)) u)) 18 (if sayA fs k_x (k_y * 50 + k_z) u = fr (k_y * 50 + k_z) then af 18 else upd (af 18) (k_y * 50 + k_z) (sf 9 + 1))) hM (upd fs (k_x * 200 + (k_y * 50 + k_z)) u) (sayR fs fr k_x (k_y * 50 + k_z) u) (sayR_at hSy b_x b_y b_z rfl) ns sc sn sw sb (hs.t rfl rfl rfl rfl rfl)) (cwV 0 hts gX8_say_X8_lists rfl rfl rfl (by decide +kernel) ⟨Nat.le_of_ble_eq_true rfl, Nat.le_of_ble_eq_true rfl⟩) (pV hK (ci := 8) rfl (hM.cel (by omega) (show (mw ac adr (va_up (va_up sf 0 0) 9 (if sayA fs k_x (k_y * 50 + k_z) u = fr (k_y * 50 + k_z) then sf 9 else sf 9 + 1)) (va_up (va_up af 17 (upd (af 17) (200 * k_x + (k_y * 50 + k_z)) u)) 18 (if sayA fs k_x (k_y * 50 + k_z) u = fr (k_y * 50 + k_z) then af 18 else upd (af 18) (k_y * 50 + k_z) (sf 9 + 1)))) 0 = .inr (8, mfs adr (va_up (va_up sf 0 0) 9 (if sayA fs k_x (k_y * 50 + k_z) u = fr (k_y * 50 + k_z) then sf 9 else sf 9 + 1))) from rfl))) rfl rfl hl.1 rfl (lv_room (Nat.le_of_ble_eq_true rfl)) dX8_say_125 ⟨Nat.le_of_ble_eq_true rfl, Nat.le_of_ble_eq_true rfl⟩) hS (fun w_25 H locs hw_25 hM hS => ?_)
                        have he_26 := hw_25
                        rw [he_26] at hM
                        have hM := (MW.cg (s1 := (va_up (va_up (va_up sf 0 0) 9 (if sayA fs k_x (k_y * 50 + k_z) u = fr (k_y * 50 + k_z) then sf 9 else sf 9 + 1)) 10 ((lsF (fun i => asB (sayR fs fr k_x (k_y * 50 + k_z) u) (sc i) (sn i) (sw i) (sb i)) (af 19) (sf 10) ns).2))) (a1 := (va_up (va_up (va_up af 17 (upd (af 17) (200 * k_x + (k_y * 50 + k_z)) u)) 18 (if sayA fs k_x (k_y * 50 + k_z) u = fr (k_y * 50 + k_z) then af 18 else upd (af 18) (k_y * 50 + k_z) (sf 9 + 1))) 19 ((lsF (fun i => asB (sayR fs fr k_x (k_y * 50 + k_z) u) (sc i) (sn i) (sw i) (sb i)) (af 19) (sf 10) ns).1))) hM (fun j9 => if q0_ : j9 = 10 then (by subst q0_; rfl) else (by first | rfl | simp only [va_up, if_neg q0_] | fail)) (fun j9 => if q0_ : j9 = 19 then (by subst q0_; rfl) else (by first | rfl | simp only [va_up, if_neg q0_] | fail)))
                        refine lv_aload_n hx hb dX8_say_128 rfl (lv_at hl 2 rfl) ?_
                        refine r_calli (va_runV (As := []) (rest := []) ⟨hx, hb, hml, hown, hts⟩ (k_X8_dueNow l D ac _ A adr (va_up (va_up (va_up sf 0 0) 9 (if sayA fs k_x (k_y * 50 + k_z) u = fr (k_y * 50 + k_z) then sf 9 else sf 9 + 1)) 10 ((lsF (fun i => asB (sayR fs fr k_x (k_y * 50 + k_z) u) (sc i) (sn i) (sw i) (sb i)) (af 19) (sf 10) ns).2)) (va_up (va_up (va_up af 17 (upd (af 17) (200 * k_x + (k_y * 50 + k_z)) u)) 18 (if sayA fs k_x (k_y * 50 + k_z) u = fr (k_y * 50 + k_z) then af 18 else upd (af 18) (k_y * 50 + k_z) (sf 9 + 1))) 19 ((lsF (fun i => asB (sayR fs fr k_x (k_y * 50 + k_z) u) (sc i) (sn i) (sw i) (sb i)) (af 19) (sf 10) ns).1)) hM ns hs.1 hs.2.1) (cwV 0 hts gX8_say_X8_dueNow rfl rfl rfl (by decide +kernel) ⟨Nat.le_of_ble_eq_true rfl, Nat.le_of_ble_eq_true rfl⟩) (pV hK (ci := 8) rfl (hM.cel (by omega) (show (mw ac adr (va_up (va_up (va_up sf 0 0) 9 (if sayA fs k_x (k_y * 50 + k_z) u = fr (k_y * 50 + k_z) then sf 9 else sf 9 + 1)) 10 ((lsF (fun i => asB (sayR fs fr k_x (k_y * 50 + k_z) u) (sc i) (sn i) (sw i) (sb i)) (af 19) (sf 10) ns).2)) (va_up (va_up (va_up af 17 (upd (af 17) (200 * k_x + (k_y * 50 + k_z)) u)) 18 (if sayA fs k_x (k_y * 50 + k_z) u = fr (k_y * 50 + k_z) then af 18 else upd (af 18) (k_y * 50 + k_z) (sf 9 + 1))) 19 ((lsF (fun i => asB (sayR fs fr k_x (k_y * 50 + k_z) u) (sc i) (sn i) (sw i) (sb i)) (af 19) (sf 10) ns).1))) 0 = .inr (8, mfs adr (va_up (va_up (va_up sf 0 0) 9 (if sayA fs k_x (k_y * 50 + k_z) u = fr (k_y * 50 + k_z) then sf 9 else sf 9 + 1)) 10 ((lsF (fun i => asB (sayR fs fr k_x (k_y * 50 + k_z) u) (sc i) (sn i) (sw i) (sb i)) (af 19) (sf 10) ns).2))) from rfl))) rfl rfl hl.1 rfl (lv_room (Nat.le_of_ble_eq_true rfl)) dX8_say_129 ⟨Nat.le_of_ble_eq_true rfl, Nat.le_of_ble_eq_true rfl⟩) hS (fun rv_27 locs hrv_27 hS => ?_)
                        subst hrv_27
                        rw [hQ0]
                        exact e_wi hx hb hlocks hr dX8_say_132 hM hS (MPo.ok (by rw [say_code]; simp [cd1, hi_x, hi_y, hi_z, hi_u] : cd1 ((ix (nI k_x) 3).isNone || ((ix (nI k_y) 4).isNone || (ix (nI k_z) 50).isNone) || (decide (u < -1) || !decide (u < 100))) = 0) rfl ⟨k_x, k_y, k_z, b_x, b_y, b_z, rfl, rfl, rfl, rfl, rfl, rfl⟩)
                      · have f97 : ¬ sayA fs k_x (k_y * 50 + k_z) u = fr (k_y * 50 + k_z) := c97
                        refine lv_aload_n hx hb dX8_say_100 rfl (lv_at hl 2 rfl) ?_
                        refine lv_dup hx hb dX8_say_101 rfl ?_
                        refine m_get (ci := 8) (C := RX8) (T := TX8) (n := 35) (v := .int (sf 9)) hx hb hts inX8_ hown hK rfl (hM.cel (by omega) (show (mw ac adr (va_up sf 0 0) (va_up af 17 (upd (af 17) (200 * k_x + (k_y * 50 + k_z)) u))) 0 = .inr (8, mfs adr (va_up sf 0 0)) from rfl)) 27 (by decide) (hts _ (by decide +kernel)) rfl dX8_say_102 ?_
                        refine lv_iconst (v := 1) hx hb dX8_say_105 (by decide) ?_
                        refine lv_iadd hx hb dX8_say_106 ?_
                        refine m_put (ci := 8) (C := RX8) (T := TX8) (n := 35) (v := .int ((sf 9) + 1)) (ty := tyX8 27) hx hb hts inX8_ tyX8 tyX8_ok nmX8 hown hK hM hS rfl 0 (by omega) (show (mw ac adr (va_up sf 0 0) (va_up af 17 (upd (af 17) (200 * k_x + (k_y * 50 + k_z)) u))) 0 = .inr (8, mfs adr (va_up sf 0 0)) from rfl) 27 (by decide) (hts _ (by decide +kernel)) rfl (by decide +kernel) rfl rfl (Nat.le_of_ble_eq_true rfl) dX8_say_107 (fun H locs hM hS => ?_)
                        have hM : MW D A 24 adr (va_up (mw ac adr (va_up sf 0 0) (va_up af 17 (upd (af 17) (200 * k_x + (k_y * 50 + k_z)) u))) 0 (.inr (8, mfs adr (va_up (va_up sf 0 0) 9 ((sf 9) + 1))))) H := hM
                        have hM := MW.mobj (s1 := (va_up (va_up sf 0 0) 9 ((sf 9) + 1))) hM rfl
                        refine lv_aload_n hx hb dX8_say_110 rfl (lv_at hl 2 rfl) ?_
                        refine m_get (ci := 8) (C := RX8) (T := TX8) (n := 35) (v := .ref (adr 18)) hx hb hts inX8_ hown hK rfl (hM.cel (by omega) (show (mw ac adr (va_up (va_up sf 0 0) 9 ((sf 9) + 1)) (va_up af 17 (upd (af 17) (200 * k_x + (k_y * 50 + k_z)) u))) 0 = .inr (8, mfs adr (va_up (va_up sf 0 0) 9 ((sf 9) + 1))) from rfl)) 26 (by decide) (hts _ (by decide +kernel)) rfl dX8_say_111 ?_
                        refine lv_iload_n hx hb dX8_say_114 rfl (lv_at hl 4 rfl) ?_
                        refine lv_iload_n hx hb dX8_say_115 rfl (lv_at hl 5 rfl) ?_
                        refine r_calli (va_runS (As := [.int (nI k_y), .int (nI k_z)]) (rest := [.ref (adr 18)]) ⟨hx, hb, hml, hown, hts⟩ (k_X8_at l D ac _ k_y k_z) (va_cwS 2 hts gX8_say_X8_at rfl rfl rfl (by decide +kernel) ⟨Nat.le_of_ble_eq_true rfl, Nat.le_of_ble_eq_true rfl⟩) (pS hK) rfl rfl hl.1 rfl (lv_room (Nat.le_of_ble_eq_true rfl)) dX8_say_116 ⟨Nat.le_of_ble_eq_true rfl, Nat.le_of_ble_eq_true rfl⟩) hS (fun rv_28 locs hrv_28 hS => ?_)
                        subst hrv_28
                        refine lv_aload_n hx hb dX8_say_119 rfl (lv_at hl 2 rfl) ?_
                        refine m_get (ci := 8) (C := RX8) (T := TX8) (n := 35) (v := .int ((sf 9) + 1)) hx hb hts inX8_ hown hK rfl (hM.cel (by omega) (show (mw ac adr (va_up (va_up sf 0 0) 9 ((sf 9) + 1)) (va_up af 17 (upd (af 17) (200 * k_x + (k_y * 50 + k_z)) u))) 0 = .inr (8, mfs adr (va_up (va_up sf 0 0) 9 ((sf 9) + 1))) from rfl)) 27 (by decide) (hts _ (by decide +kernel)) rfl dX8_say_120 ?_
                        refine m_iast hx hb hK hM hS 18 (by omega) (show (mw ac adr (va_up (va_up sf 0 0) 9 ((sf 9) + 1)) (va_up af 17 (upd (af 17) (200 * k_x + (k_y * 50 + k_z)) u))) 18 = .inl (ac 0, 200, .inl (af 18)) from rfl) (vp_in_nI (by omega) (by decide)) dX8_say_123 (fun H locs hM hS => ?_)
                        have ef_ : (upd (af 18) (nI (k_y * 50 + k_z)).toNatClampNeg ((sf 9) + 1)) = upd (af 18) (k_y * 50 + k_z) (sf 9 + 1) := by rw [nI_clamp (by omega)]
                        rw [ef_] at hM
                        clear ef_
                        have hM := MW.marr (a1 := (va_up (va_up af 17 (upd (af 17) (200 * k_x + (k_y * 50 + k_z)) u)) 18 (upd (af 18) (k_y * 50 + k_z) (sf 9 + 1)))) hM (by decide) rfl rfl (fun j9 hj9 => by simp only [va_up, if_neg hj9])
                        have hM := MW.cg (s1 := (va_up (va_up sf 0 0) 9 (if sayA fs k_x (k_y * 50 + k_z) u = fr (k_y * 50 + k_z) then sf 9 else sf 9 + 1))) (a1 := (va_up (va_up af 17 (upd (af 17) (200 * k_x + (k_y * 50 + k_z)) u)) 18 (if sayA fs k_x (k_y * 50 + k_z) u = fr (k_y * 50 + k_z) then af 18 else upd (af 18) (k_y * 50 + k_z) (sf 9 + 1)))) hM (fun j9 => if q0_ : j9 = 9 then (by subst q0_; show (if sayA fs k_x (k_y * 50 + k_z) u = fr (k_y * 50 + k_z) then sf 9 else sf 9 + 1) = (sf 9) + 1; exact (if_neg f97)) else (by first | rfl | simp only [va_up, if_neg q0_] | fail)) (fun j9 => if q0_ : j9 = 18 then (by subst q0_; show (if sayA fs k_x (k_y * 50 + k_z) u = fr (k_y * 50 + k_z) then af 18 else upd (af 18) (k_y * 50 + k_z) (sf 9 + 1)) = upd (af 18) (k_y * 50 + k_z) (sf 9 + 1); exact (if_neg f97)) else (by first | rfl | simp only [va_up, if_neg q0_] | fail))
                        refine lv_aload_n hx hb dX8_say_124 rfl (lv_at hl 2 rfl) ?_
                        refine w_callv (va_runV (As := []) (rest := []) ⟨hx, hb, hml, hown, hts⟩ (k_X8_lists l D ac _ A adr (va_up (va_up sf 0 0) 9 (if sayA fs k_x (k_y * 50 + k_z) u = fr (k_y * 50 + k_z) then sf 9 else sf 9 + 1)) (va_up (va_up af 17 (upd (af 17) (200 * k_x + (k_y * 50 + k_z)) u)) 18 (if sayA fs k_x (k_y * 50 + k_z) u = fr (k_y * 50 + k_z) then af 18 else upd (af 18) (k_y * 50 + k_z) (sf 9 + 1))) hM (upd fs (k_x * 200 + (k_y * 50 + k_z)) u) (sayR fs fr k_x (k_y * 50 + k_z) u) (sayR_at hSy b_x b_y b_z rfl) ns sc sn sw sb (hs.t rfl rfl rfl rfl rfl)) (cwV 0 hts gX8_say_X8_lists rfl rfl rfl (by decide +kernel) ⟨Nat.le_of_ble_eq_true rfl, Nat.le_of_ble_eq_true rfl⟩) (pV hK (ci := 8) rfl (hM.cel (by omega) (show (mw ac adr (va_up (va_up sf 0 0) 9 (if sayA fs k_x (k_y * 50 + k_z) u = fr (k_y * 50 + k_z) then sf 9 else sf 9 + 1)) (va_up (va_up af 17 (upd (af 17) (200 * k_x + (k_y * 50 + k_z)) u)) 18 (if sayA fs k_x (k_y * 50 + k_z) u = fr (k_y * 50 + k_z) then af 18 else upd (af 18) (k_y * 50 + k_z) (sf 9 + 1)))) 0 = .inr (8, mfs adr (va_up (va_up sf 0 0) 9 (if sayA fs k_x (k_y * 50 + k_z) u = fr (k_y * 50 + k_z) then sf 9 else sf 9 + 1))) from rfl))) rfl rfl hl.1 rfl (lv_room (Nat.le_of_ble_eq_true rfl)) dX8_say_125 ⟨Nat.le_of_ble_eq_true rfl, Nat.le_of_ble_eq_true rfl⟩) hS (fun w_31 H locs hw_31 hM hS => ?_)
                        have he_32 := hw_31
                        rw [he_32] at hM
                        have hM := (MW.cg (s1 := (va_up (va_up (va_up sf 0 0) 9 (if sayA fs k_x (k_y * 50 + k_z) u = fr (k_y * 50 + k_z) then sf 9 else sf 9 + 1)) 10 ((lsF (fun i => asB (sayR fs fr k_x (k_y * 50 + k_z) u) (sc i) (sn i) (sw i) (sb i)) (af 19) (sf 10) ns).2))) (a1 := (va_up (va_up (va_up af 17 (upd (af 17) (200 * k_x + (k_y * 50 + k_z)) u)) 18 (if sayA fs k_x (k_y * 50 + k_z) u = fr (k_y * 50 + k_z) then af 18 else upd (af 18) (k_y * 50 + k_z) (sf 9 + 1))) 19 ((lsF (fun i => asB (sayR fs fr k_x (k_y * 50 + k_z) u) (sc i) (sn i) (sw i) (sb i)) (af 19) (sf 10) ns).1))) hM (fun j9 => if q0_ : j9 = 10 then (by subst q0_; rfl) else (by first | rfl | simp only [va_up, if_neg q0_] | fail)) (fun j9 => if q0_ : j9 = 19 then (by subst q0_; rfl) else (by first | rfl | simp only [va_up, if_neg q0_] | fail)))
                        refine lv_aload_n hx hb dX8_say_128 rfl (lv_at hl 2 rfl) ?_
                        refine r_calli (va_runV (As := []) (rest := []) ⟨hx, hb, hml, hown, hts⟩ (k_X8_dueNow l D ac _ A adr (va_up (va_up (va_up sf 0 0) 9 (if sayA fs k_x (k_y * 50 + k_z) u = fr (k_y * 50 + k_z) then sf 9 else sf 9 + 1)) 10 ((lsF (fun i => asB (sayR fs fr k_x (k_y * 50 + k_z) u) (sc i) (sn i) (sw i) (sb i)) (af 19) (sf 10) ns).2)) (va_up (va_up (va_up af 17 (upd (af 17) (200 * k_x + (k_y * 50 + k_z)) u)) 18 (if sayA fs k_x (k_y * 50 + k_z) u = fr (k_y * 50 + k_z) then af 18 else upd (af 18) (k_y * 50 + k_z) (sf 9 + 1))) 19 ((lsF (fun i => asB (sayR fs fr k_x (k_y * 50 + k_z) u) (sc i) (sn i) (sw i) (sb i)) (af 19) (sf 10) ns).1)) hM ns hs.1 hs.2.1) (cwV 0 hts gX8_say_X8_dueNow rfl rfl rfl (by decide +kernel) ⟨Nat.le_of_ble_eq_true rfl, Nat.le_of_ble_eq_true rfl⟩) (pV hK (ci := 8) rfl (hM.cel (by omega) (show (mw ac adr (va_up (va_up (va_up sf 0 0) 9 (if sayA fs k_x (k_y * 50 + k_z) u = fr (k_y * 50 + k_z) then sf 9 else sf 9 + 1)) 10 ((lsF (fun i => asB (sayR fs fr k_x (k_y * 50 + k_z) u) (sc i) (sn i) (sw i) (sb i)) (af 19) (sf 10) ns).2)) (va_up (va_up (va_up af 17 (upd (af 17) (200 * k_x + (k_y * 50 + k_z)) u)) 18 (if sayA fs k_x (k_y * 50 + k_z) u = fr (k_y * 50 + k_z) then af 18 else upd (af 18) (k_y * 50 + k_z) (sf 9 + 1))) 19 ((lsF (fun i => asB (sayR fs fr k_x (k_y * 50 + k_z) u) (sc i) (sn i) (sw i) (sb i)) (af 19) (sf 10) ns).1))) 0 = .inr (8, mfs adr (va_up (va_up (va_up sf 0 0) 9 (if sayA fs k_x (k_y * 50 + k_z) u = fr (k_y * 50 + k_z) then sf 9 else sf 9 + 1)) 10 ((lsF (fun i => asB (sayR fs fr k_x (k_y * 50 + k_z) u) (sc i) (sn i) (sw i) (sb i)) (af 19) (sf 10) ns).2))) from rfl))) rfl rfl hl.1 rfl (lv_room (Nat.le_of_ble_eq_true rfl)) dX8_say_129 ⟨Nat.le_of_ble_eq_true rfl, Nat.le_of_ble_eq_true rfl⟩) hS (fun rv_33 locs hrv_33 hS => ?_)
                        subst hrv_33
                        rw [hQ0]
                        exact e_wi hx hb hlocks hr dX8_say_132 hM hS (MPo.ok (by rw [say_code]; simp [cd1, hi_x, hi_y, hi_z, hi_u] : cd1 ((ix (nI k_x) 3).isNone || ((ix (nI k_y) 4).isNone || (ix (nI k_z) 50).isNone) || (decide (u < -1) || !decide (u < 100))) = 0) rfl ⟨k_x, k_y, k_z, b_x, b_y, b_z, rfl, rfl, rfl, rfl, rfl, rfl⟩)
                    · exact absurd c58 (by decide)
/-- a change of a ruling came behind the sale, told by moments as by numbers of sentences -/
def MMom (af : Nat → Nat → Int32) (ns : Nat) (ft : Nat → Nat) : Prop := ∀ i, i < ns → ∀ q, q < 200 → (af 18 q < af 6 i ↔ ¬ nI i < nI (ft q))
theorem MMom.y {af : Nat → Nat → Int32} {ns : Nat} {ft : Nat → Nat} {i q : Nat} (h : MMom af ns ft) (hi : i < ns) (hq : q < 200) (c : ¬ af 6 i ≤ af 18 q) : (-5 : Int32) = mpI (nI (ft q)) (nI i) := by
  unfold mpI
  rw [if_neg ((h i hi q hq).mp (gt_of_nle c))]
theorem MMom.n {af : Nat → Nat → Int32} {ns : Nat} {ft : Nat → Nat} {i q : Nat} (h : MMom af ns ft) (hi : i < ns) (hq : q < 200) (c : af 6 i ≤ af 18 q) : (3 : Int32) = mpI (nI (ft q)) (nI i) := by
  unfold mpI
  by_cases e : nI i < nI (ft q)
  · rw [if_pos e]
  · exact absurd ((h i hi q hq).mpr e) (ngt_of_le c)
theorem ast_cg {fr : Nat → Int32} {cl : Nat} {wd : Nat → Nat} {b b2 : Nat → Int32} {j : Nat} (h : b j = b2 j) : ast fr cl wd b j ↔ ast fr cl wd b2 j := by
  unfold ast
  rw [h]
theorem mdB_cg {fr : Nat → Int32} {cl : Nat} {wd : Nat → Nat} {b b2 : Nat → Int32} {i j : Nat} (h : b j = b2 j) : mdB fr cl wd b i j = mdB fr cl wd b2 i j := by
  unfold mdB
  by_cases e : j < i ∧ ast fr cl wd b j
  · rw [if_pos e, if_pos ⟨e.1, (ast_cg h).mp e.2⟩]
  · rw [if_neg e, if_neg (fun q => e ⟨q.1, (ast_cg h).mpr q.2⟩)]
    exact h
theorem mdC_cg {fr : Nat → Int32} {cl : Nat} {wd : Nat → Nat} {b b2 : Nat → Int32} : ∀ i, (∀ j, j < i → b j = b2 j) → mdC fr cl wd b i = mdC fr cl wd b2 i := by
  intro i
  induction i with
  | zero => intro _; rfl
  | succ i ih =>
    intro h
    have h1 := ih (fun j hj => h j (by omega))
    by_cases e : ast fr cl wd b i
    · rw [mdC_t e, mdC_t ((ast_cg (h i (by omega))).mp e), h1]
    · rw [mdC_n e, mdC_n (fun q => e ((ast_cg (h i (by omega))).mpr q)), h1]
theorem mdP_cg {fr : Nat → Int32} {ft : Nat → Nat} {cl : Nat} {wd : Nat → Nat} {b b2 : Nat → Int32} {x : Int32} {pd : Nat → Int32} : ∀ i, (∀ j, j < i → b j = b2 j) → mdP fr ft cl wd b x pd i = mdP fr ft cl wd b2 x pd i := by
  intro i
  induction i with
  | zero => intro _; rfl
  | succ i ih =>
    intro h
    have h1 := ih (fun j hj => h j (by omega))
    by_cases e : ast fr cl wd b i
    · rw [mdP_t e, mdP_t ((ast_cg (h i (by omega))).mp e), h1]
    · rw [mdP_n e, mdP_n (fun q => e ((ast_cg (h i (by omega))).mpr q)), h1]
set_option maxHeartbeats 4000000 in
set_option maxRecDepth 100000 in
/-- X8_mend -/
theorem k_X8_mend (l : Launch) (D : va_G) (ac : Nat → ClassId) (H : Heap) (A : Nat → Prop) (adr : Nat → Nat) (sf : Nat → Int32) (af : Nat → Nat → Int32) (hM : MW D A 24 adr (mw ac adr sf af) H) (fs fr : Nat → Int32) (hSy : SayR af fs fr) (ns : Nat) (sc sn : Nat → Nat) (sw : Nat → Nat → Nat) (sb : Nat → Nat → Int32) (hs : MSen sf af ns sc sn sw sb) (ft : Nat → Nat) (hmo : MMom af ns ft) (x : Int32) : WRi l yX8_mend wsX8_mend ({ frames := 5, cells := 0, slots := 0, locals := 115 }) [.ref (adr 0), .int x] D ac H A 24 adr (MPo ac adr sf af (cd2 (ix x ns).isNone ((ix x ns).elim true (fun i => !asB fr (sc i) (sn i) (sw i) (sb i)))) (fun r s1 a1 => ∃ i, i < ns ∧ x = nI i ∧ asB fr (sc i) (sn i) (sw i) (sb i) = true ∧ r = nI (mdC fr (sc i) (sw i) (sb i) (sn i)) ∧ s1 = (va_up (va_up sf 0 0) 10 ((lsF (fun i1 => asB fr (sc i1) (sn i1) (sw i1) (va_up sb i (mdB fr (sc i) (sw i) (sb i) (sn i)) i1)) (af 19) (sf 10) ns).2)) ∧ a1 = (va_up (va_up (va_up af 5 (blk i (mdB fr (sc i) (sw i) (fun j => af 5 (8 * i + j)) (sn i)) (af 5))) 19 ((lsF (fun i1 => asB fr (sc i1) (sn i1) (sw i1) (va_up sb i (mdB fr (sc i) (sw i) (sb i) (sn i)) i1)) (af 19) (sf 10) ns).1)) 20 (mdP fr ft (sc i) (sw i) (fun j => af 5 (8 * i + j)) (nI i) (af 20) (sn i))))) := by
  refine Met.ofW (cc := cX8_mend) (maxL := 6) (ret := (some .int)) (by decide) rfl ?_
  intro p e s m args below meth c s₁ B hml hv
  obtain ⟨hargs, hsz, hK⟩ := hv
  have hx := B.exec
  have hb := B.bytes
  have hr := B.returns
  have hts := atoms_spec (ws := wsX8_mend) B.pre
  have hown : s.vm.findClass RX8 = some m.cls := findClass_of_methodNamed B.named
  have hlocks := B.notSynchronized
  subst hsz
  have inX8_ : ∀ w ∈ wsX80, w ∈ wsX8_mend := by decide +kernel
  have hS : va_S A s.heap s.heap [] := va_S.rf
  have hl := lv_entry ([.ref (adr 0), .int x]) (n := 6) (Nat.le_of_ble_eq_true rfl)
  have hen := lg_entry_eq m [.ref (adr 0), .int x] 6
  rw [← hargs] at hen
  rw [hen]
  generalize (lg_sl ([.ref (adr 0), .int x]) ++ List.replicate (6 - (lg_sl ([.ref (adr 0), .int x])).length) Slot.unset).toArray = ls at hl ⊢
  have hl : lv_has ls 6 [(0, .ref (adr 0)), (1, .int x)] := hl
  obtain ⟨Q0, hQ0⟩ : ∃ z0_, z0_ = MQ below (va_Qi (MPo ac adr sf af (cd2 (ix x ns).isNone ((ix x ns).elim true (fun i => !asB fr (sc i) (sn i) (sw i) (sb i)))) (fun r s1 a1 => ∃ i, i < ns ∧ x = nI i ∧ asB fr (sc i) (sn i) (sw i) (sb i) = true ∧ r = nI (mdC fr (sc i) (sw i) (sb i) (sn i)) ∧ s1 = (va_up (va_up sf 0 0) 10 ((lsF (fun i1 => asB fr (sc i1) (sn i1) (sw i1) (va_up sb i (mdB fr (sc i) (sw i) (sb i) (sn i)) i1)) (af 19) (sf 10) ns).2)) ∧ a1 = (va_up (va_up (va_up af 5 (blk i (mdB fr (sc i) (sw i) (fun j => af 5 (8 * i + j)) (sn i)) (af 5))) 19 ((lsF (fun i1 => asB fr (sc i1) (sn i1) (sw i1) (va_up sb i (mdB fr (sc i) (sw i) (sb i) (sn i)) i1)) (af 19) (sf 10) ns).1)) 20 (mdP fr ft (sc i) (sw i) (fun j => af 5 (8 * i + j)) (nI i) (af 20) (sn i))))) (fun c t => MW D A 24 adr c t.heap) A) args s 0 0 A := ⟨_, rfl⟩
  rw [← hQ0]
  have h7 := hs.2.1
  refine lv_aload_n hx hb dX8_mend_0 rfl (lv_at hl 0 rfl) ?_
  refine lv_iload_n hx hb dX8_mend_1 rfl (lv_at hl 1 rfl) ?_
  refine r_calli (va_runV (As := [.int x]) (rest := []) ⟨hx, hb, hml, hown, hts⟩ (k_X8_isSentence l D ac _ A adr sf af hM ns sc sn sw sb (hs.t rfl rfl rfl rfl rfl) x) (cwV 1 hts gX8_mend_X8_isSentence rfl rfl rfl (by decide +kernel) ⟨Nat.le_of_ble_eq_true rfl, Nat.le_of_ble_eq_true rfl⟩) (pV hK (ci := 8) rfl (hM.cel (by omega) (show (mw ac adr sf af) 0 = .inr (8, mfs adr sf) from rfl))) rfl rfl hl.1 rfl (lv_room (Nat.le_of_ble_eq_true rfl)) dX8_mend_2 ⟨Nat.le_of_ble_eq_true rfl, Nat.le_of_ble_eq_true rfl⟩) hS (fun rv_1 locs hrv_1 hS => ?_)
  subst hrv_1
  rcases hi_x : ix x ns with _ | k_x
  · refine m_top (show _ = (0 : Int32) from rfl) ?_
    refine lv_istore_n (lv' := [(2, .int 0), (0, .ref (adr 0)), (1, .int x)]) hx hb dX8_mend_5 rfl hl (by decide) rfl (fun ls hl => ?_)
    refine lv_aload_n hx hb dX8_mend_6 rfl (lv_at hl 1 rfl) ?_
    refine lv_iload_n hx hb dX8_mend_7 rfl (lv_at hl 0 rfl) ?_
    refine lv_if_ne (tgt := 15) hx hb dX8_mend_8 (by decide) (fun c8 => ?_) (fun c8 => ?_)
    · exact absurd c8 (by decide)
    · refine lv_iconst (v := 1) hx hb dX8_mend_11 (by decide) ?_
      refine lv_goto (tgt := 28) hx hb dX8_mend_12 (by decide) ?_
      refine w_calli (va_runV (As := [.int 1]) (rest := []) ⟨hx, hb, hml, hown, hts⟩ (k_X8_holds l D ac _ A adr sf af hM 1) (cwV 1 hts gX8_mend_X8_holds rfl rfl rfl (by decide +kernel) ⟨Nat.le_of_ble_eq_true rfl, Nat.le_of_ble_eq_true rfl⟩) (pV hK (ci := 8) rfl (hM.cel (by omega) (show (mw ac adr sf af) 0 = .inr (8, mfs adr sf) from rfl))) rfl rfl hl.1 rfl (lv_room (Nat.le_of_ble_eq_true rfl)) dX8_mend_28 ⟨Nat.le_of_ble_eq_true rfl, Nat.le_of_ble_eq_true rfl⟩) hS (fun rv_2 w_3 H locs hw_3 hM hS => ?_)
      obtain ⟨hrv_2, he_4⟩ := hw_3
      rw [he_4] at hM
      have hM := (MW.cg (s1 := (va_up sf 0 1)) (a1 := af) hM (fun j9 => if q0_ : j9 = 0 then (by subst q0_; rfl) else (by first | rfl | simp only [va_up, if_neg q0_] | fail)) (fun _ => rfl))
      subst hrv_2
      refine m_top (show _ = (0 : Int32) from rfl) ?_
      refine lv_if_ne (tgt := 36) hx hb dX8_mend_31 (by decide) (fun c31 => ?_) (fun c31 => ?_)
      · exact absurd c31 (by decide)
      · refine lv_iconst (v := 0) hx hb dX8_mend_34 (by decide) ?_
        rw [hQ0]
        exact e_wi hx hb hlocks hr dX8_mend_35 hM hS (MPo.no (c := 1) (by simp [cd1, cd2, cd3, hi_x] : cd2 (ix x ns).isNone ((ix x ns).elim true (fun i => !asB fr (sc i) (sn i) (sw i) (sb i))) = 1) (by decide) rfl ⟨fun k9 u1_ u2_ => by first | rfl | simp only [va_up, if_neg u1_, if_neg u2_] | fail, fun k9 u1_ u2_ => by first | rfl | simp only [va_up, if_neg u1_, if_neg u2_] | fail⟩)
  · obtain ⟨b_x, e_x⟩ := ix_of hi_x (by omega)
    refine m_top (show _ = (1 : Int32) from rfl) ?_
    subst e_x
    obtain ⟨q1_, q2_, ⟨q3_, q4_, q5_⟩, q6_⟩ := hs.2.2 k_x b_x
    refine lv_istore_n (lv' := [(2, .int 1), (0, .ref (adr 0)), (1, .int (nI k_x))]) hx hb dX8_mend_5 rfl hl (by decide) rfl (fun ls hl => ?_)
    refine lv_aload_n hx hb dX8_mend_6 rfl (lv_at hl 1 rfl) ?_
    refine lv_iload_n hx hb dX8_mend_7 rfl (lv_at hl 0 rfl) ?_
    refine lv_if_ne (tgt := 15) hx hb dX8_mend_8 (by decide) (fun c8 => ?_) (fun c8 => ?_)
    · refine lv_aload_n hx hb dX8_mend_15 rfl (lv_at hl 1 rfl) ?_
      refine lv_iload_n hx hb dX8_mend_16 rfl (lv_at hl 2 rfl) ?_
      refine r_calli (va_runV (As := [.int (nI k_x)]) (rest := [.ref (adr 0)]) ⟨hx, hb, hml, hown, hts⟩ (k_X8_isDueNow l D ac _ A adr sf af hM fs fr (hSy.t rfl) ns sc sn sw sb (hs.t rfl rfl rfl rfl rfl) k_x (by omega)) (cwV 1 hts gX8_mend_X8_isDueNow rfl rfl rfl (by decide +kernel) ⟨Nat.le_of_ble_eq_true rfl, Nat.le_of_ble_eq_true rfl⟩) (pV hK (ci := 8) rfl (hM.cel (by omega) (show (mw ac adr sf af) 0 = .inr (8, mfs adr sf) from rfl))) rfl rfl hl.1 rfl (lv_room (Nat.le_of_ble_eq_true rfl)) dX8_mend_17 ⟨Nat.le_of_ble_eq_true rfl, Nat.le_of_ble_eq_true rfl⟩) hS (fun rv_5 locs hrv_5 hS => ?_)
      subst hrv_5
      by_cases d20 : asB fr (sc k_x) (sn k_x) (sw k_x) (sb k_x) = true
      · refine m_top (show (if asB fr (sc k_x) (sn k_x) (sw k_x) (sb k_x) = true then 1 else 0) = (1 : Int32) from if_pos d20) ?_
        refine lv_if_eq (tgt := 27) hx hb dX8_mend_20 (by decide) (fun c20 => ?_) (fun c20 => ?_)
        · exact absurd c20 (by decide)
        · refine lv_iconst (v := 0) hx hb dX8_mend_23 (by decide) ?_
          refine lv_goto (tgt := 28) hx hb dX8_mend_24 (by decide) ?_
          refine w_calli (va_runV (As := [.int 0]) (rest := []) ⟨hx, hb, hml, hown, hts⟩ (k_X8_holds l D ac _ A adr sf af hM 0) (cwV 1 hts gX8_mend_X8_holds rfl rfl rfl (by decide +kernel) ⟨Nat.le_of_ble_eq_true rfl, Nat.le_of_ble_eq_true rfl⟩) (pV hK (ci := 8) rfl (hM.cel (by omega) (show (mw ac adr sf af) 0 = .inr (8, mfs adr sf) from rfl))) rfl rfl hl.1 rfl (lv_room (Nat.le_of_ble_eq_true rfl)) dX8_mend_28 ⟨Nat.le_of_ble_eq_true rfl, Nat.le_of_ble_eq_true rfl⟩) hS (fun rv_6 w_7 H locs hw_7 hM hS => ?_)
          obtain ⟨hrv_6, he_8⟩ := hw_7
          rw [he_8] at hM
          have hM := (MW.cg (s1 := (va_up sf 0 0)) (a1 := af) hM (fun j9 => if q0_ : j9 = 0 then (by subst q0_; rfl) else (by first | rfl | simp only [va_up, if_neg q0_] | fail)) (fun _ => rfl))
          subst hrv_6
          refine m_top (show _ = (1 : Int32) from rfl) ?_
          refine lv_if_ne (tgt := 36) hx hb dX8_mend_31 (by decide) (fun c31 => ?_) (fun c31 => ?_)
          · refine lv_aload_n hx hb dX8_mend_36 rfl (lv_at hl 1 rfl) ?_
            refine m_get (ci := 8) (C := RX8) (T := TX8) (n := 35) (v := .ref (adr 2)) hx hb hts inX8_ hown hK rfl (hM.cel (by omega) (show (mw ac adr (va_up sf 0 0) af) 0 = .inr (8, mfs adr (va_up sf 0 0)) from rfl)) 7 (by decide) (hts _ (by decide +kernel)) rfl dX8_mend_37 ?_
            refine lv_iload_n hx hb dX8_mend_40 rfl (lv_at hl 2 rfl) ?_
            refine m_iald hx hb hK (hM.cel (by omega) (show (mw ac adr (va_up sf 0 0) af) 2 = .inl (ac 0, 40, .inl (af 2)) from rfl)) (vp_in_nI (by omega) (by decide)) dX8_mend_41 ?_
            refine m_top (show ((af 2) (nI k_x).toNatClampNeg) = nI (sc k_x) from by rw [nI_clamp (by omega)]; exact q1_) ?_
            refine lv_istore_n (lv' := [(3, .int (nI (sc k_x))), (2, .int 1), (0, .ref (adr 0)), (1, .int (nI k_x))]) hx hb dX8_mend_42 rfl hl (by decide) rfl (fun ls hl => ?_)
            refine lv_iconst (v := 0) hx hb dX8_mend_43 (by decide) ?_
            refine lv_istore (lv' := [(4, .int 0), (3, .int (nI (sc k_x))), (2, .int 1), (0, .ref (adr 0)), (1, .int (nI k_x))]) hx hb dX8_mend_44 hl (by decide) rfl (fun ls hl => ?_)
            refine lv_bipush (v := 8) hx hb dX8_mend_46 (by decide) ?_
            refine lv_iload_n hx hb dX8_mend_48 rfl (lv_at hl 4 rfl) ?_
            refine lv_imul hx hb dX8_mend_49 ?_
            refine m_top (show (8 * (nI k_x)) = nI (8 * k_x) from by rw [show (8 : Int32) = nI 8 from rfl, pk_mul]) ?_
            have hM := MW.cg (s1 := (va_up sf 0 0)) (a1 := (va_up (va_up af 5 (blk k_x (mdB fr (sc k_x) (sw k_x) (fun j => af 5 (8 * k_x + j)) 0) (af 5))) 20 (mdP fr ft (sc k_x) (sw k_x) (fun j => af 5 (8 * k_x + j)) (nI k_x) (af 20) 0))) hM (fun _ => rfl) (fun j9 => if q0_ : j9 = 5 then (by subst q0_; show blk k_x (mdB fr (sc k_x) (sw k_x) (fun j => af 5 (8 * k_x + j)) 0) (af 5) = af 5; exact (by rw [mdB_0]; exact blk_0)) else if q1_ : j9 = 20 then (by subst q1_; show mdP fr ft (sc k_x) (sw k_x) (fun j => af 5 (8 * k_x + j)) (nI k_x) (af 20) 0 = af 20; exact (rfl)) else (by first | rfl | simp only [va_up, if_neg q0_, if_neg q1_] | fail))
            refine lv_istore (lv' := [(5, .int (nI (8 * k_x))), (4, .int 0), (3, .int (nI (sc k_x))), (2, .int 1), (0, .ref (adr 0)), (1, .int (nI k_x))]) hx hb dX8_mend_50 hl (by decide) rfl (fun ls hl => ?_)
            have L52 : ∀ (k9 : Nat) (j : Nat) (hk : sn k_x - j < k9) (hj : j ≤ sn k_x) (H : Heap) (locs : List Loc) (hM : MW D A 24 adr (mw ac adr (va_up sf 0 0) (va_up (va_up af 5 (blk k_x (mdB fr (sc k_x) (sw k_x) (fun j => af 5 (8 * k_x + j)) j) (af 5))) 20 (mdP fr ft (sc k_x) (sw k_x) (fun j => af 5 (8 * k_x + j)) (nI k_x) (af 20) j))) H) (hS : va_S A s.heap H locs) (ls : Array Slot) (hl : lv_has ls 6 [(0, .ref (adr 0)), (1, .int (nI k_x)), (3, .int (nI (sc k_x))), (4, .int (nI (mdC fr (sc k_x) (sw k_x) (fun j => af 5 (8 * k_x + j)) j))), (5, .int (nI (8 * k_x + j)))]), W p l e (headSpec wsX8_mend ({ frames := 5, cells := 0, slots := 0, locals := 115 })).room s m args below meth c H locs 0 0 Q0 (F0 m 52 ls []) := by
              intro k9
              induction k9 with
              | zero => intro j hk hj H locs hM hS ls hl; exact absurd hk (Nat.not_lt_zero _)
              | succ k9 ih52 =>
                intro j hk hj H locs hM hS ls hl
                refine lv_iload hx hb dX8_mend_52 (lv_at hl 4 rfl) ?_
                refine lv_bipush (v := 8) hx hb dX8_mend_54 (by decide) ?_
                refine lv_iload_n hx hb dX8_mend_56 rfl (lv_at hl 1 rfl) ?_
                refine lv_imul hx hb dX8_mend_57 ?_
                refine m_top (show (8 * (nI k_x)) = nI (8 * k_x) from by rw [show (8 : Int32) = nI 8 from rfl, pk_mul]) ?_
                refine lv_aload_n hx hb dX8_mend_58 rfl (lv_at hl 0 rfl) ?_
                refine m_get (ci := 8) (C := RX8) (T := TX8) (n := 35) (v := .ref (adr 3)) hx hb hts inX8_ hown hK rfl (hM.cel (by omega) (show (mw ac adr (va_up sf 0 0) (va_up (va_up af 5 (blk k_x (mdB fr (sc k_x) (sw k_x) (fun j => af 5 (8 * k_x + j)) j) (af 5))) 20 (mdP fr ft (sc k_x) (sw k_x) (fun j => af 5 (8 * k_x + j)) (nI k_x) (af 20) j))) 0 = .inr (8, mfs adr (va_up sf 0 0)) from rfl)) 8 (by decide) (hts _ (by decide +kernel)) rfl dX8_mend_59 ?_
                refine lv_iload_n hx hb dX8_mend_62 rfl (lv_at hl 1 rfl) ?_
                refine m_iald hx hb hK (hM.cel (by omega) (show (mw ac adr (va_up sf 0 0) (va_up (va_up af 5 (blk k_x (mdB fr (sc k_x) (sw k_x) (fun j => af 5 (8 * k_x + j)) j) (af 5))) 20 (mdP fr ft (sc k_x) (sw k_x) (fun j => af 5 (8 * k_x + j)) (nI k_x) (af 20) j))) 3 = .inl (ac 0, 40, .inl (af 3)) from rfl)) (vp_in_nI (by omega) (by decide)) dX8_mend_63 ?_
                refine m_top (show ((af 3) (nI k_x).toNatClampNeg) = nI (sn k_x) from by rw [nI_clamp (by omega)]; exact q2_) ?_
                refine lv_iadd hx hb dX8_mend_64 ?_
                refine m_top (show ((nI (8 * k_x)) + (nI (sn k_x))) = nI (8 * k_x + sn k_x) from nI_add _ _) ?_
                refine lv_icmp_ge (tgt := 158) hx hb dX8_mend_65 (by decide) (fun c65 => ?_) (fun c65 => ?_)
                · have e9 : sn k_x = j := by have := le_le c65 (by omega) (by omega); omega
                  rw [← e9] at hM
                  have hs2 : MSen (va_up sf 0 0) (va_up (va_up af 5 (blk k_x (mdB fr (sc k_x) (sw k_x) (fun j => af 5 (8 * k_x + j)) (sn k_x)) (af 5))) 20 (mdP fr ft (sc k_x) (sw k_x) (fun j => af 5 (8 * k_x + j)) (nI k_x) (af 20) (sn k_x))) ns sc sn sw (va_up sb k_x (mdB fr (sc k_x) (sw k_x) (sb k_x) (sn k_x))) := MSen.bf hs rfl rfl rfl rfl rfl (fun j9 hj9 => mdB_cg (q6_ j9 hj9).2.2)
                  refine lv_aload_n hx hb dX8_mend_158 rfl (lv_at hl 0 rfl) ?_
                  refine w_callv (va_runV (As := []) (rest := []) ⟨hx, hb, hml, hown, hts⟩ (k_X8_lists l D ac _ A adr (va_up sf 0 0) (va_up (va_up af 5 (blk k_x (mdB fr (sc k_x) (sw k_x) (fun j => af 5 (8 * k_x + j)) (sn k_x)) (af 5))) 20 (mdP fr ft (sc k_x) (sw k_x) (fun j => af 5 (8 * k_x + j)) (nI k_x) (af 20) (sn k_x))) hM fs fr (hSy.t rfl) ns sc sn sw (va_up sb k_x (mdB fr (sc k_x) (sw k_x) (sb k_x) (sn k_x))) hs2) (cwV 0 hts gX8_mend_X8_lists rfl rfl rfl (by decide +kernel) ⟨Nat.le_of_ble_eq_true rfl, Nat.le_of_ble_eq_true rfl⟩) (pV hK (ci := 8) rfl (hM.cel (by omega) (show (mw ac adr (va_up sf 0 0) (va_up (va_up af 5 (blk k_x (mdB fr (sc k_x) (sw k_x) (fun j => af 5 (8 * k_x + j)) (sn k_x)) (af 5))) 20 (mdP fr ft (sc k_x) (sw k_x) (fun j => af 5 (8 * k_x + j)) (nI k_x) (af 20) (sn k_x)))) 0 = .inr (8, mfs adr (va_up sf 0 0)) from rfl))) rfl rfl hl.1 rfl (lv_room (Nat.le_of_ble_eq_true rfl)) dX8_mend_159 ⟨Nat.le_of_ble_eq_true rfl, Nat.le_of_ble_eq_true rfl⟩) hS (fun w_10 H locs hw_10 hM hS => ?_)
                  have he_11 := hw_10
                  rw [he_11] at hM
                  have hM := (MW.cg (s1 := (va_up (va_up sf 0 0) 10 ((lsF (fun i1 => asB fr (sc i1) (sn i1) (sw i1) (va_up sb k_x (mdB fr (sc k_x) (sw k_x) (sb k_x) (sn k_x)) i1)) (af 19) (sf 10) ns).2))) (a1 := (va_up (va_up (va_up af 5 (blk k_x (mdB fr (sc k_x) (sw k_x) (fun j => af 5 (8 * k_x + j)) (sn k_x)) (af 5))) 19 ((lsF (fun i1 => asB fr (sc i1) (sn i1) (sw i1) (va_up sb k_x (mdB fr (sc k_x) (sw k_x) (sb k_x) (sn k_x)) i1)) (af 19) (sf 10) ns).1)) 20 (mdP fr ft (sc k_x) (sw k_x) (fun j => af 5 (8 * k_x + j)) (nI k_x) (af 20) (sn k_x)))) hM (fun j9 => if q0_ : j9 = 10 then (by subst q0_; rfl) else (by first | rfl | simp only [va_up, if_neg q0_] | fail)) (fun j9 => if q0_ : j9 = 19 then (by subst q0_; rfl) else (by first | rfl | simp only [va_up, if_neg q0_] | fail)))
                  refine lv_iload hx hb dX8_mend_162 (lv_at hl 3 rfl) ?_
                  rw [hQ0]
                  exact e_wi hx hb hlocks hr dX8_mend_164 hM hS (MPo.ok (by simp [cd1, cd2, cd3, hi_x, d20] : cd2 (ix (nI k_x) ns).isNone ((ix (nI k_x) ns).elim true (fun i => !asB fr (sc i) (sn i) (sw i) (sb i))) = 0) rfl ⟨k_x, b_x, rfl, d20, by rw [← e9, mdC_cg _ (fun j9 hj9 => (q6_ j9 hj9).2.2)], rfl, rfl⟩)
                · have hjn : j < sn k_x := by have := nle_lt c65 (by omega) (by omega); omega
                  obtain ⟨u1_, u2_, u3_⟩ := q6_ j hjn
                  refine lv_aload_n hx hb dX8_mend_68 rfl (lv_at hl 0 rfl) ?_
                  refine lv_iload_n hx hb dX8_mend_69 rfl (lv_at hl 2 rfl) ?_
                  refine lv_aload_n hx hb dX8_mend_70 rfl (lv_at hl 0 rfl) ?_
                  refine m_get (ci := 8) (C := RX8) (T := TX8) (n := 35) (v := .ref (adr 4)) hx hb hts inX8_ hown hK rfl (hM.cel (by omega) (show (mw ac adr (va_up sf 0 0) (va_up (va_up af 5 (blk k_x (mdB fr (sc k_x) (sw k_x) (fun j => af 5 (8 * k_x + j)) j) (af 5))) 20 (mdP fr ft (sc k_x) (sw k_x) (fun j => af 5 (8 * k_x + j)) (nI k_x) (af 20) j))) 0 = .inr (8, mfs adr (va_up sf 0 0)) from rfl)) 9 (by decide) (hts _ (by decide +kernel)) rfl dX8_mend_71 ?_
                  refine lv_iload hx hb dX8_mend_74 (lv_at hl 4 rfl) ?_
                  refine m_iald hx hb hK (hM.cel (by omega) (show (mw ac adr (va_up sf 0 0) (va_up (va_up af 5 (blk k_x (mdB fr (sc k_x) (sw k_x) (fun j => af 5 (8 * k_x + j)) j) (af 5))) 20 (mdP fr ft (sc k_x) (sw k_x) (fun j => af 5 (8 * k_x + j)) (nI k_x) (af 20) j))) 4 = .inl (ac 0, 320, .inl (af 4)) from rfl)) (vp_in_nI (by omega) (by decide)) dX8_mend_76 ?_
                  refine m_top (show ((af 4) (nI (8 * k_x + j)).toNatClampNeg) = nI (sw k_x j) from by rw [nI_clamp (by omega)]; exact u1_) ?_
                  refine lv_aload_n hx hb dX8_mend_77 rfl (lv_at hl 0 rfl) ?_
                  refine m_get (ci := 8) (C := RX8) (T := TX8) (n := 35) (v := .ref (adr 5)) hx hb hts inX8_ hown hK rfl (hM.cel (by omega) (show (mw ac adr (va_up sf 0 0) (va_up (va_up af 5 (blk k_x (mdB fr (sc k_x) (sw k_x) (fun j => af 5 (8 * k_x + j)) j) (af 5))) 20 (mdP fr ft (sc k_x) (sw k_x) (fun j => af 5 (8 * k_x + j)) (nI k_x) (af 20) j))) 0 = .inr (8, mfs adr (va_up sf 0 0)) from rfl)) 10 (by decide) (hts _ (by decide +kernel)) rfl dX8_mend_78 ?_
                  refine lv_iload hx hb dX8_mend_81 (lv_at hl 4 rfl) ?_
                  refine m_iald hx hb hK (hM.cel (by omega) (show (mw ac adr (va_up sf 0 0) (va_up (va_up af 5 (blk k_x (mdB fr (sc k_x) (sw k_x) (fun j => af 5 (8 * k_x + j)) j) (af 5))) 20 (mdP fr ft (sc k_x) (sw k_x) (fun j => af 5 (8 * k_x + j)) (nI k_x) (af 20) j))) 5 = .inl (ac 0, 320, .inl (blk k_x (mdB fr (sc k_x) (sw k_x) (fun j => af 5 (8 * k_x + j)) j) (af 5))) from rfl)) (vp_in_nI (by omega) (by decide)) dX8_mend_83 ?_
                  refine m_top (show ((blk k_x (mdB fr (sc k_x) (sw k_x) (fun j => af 5 (8 * k_x + j)) j) (af 5)) (nI (8 * k_x + j)).toNatClampNeg) = af 5 (8 * k_x + j) from by rw [nI_clamp (by omega)]; exact (blk_at (by omega)).trans mdB_at) ?_
                  refine r_calli (va_runV (As := [.int (nI (sc k_x)), .int (nI (sw k_x j)), .int (af 5 (8 * k_x + j))]) (rest := []) ⟨hx, hb, hml, hown, hts⟩ (k_X8_isAgainst l D ac _ A adr (va_up sf 0 0) (va_up (va_up af 5 (blk k_x (mdB fr (sc k_x) (sw k_x) (fun j => af 5 (8 * k_x + j)) j) (af 5))) 20 (mdP fr ft (sc k_x) (sw k_x) (fun j => af 5 (8 * k_x + j)) (nI k_x) (af 20) j)) hM fs fr (hSy.t rfl) (sc k_x) (sw k_x j) (by omega) (by omega) (af 5 (8 * k_x + j))) (cwV 3 hts gX8_mend_X8_isAgainst rfl rfl rfl (by decide +kernel) ⟨Nat.le_of_ble_eq_true rfl, Nat.le_of_ble_eq_true rfl⟩) (pV hK (ci := 8) rfl (hM.cel (by omega) (show (mw ac adr (va_up sf 0 0) (va_up (va_up af 5 (blk k_x (mdB fr (sc k_x) (sw k_x) (fun j => af 5 (8 * k_x + j)) j) (af 5))) 20 (mdP fr ft (sc k_x) (sw k_x) (fun j => af 5 (8 * k_x + j)) (nI k_x) (af 20) j))) 0 = .inr (8, mfs adr (va_up sf 0 0)) from rfl))) rfl rfl hl.1 rfl (lv_room (Nat.le_of_ble_eq_true rfl)) dX8_mend_84 ⟨Nat.le_of_ble_eq_true rfl, Nat.le_of_ble_eq_true rfl⟩) hS (fun rv_12 locs hrv_12 hS => ?_)
                  subst hrv_12
                  by_cases d87 : ast fr (sc k_x) (sw k_x) (fun j => af 5 (8 * k_x + j)) j
                  · refine m_top (show (if ¬ fr ((sc k_x) * 50 + (sw k_x j)) = -1 ∧ ¬ fr ((sc k_x) * 50 + (sw k_x j)) = (af 5 (8 * k_x + j)) then 1 else 0) = (1 : Int32) from if_pos d87) ?_
                    refine lv_if_eq (tgt := 152) hx hb dX8_mend_87 (by decide) (fun c87 => ?_) (fun c87 => ?_)
                    · exact absurd c87 (by decide)
                    · refine lv_aload_n hx hb dX8_mend_90 rfl (lv_at hl 0 rfl) ?_
                      refine m_get (ci := 8) (C := RX8) (T := TX8) (n := 35) (v := .ref (adr 5)) hx hb hts inX8_ hown hK rfl (hM.cel (by omega) (show (mw ac adr (va_up sf 0 0) (va_up (va_up af 5 (blk k_x (mdB fr (sc k_x) (sw k_x) (fun j => af 5 (8 * k_x + j)) j) (af 5))) 20 (mdP fr ft (sc k_x) (sw k_x) (fun j => af 5 (8 * k_x + j)) (nI k_x) (af 20) j))) 0 = .inr (8, mfs adr (va_up sf 0 0)) from rfl)) 10 (by decide) (hts _ (by decide +kernel)) rfl dX8_mend_91 ?_
                      refine lv_iload hx hb dX8_mend_94 (lv_at hl 4 rfl) ?_
                      refine lv_aload_n hx hb dX8_mend_96 rfl (lv_at hl 0 rfl) ?_
                      refine lv_iload_n hx hb dX8_mend_97 rfl (lv_at hl 2 rfl) ?_
                      refine lv_aload_n hx hb dX8_mend_98 rfl (lv_at hl 0 rfl) ?_
                      refine m_get (ci := 8) (C := RX8) (T := TX8) (n := 35) (v := .ref (adr 4)) hx hb hts inX8_ hown hK rfl (hM.cel (by omega) (show (mw ac adr (va_up sf 0 0) (va_up (va_up af 5 (blk k_x (mdB fr (sc k_x) (sw k_x) (fun j => af 5 (8 * k_x + j)) j) (af 5))) 20 (mdP fr ft (sc k_x) (sw k_x) (fun j => af 5 (8 * k_x + j)) (nI k_x) (af 20) j))) 0 = .inr (8, mfs adr (va_up sf 0 0)) from rfl)) 9 (by decide) (hts _ (by decide +kernel)) rfl dX8_mend_99 ?_
                      refine lv_iload hx hb dX8_mend_102 (lv_at hl 4 rfl) ?_
                      refine m_iald hx hb hK (hM.cel (by omega) (show (mw ac adr (va_up sf 0 0) (va_up (va_up af 5 (blk k_x (mdB fr (sc k_x) (sw k_x) (fun j => af 5 (8 * k_x + j)) j) (af 5))) 20 (mdP fr ft (sc k_x) (sw k_x) (fun j => af 5 (8 * k_x + j)) (nI k_x) (af 20) j))) 4 = .inl (ac 0, 320, .inl (af 4)) from rfl)) (vp_in_nI (by omega) (by decide)) dX8_mend_104 ?_
                      refine m_top (show ((af 4) (nI (8 * k_x + j)).toNatClampNeg) = nI (sw k_x j) from by rw [nI_clamp (by omega)]; exact u1_) ?_
                      refine r_calli (va_runV (As := [.int (nI (sc k_x)), .int (nI (sw k_x j))]) (rest := [.int (nI (8 * k_x + j)), .ref (adr 5)]) ⟨hx, hb, hml, hown, hts⟩ (k_X8_rulingOf l D ac _ A adr (va_up sf 0 0) (va_up (va_up af 5 (blk k_x (mdB fr (sc k_x) (sw k_x) (fun j => af 5 (8 * k_x + j)) j) (af 5))) 20 (mdP fr ft (sc k_x) (sw k_x) (fun j => af 5 (8 * k_x + j)) (nI k_x) (af 20) j)) hM fs fr (hSy.t rfl) (sc k_x) (sw k_x j) (by omega) (by omega)) (cwV 2 hts gX8_mend_X8_rulingOf rfl rfl rfl (by decide +kernel) ⟨Nat.le_of_ble_eq_true rfl, Nat.le_of_ble_eq_true rfl⟩) (pV hK (ci := 8) rfl (hM.cel (by omega) (show (mw ac adr (va_up sf 0 0) (va_up (va_up af 5 (blk k_x (mdB fr (sc k_x) (sw k_x) (fun j => af 5 (8 * k_x + j)) j) (af 5))) 20 (mdP fr ft (sc k_x) (sw k_x) (fun j => af 5 (8 * k_x + j)) (nI k_x) (af 20) j))) 0 = .inr (8, mfs adr (va_up sf 0 0)) from rfl))) rfl rfl hl.1 rfl (lv_room (Nat.le_of_ble_eq_true rfl)) dX8_mend_105 ⟨Nat.le_of_ble_eq_true rfl, Nat.le_of_ble_eq_true rfl⟩) hS (fun rv_13 locs hrv_13 hS => ?_)
                      subst hrv_13
                      refine m_iast hx hb hK hM hS 5 (by omega) (show (mw ac adr (va_up sf 0 0) (va_up (va_up af 5 (blk k_x (mdB fr (sc k_x) (sw k_x) (fun j => af 5 (8 * k_x + j)) j) (af 5))) 20 (mdP fr ft (sc k_x) (sw k_x) (fun j => af 5 (8 * k_x + j)) (nI k_x) (af 20) j))) 5 = .inl (ac 0, 320, .inl (blk k_x (mdB fr (sc k_x) (sw k_x) (fun j => af 5 (8 * k_x + j)) j) (af 5))) from rfl) (vp_in_nI (by omega) (by decide)) dX8_mend_108 (fun H locs hM hS => ?_)
                      have ef_ : (upd (blk k_x (mdB fr (sc k_x) (sw k_x) (fun j => af 5 (8 * k_x + j)) j) (af 5)) (nI (8 * k_x + j)).toNatClampNeg (fr ((sc k_x) * 50 + (sw k_x j)))) = blk k_x (mdB fr (sc k_x) (sw k_x) (fun j => af 5 (8 * k_x + j)) (j + 1)) (af 5) := by rw [nI_clamp (by omega)]; exact (blk_u (by omega)).trans (congrArg (fun z => blk k_x z (af 5)) (mdB_t d87).symm)
                      rw [ef_] at hM
                      clear ef_
                      have hM := MW.marr (a1 := (va_up (va_up af 5 (blk k_x (mdB fr (sc k_x) (sw k_x) (fun j => af 5 (8 * k_x + j)) (j + 1)) (af 5))) 20 (mdP fr ft (sc k_x) (sw k_x) (fun j => af 5 (8 * k_x + j)) (nI k_x) (af 20) j))) hM (by decide) rfl rfl (fun j9 hj9 => by simp only [va_up, if_neg hj9])
                      refine lv_aload_n hx hb dX8_mend_109 rfl (lv_at hl 0 rfl) ?_
                      refine m_get (ci := 8) (C := RX8) (T := TX8) (n := 35) (v := .ref (adr 20)) hx hb hts inX8_ hown hK rfl (hM.cel (by omega) (show (mw ac adr (va_up sf 0 0) (va_up (va_up af 5 (blk k_x (mdB fr (sc k_x) (sw k_x) (fun j => af 5 (8 * k_x + j)) (j + 1)) (af 5))) 20 (mdP fr ft (sc k_x) (sw k_x) (fun j => af 5 (8 * k_x + j)) (nI k_x) (af 20) j))) 0 = .inr (8, mfs adr (va_up sf 0 0)) from rfl)) 30 (by decide) (hts _ (by decide +kernel)) rfl dX8_mend_110 ?_
                      refine lv_iload_n hx hb dX8_mend_113 rfl (lv_at hl 2 rfl) ?_
                      refine lv_dup2_11 hx hb dX8_mend_114 rfl rfl ?_
                      refine m_iald hx hb hK (hM.cel (by omega) (show (mw ac adr (va_up sf 0 0) (va_up (va_up af 5 (blk k_x (mdB fr (sc k_x) (sw k_x) (fun j => af 5 (8 * k_x + j)) (j + 1)) (af 5))) 20 (mdP fr ft (sc k_x) (sw k_x) (fun j => af 5 (8 * k_x + j)) (nI k_x) (af 20) j))) 20 = .inl (ac 0, 4, .inl (mdP fr ft (sc k_x) (sw k_x) (fun j => af 5 (8 * k_x + j)) (nI k_x) (af 20) j)) from rfl)) (vp_in_nI (by omega) (by decide)) dX8_mend_115 ?_
                      refine m_top (show ((mdP fr ft (sc k_x) (sw k_x) (fun j => af 5 (8 * k_x + j)) (nI k_x) (af 20) j) (nI (sc k_x)).toNatClampNeg) = (mdP fr ft (sc k_x) (sw k_x) (fun j => af 5 (8 * k_x + j)) (nI k_x) (af 20) j) (sc k_x) from by rw [nI_clamp (by omega)]) ?_
                      refine lv_aload_n hx hb dX8_mend_116 rfl (lv_at hl 0 rfl) ?_
                      refine m_get (ci := 8) (C := RX8) (T := TX8) (n := 35) (v := .ref (adr 18)) hx hb hts inX8_ hown hK rfl (hM.cel (by omega) (show (mw ac adr (va_up sf 0 0) (va_up (va_up af 5 (blk k_x (mdB fr (sc k_x) (sw k_x) (fun j => af 5 (8 * k_x + j)) (j + 1)) (af 5))) 20 (mdP fr ft (sc k_x) (sw k_x) (fun j => af 5 (8 * k_x + j)) (nI k_x) (af 20) j))) 0 = .inr (8, mfs adr (va_up sf 0 0)) from rfl)) 26 (by decide) (hts _ (by decide +kernel)) rfl dX8_mend_117 ?_
                      refine lv_iload_n hx hb dX8_mend_120 rfl (lv_at hl 2 rfl) ?_
                      refine lv_aload_n hx hb dX8_mend_121 rfl (lv_at hl 0 rfl) ?_
                      refine m_get (ci := 8) (C := RX8) (T := TX8) (n := 35) (v := .ref (adr 4)) hx hb hts inX8_ hown hK rfl (hM.cel (by omega) (show (mw ac adr (va_up sf 0 0) (va_up (va_up af 5 (blk k_x (mdB fr (sc k_x) (sw k_x) (fun j => af 5 (8 * k_x + j)) (j + 1)) (af 5))) 20 (mdP fr ft (sc k_x) (sw k_x) (fun j => af 5 (8 * k_x + j)) (nI k_x) (af 20) j))) 0 = .inr (8, mfs adr (va_up sf 0 0)) from rfl)) 9 (by decide) (hts _ (by decide +kernel)) rfl dX8_mend_122 ?_
                      refine lv_iload hx hb dX8_mend_125 (lv_at hl 4 rfl) ?_
                      refine m_iald hx hb hK (hM.cel (by omega) (show (mw ac adr (va_up sf 0 0) (va_up (va_up af 5 (blk k_x (mdB fr (sc k_x) (sw k_x) (fun j => af 5 (8 * k_x + j)) (j + 1)) (af 5))) 20 (mdP fr ft (sc k_x) (sw k_x) (fun j => af 5 (8 * k_x + j)) (nI k_x) (af 20) j))) 4 = .inl (ac 0, 320, .inl (af 4)) from rfl)) (vp_in_nI (by omega) (by decide)) dX8_mend_127 ?_
                      refine m_top (show ((af 4) (nI (8 * k_x + j)).toNatClampNeg) = nI (sw k_x j) from by rw [nI_clamp (by omega)]; exact u1_) ?_
                      refine r_calli (va_runS (As := [.int (nI (sc k_x)), .int (nI (sw k_x j))]) (rest := [.ref (adr 18), .int ((mdP fr ft (sc k_x) (sw k_x) (fun j => af 5 (8 * k_x + j)) (nI k_x) (af 20) j) (sc k_x)), .int (nI (sc k_x)), .ref (adr 20)]) ⟨hx, hb, hml, hown, hts⟩ (k_X8_at l D ac _ (sc k_x) (sw k_x j)) (va_cwS 2 hts gX8_mend_X8_at rfl rfl rfl (by decide +kernel) ⟨Nat.le_of_ble_eq_true rfl, Nat.le_of_ble_eq_true rfl⟩) (pS hK) rfl rfl hl.1 rfl (lv_room (Nat.le_of_ble_eq_true rfl)) dX8_mend_128 ⟨Nat.le_of_ble_eq_true rfl, Nat.le_of_ble_eq_true rfl⟩) hS (fun rv_15 locs hrv_15 hS => ?_)
                      subst hrv_15
                      refine m_iald hx hb hK (hM.cel (by omega) (show (mw ac adr (va_up sf 0 0) (va_up (va_up af 5 (blk k_x (mdB fr (sc k_x) (sw k_x) (fun j => af 5 (8 * k_x + j)) (j + 1)) (af 5))) 20 (mdP fr ft (sc k_x) (sw k_x) (fun j => af 5 (8 * k_x + j)) (nI k_x) (af 20) j))) 18 = .inl (ac 0, 200, .inl (af 18)) from rfl)) (vp_in_nI (by omega) (by decide)) dX8_mend_131 ?_
                      refine m_top (show ((af 18) (nI ((sc k_x) * 50 + (sw k_x j))).toNatClampNeg) = af 18 (sc k_x * 50 + sw k_x j) from by rw [nI_clamp (by omega)]) ?_
                      refine lv_aload_n hx hb dX8_mend_132 rfl (lv_at hl 0 rfl) ?_
                      refine m_get (ci := 8) (C := RX8) (T := TX8) (n := 35) (v := .ref (adr 6)) hx hb hts inX8_ hown hK rfl (hM.cel (by omega) (show (mw ac adr (va_up sf 0 0) (va_up (va_up af 5 (blk k_x (mdB fr (sc k_x) (sw k_x) (fun j => af 5 (8 * k_x + j)) (j + 1)) (af 5))) 20 (mdP fr ft (sc k_x) (sw k_x) (fun j => af 5 (8 * k_x + j)) (nI k_x) (af 20) j))) 0 = .inr (8, mfs adr (va_up sf 0 0)) from rfl)) 11 (by decide) (hts _ (by decide +kernel)) rfl dX8_mend_133 ?_
                      refine lv_iload_n hx hb dX8_mend_136 rfl (lv_at hl 1 rfl) ?_
                      refine m_iald hx hb hK (hM.cel (by omega) (show (mw ac adr (va_up sf 0 0) (va_up (va_up af 5 (blk k_x (mdB fr (sc k_x) (sw k_x) (fun j => af 5 (8 * k_x + j)) (j + 1)) (af 5))) 20 (mdP fr ft (sc k_x) (sw k_x) (fun j => af 5 (8 * k_x + j)) (nI k_x) (af 20) j))) 6 = .inl (ac 0, 40, .inl (af 6)) from rfl)) (vp_in_nI (by omega) (by decide)) dX8_mend_137 ?_
                      refine m_top (show ((af 6) (nI k_x).toNatClampNeg) = af 6 k_x from by rw [nI_clamp (by omega)]) ?_
                      refine lv_icmp_ge (tgt := 146) hx hb dX8_mend_138 (by decide) (fun c138 => ?_) (fun c138 => ?_)
                      · refine lv_iconst (v := 3) hx hb dX8_mend_146 (by decide) ?_
                        refine lv_iadd hx hb dX8_mend_147 ?_
                        refine m_top (show (((mdP fr ft (sc k_x) (sw k_x) (fun j => af 5 (8 * k_x + j)) (nI k_x) (af 20) j) (sc k_x)) + 3) = (mdP fr ft (sc k_x) (sw k_x) (fun j => af 5 (8 * k_x + j)) (nI k_x) (af 20) j) (sc k_x) + mpI (nI (ft (sc k_x * 50 + sw k_x j))) (nI k_x) from by first | rw [← MMom.y hmo b_x (by omega) c138] | rw [← MMom.n hmo b_x (by omega) c138] | fail) ?_
                        refine m_iast hx hb hK hM hS 20 (by omega) (show (mw ac adr (va_up sf 0 0) (va_up (va_up af 5 (blk k_x (mdB fr (sc k_x) (sw k_x) (fun j => af 5 (8 * k_x + j)) (j + 1)) (af 5))) 20 (mdP fr ft (sc k_x) (sw k_x) (fun j => af 5 (8 * k_x + j)) (nI k_x) (af 20) j))) 20 = .inl (ac 0, 4, .inl (mdP fr ft (sc k_x) (sw k_x) (fun j => af 5 (8 * k_x + j)) (nI k_x) (af 20) j)) from rfl) (vp_in_nI (by omega) (by decide)) dX8_mend_148 (fun H locs hM hS => ?_)
                        have ef_ : (upd (mdP fr ft (sc k_x) (sw k_x) (fun j => af 5 (8 * k_x + j)) (nI k_x) (af 20) j) (nI (sc k_x)).toNatClampNeg ((mdP fr ft (sc k_x) (sw k_x) (fun j => af 5 (8 * k_x + j)) (nI k_x) (af 20) j) (sc k_x) + mpI (nI (ft (sc k_x * 50 + sw k_x j))) (nI k_x))) = mdP fr ft (sc k_x) (sw k_x) (fun j => af 5 (8 * k_x + j)) (nI k_x) (af 20) (j + 1) := by rw [nI_clamp (by omega)]; exact (mdP_t d87).symm
                        rw [ef_] at hM
                        clear ef_
                        have hM := MW.marr (a1 := (va_up (va_up af 5 (blk k_x (mdB fr (sc k_x) (sw k_x) (fun j => af 5 (8 * k_x + j)) (j + 1)) (af 5))) 20 (mdP fr ft (sc k_x) (sw k_x) (fun j => af 5 (8 * k_x + j)) (nI k_x) (af 20) (j + 1)))) hM (by decide) rfl rfl (fun j9 hj9 => by simp only [va_up, if_neg hj9])
                        refine lv_iinc (v := nI (mdC fr (sc k_x) (sw k_x) (fun j => af 5 (8 * k_x + j)) (j + 1))) (lv' := [(4, .int (nI (mdC fr (sc k_x) (sw k_x) (fun j => af 5 (8 * k_x + j)) (j + 1)))), (0, .ref (adr 0)), (1, .int (nI k_x)), (3, .int (nI (sc k_x))), (5, .int (nI (8 * k_x + j)))]) hx hb dX8_mend_149 hl (k := 3) rfl (by rw [mdC_t d87]; exact nI_1 _) (by decide) rfl (fun ls hl => ?_)
                        refine lv_iinc (v := nI (8 * k_x + (j + 1))) (lv' := [(5, .int (nI (8 * k_x + (j + 1)))), (4, .int (nI (mdC fr (sc k_x) (sw k_x) (fun j => af 5 (8 * k_x + j)) (j + 1)))), (0, .ref (adr 0)), (1, .int (nI k_x)), (3, .int (nI (sc k_x)))]) hx hb dX8_mend_152 hl (k := 4) rfl (nI_1 _) (by decide) rfl (fun ls hl => ?_)
                        refine lv_goto (tgt := 52) hx hb dX8_mend_155 (by decide) ?_
                        exact ih52 (j + 1) (by omega) (by omega) _ _ (MW.cg hM (fun _ => rfl) (fun j9 => if q0_ : j9 = 5 then (by subst q0_; rfl) else if q1_ : j9 = 20 then (by subst q1_; rfl) else (by first | rfl | simp only [va_up, if_neg q0_, if_neg q1_] | fail))) hS ls (lv_sub hl [2, 3, 4, 1, 0] rfl)
                      · refine lv_bipush (v := (-5)) hx hb dX8_mend_141 (by decide) ?_
                        refine lv_goto (tgt := 147) hx hb dX8_mend_143 (by decide) ?_
                        refine lv_iadd hx hb dX8_mend_147 ?_
                        refine m_top (show (((mdP fr ft (sc k_x) (sw k_x) (fun j => af 5 (8 * k_x + j)) (nI k_x) (af 20) j) (sc k_x)) + (-5)) = (mdP fr ft (sc k_x) (sw k_x) (fun j => af 5 (8 * k_x + j)) (nI k_x) (af 20) j) (sc k_x) + mpI (nI (ft (sc k_x * 50 + sw k_x j))) (nI k_x) from by first | rw [← MMom.y hmo b_x (by omega) c138] | rw [← MMom.n hmo b_x (by omega) c138] | fail) ?_
                        refine m_iast hx hb hK hM hS 20 (by omega) (show (mw ac adr (va_up sf 0 0) (va_up (va_up af 5 (blk k_x (mdB fr (sc k_x) (sw k_x) (fun j => af 5 (8 * k_x + j)) (j + 1)) (af 5))) 20 (mdP fr ft (sc k_x) (sw k_x) (fun j => af 5 (8 * k_x + j)) (nI k_x) (af 20) j))) 20 = .inl (ac 0, 4, .inl (mdP fr ft (sc k_x) (sw k_x) (fun j => af 5 (8 * k_x + j)) (nI k_x) (af 20) j)) from rfl) (vp_in_nI (by omega) (by decide)) dX8_mend_148 (fun H locs hM hS => ?_)
                        have ef_ : (upd (mdP fr ft (sc k_x) (sw k_x) (fun j => af 5 (8 * k_x + j)) (nI k_x) (af 20) j) (nI (sc k_x)).toNatClampNeg ((mdP fr ft (sc k_x) (sw k_x) (fun j => af 5 (8 * k_x + j)) (nI k_x) (af 20) j) (sc k_x) + mpI (nI (ft (sc k_x * 50 + sw k_x j))) (nI k_x))) = mdP fr ft (sc k_x) (sw k_x) (fun j => af 5 (8 * k_x + j)) (nI k_x) (af 20) (j + 1) := by rw [nI_clamp (by omega)]; exact (mdP_t d87).symm
                        rw [ef_] at hM
                        clear ef_
                        have hM := MW.marr (a1 := (va_up (va_up af 5 (blk k_x (mdB fr (sc k_x) (sw k_x) (fun j => af 5 (8 * k_x + j)) (j + 1)) (af 5))) 20 (mdP fr ft (sc k_x) (sw k_x) (fun j => af 5 (8 * k_x + j)) (nI k_x) (af 20) (j + 1)))) hM (by decide) rfl rfl (fun j9 hj9 => by simp only [va_up, if_neg hj9])
                        refine lv_iinc (v := nI (mdC fr (sc k_x) (sw k_x) (fun j => af 5 (8 * k_x + j)) (j + 1))) (lv' := [(4, .int (nI (mdC fr (sc k_x) (sw k_x) (fun j => af 5 (8 * k_x + j)) (j + 1)))), (0, .ref (adr 0)), (1, .int (nI k_x)), (3, .int (nI (sc k_x))), (5, .int (nI (8 * k_x + j)))]) hx hb dX8_mend_149 hl (k := 3) rfl (by rw [mdC_t d87]; exact nI_1 _) (by decide) rfl (fun ls hl => ?_)
                        refine lv_iinc (v := nI (8 * k_x + (j + 1))) (lv' := [(5, .int (nI (8 * k_x + (j + 1)))), (4, .int (nI (mdC fr (sc k_x) (sw k_x) (fun j => af 5 (8 * k_x + j)) (j + 1)))), (0, .ref (adr 0)), (1, .int (nI k_x)), (3, .int (nI (sc k_x)))]) hx hb dX8_mend_152 hl (k := 4) rfl (nI_1 _) (by decide) rfl (fun ls hl => ?_)
                        refine lv_goto (tgt := 52) hx hb dX8_mend_155 (by decide) ?_
                        exact ih52 (j + 1) (by omega) (by omega) _ _ (MW.cg hM (fun _ => rfl) (fun j9 => if q0_ : j9 = 5 then (by subst q0_; rfl) else if q1_ : j9 = 20 then (by subst q1_; rfl) else (by first | rfl | simp only [va_up, if_neg q0_, if_neg q1_] | fail))) hS ls (lv_sub hl [2, 3, 4, 1, 0] rfl)
                  · refine m_top (show (if ¬ fr ((sc k_x) * 50 + (sw k_x j)) = -1 ∧ ¬ fr ((sc k_x) * 50 + (sw k_x j)) = (af 5 (8 * k_x + j)) then 1 else 0) = (0 : Int32) from if_neg d87) ?_
                    refine lv_if_eq (tgt := 152) hx hb dX8_mend_87 (by decide) (fun c87 => ?_) (fun c87 => ?_)
                    · have hM := MW.cg (s1 := (va_up sf 0 0)) (a1 := (va_up (va_up af 5 (blk k_x (mdB fr (sc k_x) (sw k_x) (fun j => af 5 (8 * k_x + j)) (j + 1)) (af 5))) 20 (mdP fr ft (sc k_x) (sw k_x) (fun j => af 5 (8 * k_x + j)) (nI k_x) (af 20) (j + 1)))) hM (fun _ => rfl) (fun j9 => if q0_ : j9 = 5 then (by subst q0_; show blk k_x (mdB fr (sc k_x) (sw k_x) (fun j => af 5 (8 * k_x + j)) (j + 1)) (af 5) = blk k_x (mdB fr (sc k_x) (sw k_x) (fun j => af 5 (8 * k_x + j)) j) (af 5); exact (by rw [mdB_n d87])) else if q1_ : j9 = 20 then (by subst q1_; show mdP fr ft (sc k_x) (sw k_x) (fun j => af 5 (8 * k_x + j)) (nI k_x) (af 20) (j + 1) = mdP fr ft (sc k_x) (sw k_x) (fun j => af 5 (8 * k_x + j)) (nI k_x) (af 20) j; exact (mdP_n d87)) else (by first | rfl | simp only [va_up, if_neg q0_, if_neg q1_] | fail))
                      rw [show nI (mdC fr (sc k_x) (sw k_x) (fun j => af 5 (8 * k_x + j)) j) = nI (mdC fr (sc k_x) (sw k_x) (fun j => af 5 (8 * k_x + j)) (j + 1)) from congrArg nI (mdC_n d87).symm] at hl
                      have hl : lv_has ls 6 [(0, .ref (adr 0)), (1, .int (nI k_x)), (3, .int (nI (sc k_x))), (4, .int (nI (mdC fr (sc k_x) (sw k_x) (fun j => af 5 (8 * k_x + j)) (j + 1)))), (5, .int (nI (8 * k_x + j)))] := hl
                      refine lv_iinc (v := nI (8 * k_x + (j + 1))) (lv' := [(5, .int (nI (8 * k_x + (j + 1)))), (0, .ref (adr 0)), (1, .int (nI k_x)), (3, .int (nI (sc k_x))), (4, .int (nI (mdC fr (sc k_x) (sw k_x) (fun j => af 5 (8 * k_x + j)) (j + 1))))]) hx hb dX8_mend_152 hl (k := 4) rfl (nI_1 _) (by decide) rfl (fun ls hl => ?_)
                      refine lv_goto (tgt := 52) hx hb dX8_mend_155 (by decide) ?_
                      exact ih52 (j + 1) (by omega) (by omega) _ _ (MW.cg hM (fun _ => rfl) (fun j9 => if q0_ : j9 = 5 then (by subst q0_; rfl) else if q1_ : j9 = 20 then (by subst q1_; rfl) else (by first | rfl | simp only [va_up, if_neg q0_, if_neg q1_] | fail))) hS ls (lv_sub hl [1, 2, 3, 4, 0] rfl)
                    · exact absurd c87 (by decide)
            exact L52 _ 0 (Nat.lt_succ_self _) (Nat.zero_le _) _ _ (MW.cg hM (fun _ => rfl) (fun j9 => if q0_ : j9 = 5 then (by subst q0_; rfl) else if q1_ : j9 = 20 then (by subst q1_; rfl) else (by first | rfl | simp only [va_up, if_neg q0_, if_neg q1_] | fail))) hS ls (lv_sub hl [4, 5, 2, 1, 0] rfl)
          · exact absurd c31 (by decide)
      · refine m_top (show (if asB fr (sc k_x) (sn k_x) (sw k_x) (sb k_x) = true then 1 else 0) = (0 : Int32) from if_neg d20) ?_
        refine lv_if_eq (tgt := 27) hx hb dX8_mend_20 (by decide) (fun c20 => ?_) (fun c20 => ?_)
        · refine lv_iconst (v := 2) hx hb dX8_mend_27 (by decide) ?_
          refine w_calli (va_runV (As := [.int 2]) (rest := []) ⟨hx, hb, hml, hown, hts⟩ (k_X8_holds l D ac _ A adr sf af hM 2) (cwV 1 hts gX8_mend_X8_holds rfl rfl rfl (by decide +kernel) ⟨Nat.le_of_ble_eq_true rfl, Nat.le_of_ble_eq_true rfl⟩) (pV hK (ci := 8) rfl (hM.cel (by omega) (show (mw ac adr sf af) 0 = .inr (8, mfs adr sf) from rfl))) rfl rfl hl.1 rfl (lv_room (Nat.le_of_ble_eq_true rfl)) dX8_mend_28 ⟨Nat.le_of_ble_eq_true rfl, Nat.le_of_ble_eq_true rfl⟩) hS (fun rv_18 w_19 H locs hw_19 hM hS => ?_)
          obtain ⟨hrv_18, he_20⟩ := hw_19
          rw [he_20] at hM
          have hM := (MW.cg (s1 := (va_up sf 0 2)) (a1 := af) hM (fun j9 => if q0_ : j9 = 0 then (by subst q0_; rfl) else (by first | rfl | simp only [va_up, if_neg q0_] | fail)) (fun _ => rfl))
          subst hrv_18
          refine m_top (show _ = (0 : Int32) from rfl) ?_
          refine lv_if_ne (tgt := 36) hx hb dX8_mend_31 (by decide) (fun c31 => ?_) (fun c31 => ?_)
          · exact absurd c31 (by decide)
          · refine lv_iconst (v := 0) hx hb dX8_mend_34 (by decide) ?_
            rw [hQ0]
            exact e_wi hx hb hlocks hr dX8_mend_35 hM hS (MPo.no (c := 2) (by simp [cd1, cd2, cd3, hi_x, d20] : cd2 (ix (nI k_x) ns).isNone ((ix (nI k_x) ns).elim true (fun i => !asB fr (sc i) (sn i) (sw i) (sb i))) = 2) (by decide) rfl ⟨fun k9 u1_ u2_ => by first | rfl | simp only [va_up, if_neg u1_, if_neg u2_] | fail, fun k9 u1_ u2_ => by first | rfl | simp only [va_up, if_neg u1_, if_neg u2_] | fail⟩)
        · exact absurd c20 (by decide)
    · exact absurd c8 (by decide)
