-- the edits of two rows: no more than the longer one, as many with no word in common
theorem ed_max {f g : Nat → Int32} : ∀ i j : Nat, ed f g i j ≤ max i j := by
  intro i
  induction i with
  | zero => intro j; rw [ed_0]; omega
  | succ i ih =>
    intro j
    cases j with
    | zero => rw [ed_s0]; omega
    | succ j =>
      have h1 := ih j
      rw [ed_ss]
      have h2 : ed f g i j + (if f i = g j then 0 else 1) ≤ max i j + 1 := by split <;> omega
      omega
theorem ed_far {f g : Nat → Int32} : ∀ i j : Nat, (∀ a b, a < i → b < j → ¬ f a = g b) → max i j ≤ ed f g i j := by
  intro i
  induction i with
  | zero => intro j _; rw [ed_0]; omega
  | succ i ih =>
    intro j
    induction j with
    | zero => intro _; rw [ed_s0]; omega
    | succ j jh =>
      intro h
      have h1 := ih j (fun a b ha hb => h a b (by omega) (by omega))
      have h2 := ih (j + 1) (fun a b ha hb => h a b (by omega) (by omega))
      have h3 := jh (fun a b ha hb => h a b (by omega) (by omega))
      rw [ed_ss, if_neg (h i j (by omega) (by omega))]
      omega
theorem lik_all : ∀ L, L < 9 → ∀ d, d < 9 → 0 < L → d ≤ L → lik L d = nI (100 - (100 * d + L - 1) / L) := by decide +kernel
theorem lkM_nat {n : Nat} {f : Nat → Int32} {sn : Nat → Nat} {sw : Nat → Nat → Nat} {i : Nat} (hn0 : 0 < n) (hn : n ≤ 8) (h8 : sn i ≤ 8) : ∃ v, v ≤ 100 ∧ lkM n f sn sw i = nI v := by
  have h1 := ed_max (f := f) (g := fun j => nI (sw i j)) n (sn i)
  refine ⟨100 - (100 * ed f (fun j => nI (sw i j)) n (sn i) + max n (sn i) - 1) / max n (sn i), Nat.sub_le _ _, ?_⟩
  unfold lkM
  exact lik_all _ (by omega) _ (by omega) (by omega) h1
theorem lkM_0 {n : Nat} {f : Nat → Int32} {sn : Nat → Nat} {sw : Nat → Nat → Nat} {i : Nat} (hn0 : 0 < n) (hn : n ≤ 8) (h8 : sn i ≤ 8) (h : ∀ a b, a < n → b < sn i → ¬ f a = nI (sw i b)) : lkM n f sn sw i = 0 := by
  have h1 := ed_max (f := f) (g := fun j => nI (sw i j)) n (sn i)
  have h2 := ed_far (f := f) (g := fun j => nI (sw i j)) n (sn i) h
  have h3 : ed f (fun j => nI (sw i j)) n (sn i) = max n (sn i) := by omega
  unfold lkM
  rw [h3]
  have h4 : ∀ L, L < 9 → 0 < L → lik L L = 0 := by decide +kernel
  exact h4 _ (by omega) (by omega)
theorem shN_shI : ∀ v, v < 101 → shN (nI v) = shI (nI v) := by decide +kernel
-- bits of longs
def btL (x : Int64) (i : Nat) : Bool := x.toBitVec.getLsbD i
theorem btL_or (x y : Int64) (i : Nat) : btL (x ||| y) i = (btL x i || btL y i) := by unfold btL; rw [Int64.toBitVec_or, BitVec.getLsbD_or]
theorem btL_0 (i : Nat) : btL 0 i = false := BitVec.getLsbD_zero
theorem btL_one : ∀ b, b < 40 → ∀ i, i < 40 → btL (1 <<< ((nI b).toInt64 &&& 63)) i = decide (i = b) := by decide +kernel
theorem btL_m1 : ∀ i, i < 40 → btL (-1) i = true := by decide +kernel
theorem shL_n : ∀ i, i < 40 → ((((nI i).toInt64 &&& 63)).toBitVec.smod 64).toNat = i := by decide +kernel
theorem btL_shr {x : Int64} {i : Nat} (hi : i < 40) : (lg_cmp ((x >>> ((nI i).toInt64 &&& 63)) &&& 1) 0 == 0) = !btL x i := by
  have e : ((x >>> ((nI i).toInt64 &&& 63)) &&& 1) = if btL x i = true then 1 else 0 := by
    apply Int64.toBitVec_inj.mp
    apply BitVec.eq_of_getLsbD_eq
    intro j hj
    rw [Int64.toBitVec_and, BitVec.getLsbD_and, Int64.toBitVec_shiftRight]
    show ((x.toBitVec.sshiftRight ((((nI i).toInt64 &&& 63)).toBitVec.smod 64).toNat).getLsbD j && (1 : Int64).toBitVec.getLsbD j) = _
    rw [shL_n i hi, BitVec.getLsbD_sshiftRight]
    have h1 : ∀ j, j < 64 → (1 : Int64).toBitVec.getLsbD j = decide (j = 0) := by decide +kernel
    have h0 : ∀ j, j < 64 → (0 : Int64).toBitVec.getLsbD j = false := by decide +kernel
    rw [h1 j hj]
    by_cases ej : j = 0
    · subst ej
      rw [decide_eq_true rfl, Bool.and_true, if_pos (show i + 0 < 64 by omega)]
      by_cases eb : btL x i = true
      · rw [if_pos eb, h1 0 (by omega)]
        simp [show x.toBitVec.getLsbD i = true from eb]
      · rw [if_neg eb, h0 0 (by omega)]
        simp [show x.toBitVec.getLsbD i = false from Bool.eq_false_iff.mpr eb]
    · rw [decide_eq_false ej, Bool.and_false]
      split
      · rw [h1 j hj, decide_eq_false ej]
      · rw [h0 j hj]
  rw [e]
  cases btL x i <;> decide
-- the index of words
def JIdx (hv : Nat → Int64) (ns : Nat) (sn : Nat → Nat) (sw : Nat → Nat → Nat) : Prop := ∀ w, w < 50 → ∀ i, i < 40 → (btL (hv w) i = true ↔ i < ns ∧ ∃ j, j < sn i ∧ sw i j = w)
theorem shw_b {hv : Nat → Int64} {wd : Nat → Nat} {i : Nat} : ∀ n, btL (shw hv wd n) i = true ↔ ∃ j, j < n ∧ btL (hv (wd j)) i = true := by
  intro n
  induction n with
  | zero => exact ⟨fun h => absurd (h.symm.trans (btL_0 i)) (by decide), fun ⟨j, h, _⟩ => by omega⟩
  | succ n ih =>
    show btL (shw hv wd n ||| hv (wd n)) i = true ↔ _
    rw [btL_or, Bool.or_eq_true, ih]
    constructor
    · rintro (⟨j, h1, h2⟩ | h)
      · exact ⟨j, by omega, h2⟩
      · exact ⟨n, by omega, h⟩
    · rintro ⟨j, h1, h2⟩
      by_cases e : j = n
      · subst e; exact Or.inr h2
      · exact Or.inl ⟨j, by omega, h2⟩
theorem kpv_b {hv : Nat → Int64} {b : Nat} {wd : Nat → Nat} {w i : Nat} (hb : b < 40) (hi : i < 40) : ∀ n, btL (kpv hv b wd n w) i = true ↔ (btL (hv w) i = true ∨ (i = b ∧ ∃ j, j < n ∧ wd j = w)) := by
  intro n
  induction n with
  | zero => exact ⟨fun h => Or.inl h, fun h => h.elim id (fun ⟨_, j, h1, _⟩ => by omega)⟩
  | succ n ih =>
    show btL (vp_updL (kpv hv b wd n) (wd n) (kpv hv b wd n (wd n) ||| (1 <<< ((nI b).toInt64 &&& 63))) w) i = true ↔ _
    by_cases e : w = wd n
    · have e2 : vp_updL (kpv hv b wd n) (wd n) (kpv hv b wd n (wd n) ||| (1 <<< ((nI b).toInt64 &&& 63))) w = (kpv hv b wd n w ||| (1 <<< ((nI b).toInt64 &&& 63))) := by
        subst e; exact if_pos rfl
      rw [e2, btL_or, Bool.or_eq_true, ih, btL_one b hb i hi, decide_eq_true_eq]
      constructor
      · rintro ((h | ⟨h, j, h1, h2⟩) | h)
        · exact Or.inl h
        · exact Or.inr ⟨h, j, by omega, h2⟩
        · exact Or.inr ⟨h, n, by omega, e.symm⟩
      · rintro (h | ⟨h, -⟩)
        · exact Or.inl (Or.inl h)
        · exact Or.inr h
    · have e2 : vp_updL (kpv hv b wd n) (wd n) (kpv hv b wd n (wd n) ||| (1 <<< ((nI b).toInt64 &&& 63))) w = kpv hv b wd n w := if_neg e
      rw [e2, ih]
      constructor
      · rintro (h | ⟨h, j, h1, h2⟩)
        · exact Or.inl h
        · exact Or.inr ⟨h, j, by omega, h2⟩
      · rintro (h | ⟨h, j, h1, h2⟩)
        · exact Or.inl h
        · by_cases q : j = n
          · subst q; exact absurd h2.symm e
          · exact Or.inr ⟨h, j, by omega, h2⟩
theorem inD_iff {nd : Nat} {du : Nat → Nat} {i : Nat} (hi : i < 40) (hd : ∀ x ∈ lst nd du, x < 40) : inD nd du i = true ↔ i ∈ lst nd du := by
  unfold inD
  rw [List.any_eq_true]
  constructor
  · rintro ⟨j, h1, h2⟩
    have h3 : du j < 40 := hd _ (List.mem_map.mpr ⟨j, h1, rfl⟩)
    have h4 : du j = i := (nI_eq (by omega) (by omega)).mp (by simpa using h2)
    exact h4 ▸ List.mem_map.mpr ⟨j, h1, rfl⟩
  · intro h
    obtain ⟨j, h1, h2⟩ := List.mem_map.mp h
    exact ⟨j, h1, by rw [h2]; simp⟩
-- both ways of finding the best one
theorem best_eq {sk : Nat → Bool} {li L ow : Nat → Int32} {le : Int32} {ns : Nat} (hL : ∀ i, i < ns → ∃ v, v ≤ 100 ∧ L i = nI v) (ho : ∀ i, i < ns → ow i = 0 ∨ ow i = 1) (hle : 0 < le) (h1 : ∀ i, i < ns → sk i = true → mit li L i < le) (h2 : ∀ i, i < ns → sk i = false → ¬ 0 < li i) :
    ∀ i, i ≤ ns → (bst sk L ow le i).1 = (mbs li L ow le i).1 ∧ ∃ a c : Nat, a ≤ 100 ∧ c ≤ 1 ∧ (bst sk L ow le i).2.1 = nI a ∧ (bst sk L ow le i).2.2 = nI c ∧ (mbs li L ow le i).2 = nI (2 * a + c) := by
  intro i
  induction i with
  | zero => intro _; exact ⟨rfl, 0, 0, by omega, by omega, rfl, rfl, rfl⟩
  | succ i ih =>
    intro hi
    obtain ⟨e1, a, c, ha, hc, e2, e3, e4⟩ := ih (by omega)
    rcases hsk : sk i with _ | _
    · have hm : mit li L i = L i := if_neg (h2 i (by omega) hsk)
      obtain ⟨v, hv, ev⟩ := hL i (by omega)
      obtain ⟨o, ho1, eo⟩ : ∃ o : Nat, o ≤ 1 ∧ ow i = nI o := by
        rcases ho i (by omega) with q | q
        · exact ⟨0, by omega, q⟩
        · exact ⟨1, by omega, q⟩
      have e5 : 2 * mit li L i + ow i = nI (2 * v + o) := by rw [hm, ev, eo, show (2 : Int32) = nI 2 from rfl, pk_mul, nI_add]
      have b1 : (bst sk L ow le i).2.1 < L i ↔ a < v := by rw [e2, ev]; exact nI_ltI (by omega) (by omega)
      have b2 : L i = (bst sk L ow le i).2.1 ↔ v = a := by rw [e2, ev]; exact nI_eq (by omega) (by omega)
      have b3 : ow i = 0 ↔ o = 0 := by rw [eo]; exact nI_eq (b := 0) (by omega) (by omega)
      have b4 : (bst sk L ow le i).2.2 = 0 ↔ c = 0 := by rw [e3]; exact nI_eq (b := 0) (by omega) (by omega)
      have b5 : 2 * mit li L i + ow i < (mbs li L ow le i).2 ↔ 2 * v + o < 2 * a + c := by rw [e5, e4]; exact nI_ltI (by omega) (by omega)
      by_cases hc1 : ¬ L i < le ∧ ¬ 2 * v + o < 2 * a + c
      · have t1 : bst sk L ow le (i + 1) = (nI i, L i, ow i) := by
          show (if sk i = true then _ else _) = _
          rw [if_neg (by rw [hsk]; decide), if_pos ⟨hc1.1, by rw [b1, b2, b3, b4]; omega⟩]
        have t2 : mbs li L ow le (i + 1) = (nI i, 2 * mit li L i + ow i) := mbs_t (by rw [hm]; exact hc1.1) (by rw [b5]; exact hc1.2)
        exact ⟨by rw [t1, t2], v, o, hv, ho1, by rw [t1]; exact ev, by rw [t1]; exact eo, by rw [t2]; exact e5⟩
      · have hd9 : L i < le ∨ 2 * v + o < 2 * a + c := by
          by_cases z9 : L i < le
          · exact Or.inl z9
          · by_cases z8 : 2 * v + o < 2 * a + c
            · exact Or.inr z8
            · exact absurd ⟨z9, z8⟩ hc1
        have t1 : bst sk L ow le (i + 1) = bst sk L ow le i := by
          show (if sk i = true then _ else _) = _
          rw [if_neg (by rw [hsk]; decide), if_neg]
          rintro ⟨q1, q2⟩
          rcases hd9 with z9 | z9
          · exact q1 z9
          · rw [b1, b2, b3, b4] at q2
            omega
        have t2 : mbs li L ow le (i + 1) = mbs li L ow le i := mbs_n (by
          rcases hd9 with z9 | z9
          · exact Or.inl (by rw [hm]; exact z9)
          · exact Or.inr (b5.mpr z9))
        rw [t1, t2]
        exact ⟨e1, a, c, ha, hc, e2, e3, e4⟩
    · have t1 : bst sk L ow le (i + 1) = bst sk L ow le i := bst_s hsk
      have t2 : mbs li L ow le (i + 1) = mbs li L ow le i := mbs_n (Or.inl (h1 i (by omega) hsk))
      rw [t1, t2]
      exact ⟨e1, a, c, ha, hc, e2, e3, e4⟩
/-- the list as numbers say it -/
def JLi (li : Nat → Int32) (ns nd : Nat) (du : Nat → Nat) : Prop := ∀ i, i < ns → (0 < li i ↔ i ∈ lst nd du)
theorem best_all {li : Nat → Int32} {ns nd : Nat} {du : Nat → Nat} {so oc on_ : Nat → Nat} {owd : Nat → Nat → Nat} {n : Nat} {f : Nat → Int32} {cl le : Int32} {am : Int64} (hJ : JLi li ns nd du) (hns : ns ≤ 40) (hdu : ∀ x ∈ lst nd du, x < ns) (hn0 : 0 < n) (hn : n ≤ 8) (h8 : ∀ i, i < ns → on_ (so i) ≤ 8) (hle : 0 < le)
    (ham : ∀ i, i < ns → btL am i = false → ∀ a b, a < n → b < on_ (so i) → ¬ f a = nI (owd (so i) b)) :
    bstV nd du on_ owd so oc ns am n f cl le = (mbs li (lkM n f (fun i => on_ (so i)) (fun i => owd (so i))) (owM (fun i => oc (so i)) cl) le ns).1 := by
  unfold bstV
  refine (best_eq (li := li) (fun i hi => lkM_nat hn0 hn (h8 i hi)) (fun i _ => ?_) hle (fun i hi h => ?_) (fun i hi h => ?_) ns (Nat.le_refl _)).1
  · show (if nI (oc (so i)) = cl then (1 : Int32) else 0) = 0 ∨ _
    split
    · exact Or.inr rfl
    · exact Or.inl rfl
  · unfold skD at h
    rw [btL_shr (by omega), Bool.or_eq_true] at h
    by_cases q : 0 < li i
    · rw [show mit li (fun i => lkM n f on_ owd (so i)) i = -1 from if_pos q]
      rw [Int32.lt_iff_toInt_lt] at hle ⊢
      have a1 : (0 : Int32).toInt = 0 := by decide
      have a2 : (-1 : Int32).toInt = -1 := by decide
      omega
    · rw [show mit li (fun i => lkM n f on_ owd (so i)) i = lkM n f on_ owd (so i) from if_neg q]
      rcases h with h | h
      · rw [lkM_0 hn0 hn (h8 i hi) (ham i hi (by simpa using h))]
        exact hle
      · exact absurd ((hJ i hi).mpr ((inD_iff (by omega) (fun x hx => by have := hdu x hx; omega)).mp h)) q
  · unfold skD at h
    rw [Bool.or_eq_false_iff] at h
    exact fun q => absurd ((inD_iff (by omega) (fun x hx => by have := hdu x hx; omega)).mpr ((hJ i hi).mp q)) (by rw [h.2]; decide)
theorem am_all {ns : Nat} {on_ : Nat → Nat} {so : Nat → Nat} {owd : Nat → Nat → Nat} {n : Nat} {f : Nat → Int32} (hns : ns ≤ 40) : ∀ i, i < ns → btL (-1) i = false → ∀ a b, a < n → b < on_ (so i) → ¬ f a = nI (owd (so i) b) := fun i hi h => absurd (btL_m1 i (by omega)) (by rw [h]; decide)
theorem am_shw {hv : Nat → Int64} {ns : Nat} {on_ : Nat → Nat} {so : Nat → Nat} {owd : Nat → Nat → Nat} {n : Nat} {wd : Nat → Nat} (h40 : ns ≤ 40) (hI : JIdx hv ns (fun i => on_ (so i)) (fun i => owd (so i))) (hw : ∀ j, j < n → wd j < 50) (ho : ∀ i, i < ns → ∀ j, j < on_ (so i) → owd (so i) j < 50) : ∀ i, i < ns → btL (shw hv wd n) i = false → ∀ a b, a < n → b < on_ (so i) → ¬ nI (wd a) = nI (owd (so i) b) := fun i hi h a b ha hb q => by
  have h1 := hw a ha
  have h2 := ho i hi b hb
  have h3 : wd a = owd (so i) b := (nI_eq (by omega) (by omega)).mp q
  have h4 : btL (hv (wd a)) i = true := (hI _ h1 i (by omega)).mpr ⟨hi, b, hb, h3.symm⟩
  exact absurd ((shw_b n).mpr ⟨a, ha, h4⟩) (by rw [h]; decide)
theorem sh_eq {ns : Nat} {so on_ : Nat → Nat} {owd : Nat → Nat → Nat} {n : Nat} {f : Nat → Int32} {x : Int32} (hns : ns ≤ 40) (hn0 : 0 < n) (hn : n ≤ 8) (h8 : ∀ i, i < ns → on_ (so i) ≤ 8) : shM n f (fun i => on_ (so i)) (fun i => owd (so i)) ns x = shO n f on_ owd ns so x := by
  unfold shM shO
  rcases e : ix x ns with _ | i
  · rfl
  · obtain ⟨q1, q2⟩ := ix_of e (by omega)
    obtain ⟨v, hv, ev⟩ := lkM_nat (f := f) (sn := fun i => on_ (so i)) (sw := fun i => owd (so i)) hn0 hn (h8 i q1)
    show shN (lkM n f (fun i => on_ (so i)) (fun i => owd (so i)) i) = shI (lkM n f (fun i => on_ (so i)) (fun i => owd (so i)) i)
    rw [ev]
    exact shN_shI v (by omega)
theorem lend_cg {f g lb : Nat → Int32} : ∀ (F i j : Nat) (b b2 : Nat → Int32) (n : Nat), i ≤ n → (∀ k, k < n → b k = b2 k) → ∀ k, k < n → lendF f g lb F i j b k = lendF f g lb F i j b2 k := by
  intro F
  induction F with
  | zero => intro i j b b2 n _ h k hk; exact h k hk
  | succ F ih =>
    intro i j b b2 n hi h k hk
    by_cases e : i = 0 ∨ j = 0
    · rw [lendF_z e, lendF_z e]; exact h k hk
    · by_cases e2 : f (i - 1) = g (j - 1)
      · rw [lendF_p (by omega) (by omega) e2, lendF_p (by omega) (by omega) e2]
        refine ih _ _ _ _ n (by omega) (fun q hq => ?_) k hk
        unfold upd
        split
        · rfl
        · exact h q hq
      · rw [lendF_n (by omega) (by omega) e2, lendF_n (by omega) (by omega) e2]
        exact ih _ _ _ _ n (by omega) h k hk
