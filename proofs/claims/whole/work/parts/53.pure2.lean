-- the list of those that are due, told by numbers and as a list
def nwc (P : Nat → Bool) (L : Nat → Int32) : Nat → Nat
  | 0 => 0
  | i + 1 => nwc P L i + (if P i = true ∧ L i = 0 then 1 else 0)
theorem nwc_le {P : Nat → Bool} {L : Nat → Int32} : ∀ i, nwc P L i ≤ i := by
  intro i
  induction i with
  | zero => exact Nat.le_refl _
  | succ i ih => simp only [nwc]; split <;> omega
theorem nwc_mono {P : Nat → Bool} {L : Nat → Int32} {i j : Nat} (h : i ≤ j) : nwc P L i ≤ nwc P L j := by
  induction h with
  | refl => exact Nat.le_refl _
  | step _ ih => exact Nat.le_trans ih (by simp only [nwc]; split <;> omega)
theorem nwc_y {P : Nat → Bool} {L : Nat → Int32} {i : Nat} (h : P i = true ∧ L i = 0) : nwc P L (i + 1) = nwc P L i + 1 := by simp only [nwc]; rw [if_pos h]
theorem nwc_n {P : Nat → Bool} {L : Nat → Int32} {i : Nat} (h : ¬ (P i = true ∧ L i = 0)) : nwc P L (i + 1) = nwc P L i := by simp only [nwc]; rw [if_neg h]; rfl
def lsV (P : Nat → Bool) (L : Nat → Int32) (cc : Nat) (j : Nat) : Int32 := if P j = true then (if L j = 0 then nI (cc + nwc P L (j + 1)) else L j) else 0
theorem lsF_eq {P : Nat → Bool} {L : Nat → Int32} {cc : Nat} : ∀ i, (lsF P L (nI cc) i).2 = nI (cc + nwc P L i) ∧ ∀ j, (lsF P L (nI cc) i).1 j = if j < i then lsV P L cc j else L j := by
  intro i
  induction i with
  | zero => exact ⟨rfl, fun j => by rw [if_neg (by omega)]; rfl⟩
  | succ i ih =>
    obtain ⟨h1, h2⟩ := ih
    have h3 : (lsF P L (nI cc) i).1 i = L i := by rw [h2, if_neg (by omega)]
    by_cases e : P i = true
    · by_cases e2 : L i = 0
      · rw [lsF_a e (h3.trans e2)]
        have h4 : (lsF P L (nI cc) i).2 + 1 = nI (cc + nwc P L (i + 1)) := by rw [h1, nwc_y ⟨e, e2⟩]; exact nI_1 _
        refine ⟨h4, fun j => ?_⟩
        show upd (lsF P L (nI cc) i).1 i ((lsF P L (nI cc) i).2 + 1) j = _
        by_cases q : j = i
        · subst q
          rw [pk_us, h4, if_pos (by omega)]
          unfold lsV
          rw [if_pos e, if_pos e2]
        · rw [pk_un q, h2]
          by_cases q2 : j < i
          · rw [if_pos q2, if_pos (by omega)]
          · rw [if_neg q2, if_neg (by omega)]
      · rw [lsF_b e (fun q => e2 (h3.symm.trans q))]
        refine ⟨by rw [h1, nwc_n (fun q => e2 q.2)], fun j => ?_⟩
        rw [h2]
        by_cases q : j = i
        · subst q
          rw [if_neg (by omega), if_pos (by omega)]
          unfold lsV
          rw [if_pos e, if_neg e2]
        · by_cases q2 : j < i
          · rw [if_pos q2, if_pos (by omega)]
          · rw [if_neg q2, if_neg (by omega)]
    · rw [lsF_c e]
      refine ⟨by show (lsF P L (nI cc) i).2 = _; rw [h1, nwc_n (fun q => e q.1)], fun j => ?_⟩
      show upd (lsF P L (nI cc) i).1 i 0 j = _
      by_cases q : j = i
      · subst q
        rw [pk_us, if_pos (by omega)]
        unfold lsV
        rw [if_neg e]
      · rw [pk_un q, h2]
        by_cases q2 : j < i
        · rw [if_pos q2, if_pos (by omega)]
        · rw [if_neg q2, if_neg (by omega)]
theorem lsF_cg {P P2 : Nat → Bool} {L : Nat → Int32} {c : Int32} : ∀ i, (∀ j, j < i → P j = P2 j) → lsF P L c i = lsF P2 L c i := by
  intro i
  induction i with
  | zero => intro _; rfl
  | succ i ih =>
    intro h
    have h1 := ih (fun j hj => h j (by omega))
    have h2 := h i (by omega)
    simp only [lsF]
    rw [h1, h2]
/-- how the reference's numbers tell the list -/
def JLs (li : Nat → Int32) (c : Int32) (ns nd : Nat) (du : Nat → Nat) (cc : Nat) : Prop := JLi li ns nd du ∧ (∀ i, ns ≤ i → li i = 0) ∧ (∀ i, ¬ li i < 0) ∧ (lst nd du).Pairwise (fun a b => li a < li b) ∧ (∀ i, li i ≤ c) ∧ c = nI cc
theorem nI_le0 {n : Nat} (h : n < 2 ^ 31) (h1 : 0 < n) : (0 : Int32) < nI n := by
  rw [← nI_0]
  exact nI_lt h1 h
theorem i32_lt {a b : Int32} : a < b ↔ a.toInt < b.toInt := Int32.lt_iff_toInt_lt
theorem i32_le {a b : Int32} : a ≤ b ↔ a.toInt ≤ b.toInt := Int32.le_iff_toInt_le
theorem i32_0 : (0 : Int32).toInt = 0 := by decide
theorem i32_eq {a b : Int32} : a = b ↔ a.toInt = b.toInt := Int32.toInt_inj.symm
theorem pos_of {a : Int32} (h : ¬ a < 0) (h2 : ¬ a = 0) : 0 < a := by
  rw [i32_lt, i32_0] at h
  rw [i32_eq, i32_0] at h2
  rw [i32_lt, i32_0]
  omega
theorem nneg_of {a : Int32} (h : 0 < a) : ¬ a < 0 := by
  rw [i32_lt, i32_0] at h
  rw [i32_lt, i32_0]
  omega
theorem lt_asy {a b : Int32} (h : a < b) : ¬ b < a := by
  rw [i32_lt] at h
  rw [i32_lt]
  omega
theorem lt_irr {a : Int32} : ¬ a < a := by
  rw [i32_lt]
  omega
theorem le_tr {a b c : Int32} (h : a ≤ b) (h2 : b ≤ c) : a ≤ c := by
  rw [i32_le] at h h2
  rw [i32_le]
  omega
theorem le_lt_tr {a b c : Int32} (h : a ≤ b) (h2 : b < c) : a < c := by
  rw [i32_le] at h
  rw [i32_lt] at h2
  rw [i32_lt]
  omega
theorem nI_le2 {a b : Nat} (h : a ≤ b) (hb : b < 2 ^ 31) : nI a ≤ nI b := nI_le h hb
theorem lists_eq {P : Nat → Bool} {li : Nat → Int32} {c : Int32} {ns nd : Nat} {du : Nat → Nat} {cc n2 : Nat} {d2 : Nat → Nat} (hJ : JLs li c ns nd du cc) (hns : ns ≤ 40) (hcc : cc ≤ 1000000) (hnd : (lst nd du).Nodup) (hdu : ∀ x ∈ lst nd du, x < ns) (hd2 : lst n2 d2 = LD2 P ((lst nd du).filter P) ns) :
    JLs (lsF P li c ns).1 (lsF P li c ns).2 ns n2 d2 (cc + nwc P li ns) := by
  obtain ⟨j1, j2, j3, j4, j5, j6⟩ := hJ
  subst j6
  obtain ⟨h1, h2⟩ := lsF_eq (P := P) (L := li) (cc := cc) ns
  have hw := nwc_le (P := P) (L := li) ns
  have hval : ∀ i, i < ns → (lsF P li (nI cc) ns).1 i = lsV P li cc i := fun i hi => by rw [h2, if_pos hi]
  have hzero : ∀ i, ¬ li i = 0 → 0 < li i := fun i h => pos_of (j3 i) h
  have hpos : ∀ i, i < ns → P i = true → 0 < (lsF P li (nI cc) ns).1 i := fun i hi hp => by
    rw [hval i hi]
    unfold lsV
    rw [if_pos hp]
    by_cases e : li i = 0
    · have h3 := nwc_y (P := P) (L := li) ⟨hp, e⟩
      have h4 := nwc_le (P := P) (L := li) (i + 1)
      rw [if_pos e]
      exact nI_le0 (by omega) (by omega)
    · rw [if_neg e]
      exact hzero i e
  have hnpos : ∀ i, i < ns → ¬ P i = true → (lsF P li (nI cc) ns).1 i = 0 := fun i hi hp => by
    rw [hval i hi]
    unfold lsV
    rw [if_neg hp]
  have hmem : ∀ i, i ∈ lst n2 d2 ↔ i < ns ∧ P i = true := fun i => by
    rw [hd2]
    unfold LD2
    rw [List.mem_append, List.mem_filter, List.mem_filter, List.mem_range]
    constructor
    · rintro (⟨q1, q2⟩ | ⟨q1, q2⟩)
      · exact ⟨hdu i q1, q2⟩
      · exact ⟨q1, (Bool.and_eq_true_iff.mp q2).1⟩
    · rintro ⟨q1, q2⟩
      by_cases e : i ∈ (lst nd du).filter P
      · exact Or.inl (List.mem_filter.mp e)
      · refine Or.inr ⟨q1, ?_⟩
        rw [q2, Bool.true_and, Bool.not_eq_true', Bool.eq_false_iff]
        exact fun q => e (by simpa using q)
  refine ⟨fun i hi => ?_, fun i hi => by rw [h2, if_neg (by omega)]; exact j2 i hi, fun i => ?_, ?_, fun i => ?_, h1⟩
  · rw [hmem i]
    constructor
    · intro q
      refine ⟨hi, Classical.byContradiction (fun z => ?_)⟩
      rw [hnpos i hi z] at q
      exact absurd q (by decide)
    · exact fun q => hpos i hi q.2
  · by_cases hi : i < ns
    · by_cases hp : P i = true
      · exact nneg_of (hpos i hi hp)
      · rw [hnpos i hi hp]; decide
    · rw [h2, if_neg hi]; exact j3 i
  · rw [hd2]
    unfold LD2
    rw [List.pairwise_append]
    have hold : ∀ a, a ∈ (lst nd du).filter P → (lsF P li (nI cc) ns).1 a = li a := fun a ha => by
      obtain ⟨q1, q2⟩ := List.mem_filter.mp ha
      have q3 := (j1 a (hdu a q1)).mpr q1
      rw [hval a (hdu a q1)]
      unfold lsV
      rw [if_pos q2, if_neg (fun z => by rw [z] at q3; exact absurd q3 (by decide))]
    have hnew : ∀ a, a ∈ (List.range ns).filter (fun x => P x && !((lst nd du).filter P).contains x) → a < ns ∧ P a = true ∧ li a = 0 := fun a ha => by
      obtain ⟨q1, q2⟩ := List.mem_filter.mp ha
      rw [List.mem_range] at q1
      rw [Bool.and_eq_true, Bool.not_eq_true', Bool.eq_false_iff] at q2
      refine ⟨q1, q2.1, Classical.byContradiction (fun z => q2.2 ?_)⟩
      have q3 := (j1 a q1).mp (hzero a z)
      simpa using List.mem_filter.mpr ⟨q3, q2.1⟩
    have hnv : ∀ a, a < ns ∧ P a = true ∧ li a = 0 → (lsF P li (nI cc) ns).1 a = nI (cc + nwc P li (a + 1)) ∧ nwc P li (a + 1) = nwc P li a + 1 ∧ nwc P li (a + 1) ≤ ns := fun a ⟨q1, q2, q3⟩ => by
      refine ⟨?_, nwc_y ⟨q2, q3⟩, Nat.le_trans (nwc_le _) (by omega)⟩
      rw [hval a q1]
      unfold lsV
      rw [if_pos q2, if_pos q3]
    refine ⟨?_, ?_, fun a ha b hb => ?_⟩
    · exact List.Pairwise.imp_of_mem (fun ha hb h => by rw [hold _ ha, hold _ hb]; exact h) (List.Pairwise.filter P j4)
    · refine List.Pairwise.imp_of_mem (fun {a b} ha hb h => ?_) (List.Pairwise.filter _ List.pairwise_lt_range)
      obtain ⟨a1, a2, a3⟩ := hnv a (hnew a ha)
      obtain ⟨b1, b2, b3⟩ := hnv b (hnew b hb)
      have := nwc_mono (P := P) (L := li) (show a + 1 ≤ b from h)
      rw [a1, b1]
      exact nI_lt (by omega) (by omega)
    · obtain ⟨b1, b2, b3⟩ := hnv b (hnew b hb)
      rw [hold a ha, b1]
      exact le_lt_tr (j5 a) (nI_lt (by omega) (by omega))
  · rw [h1]
    by_cases hi : i < ns
    · rw [hval i hi]
      unfold lsV
      by_cases hp : P i = true
      · rw [if_pos hp]
        by_cases e : li i = 0
        · rw [if_pos e]
          have := nwc_mono (P := P) (L := li) (show i + 1 ≤ ns by omega)
          exact nI_le2 (by omega) (by omega)
        · rw [if_neg e]
          exact le_tr (j5 i) (nI_le2 (by omega) (by omega))
      · rw [if_neg hp, ← nI_0]
        exact nI_le2 (by omega) (by omega)
    · rw [h2, if_neg hi, j2 i (by omega), ← nI_0]
      exact nI_le2 (by omega) (by omega)
theorem dnF_len {L : Nat → Int32} : ∀ n, dnF L n = ((List.range n).filter (fun i => decide (0 < L i))).length := by
  intro n
  induction n with
  | zero => rfl
  | succ n ih =>
    rw [List.range_succ, List.filter_append, List.length_append, ← ih]
    simp only [dnF]
    by_cases h : 0 < L n
    · rw [if_pos h]; simp [h]
    · rw [if_neg h]; simp [h]
theorem dn_eq {li : Nat → Int32} {c : Int32} {ns nd : Nat} {du : Nat → Nat} {cc : Nat} (hJ : JLs li c ns nd du cc) (hnd : (lst nd du).Nodup) (hdu : ∀ x ∈ lst nd du, x < ns) : dnF li ns = nd := by
  rw [dnF_len]
  have h1 : ((List.range ns).filter (fun i => decide (0 < li i))).Nodup := List.Nodup.sublist List.filter_sublist List.nodup_range
  have h2 : ∀ a, a ∈ (List.range ns).filter (fun i => decide (0 < li i)) ↔ a ∈ lst nd du := fun a => by
    rw [List.mem_filter, List.mem_range, decide_eq_true_eq]
    exact ⟨fun q => (hJ.1 a q.1).mp q.2, fun q => ⟨hdu a q, (hJ.1 a (hdu a q)).mpr q⟩⟩
  rw [((List.perm_ext_iff_of_nodup h1 hnd).mpr h2).length_eq, lst_len]
theorem ahF_len {L : Nat → Int32} {v : Int32} : ∀ n, ahF L v n = ((List.range n).filter (fun i => decide (0 < L i ∧ L i < v))).length := by
  intro n
  induction n with
  | zero => rfl
  | succ n ih =>
    rw [List.range_succ, List.filter_append, List.length_append, ← ih]
    simp only [ahF]
    by_cases h : 0 < L n ∧ L n < v
    · rw [if_pos h]; simp [h]
    · rw [if_neg h]; simp [h]
theorem sorted_at {L : Nat → Int32} : ∀ (D : List Nat) (p x : Nat), D.Pairwise (fun a b => L a < L b) → D[p]? = some x → (D.filter (fun y => decide (L y < L x))).length = p := by
  intro D
  induction D with
  | nil => intro p x _ h; simp at h
  | cons a t ih =>
    intro p x hp hx
    obtain ⟨h1, h2⟩ := List.pairwise_cons.mp hp
    cases p with
    | zero =>
      simp only [List.getElem?_cons_zero, Option.some.injEq] at hx
      subst hx
      have h3 : ∀ y ∈ a :: t, ¬ L y < L a := fun y hy => by
        rcases List.mem_cons.mp hy with q | q
        · subst q; exact lt_irr
        · exact lt_asy (h1 y q)
      rw [List.filter_eq_nil_iff.mpr (fun y hy => by simpa using h3 y hy)]
      rfl
    | succ p =>
      rw [List.getElem?_cons_succ] at hx
      have h3 := h1 x (List.mem_of_getElem? hx)
      rw [List.filter_cons_of_pos (by simpa using h3), List.length_cons, ih p x h2 hx]
theorem da_one {L : Nat → Int32} {n : Nat} {x : Int32} {i0 : Nat} (h0 : 0 < L i0 ∧ nI (ahF L (L i0) n) = x) : ∀ m, i0 < m → (∀ i, i < m → 0 < L i ∧ nI (ahF L (L i) n) = x → i = i0) → daF L n x m = nI i0 := by
  intro m
  induction m with
  | zero => intro h; omega
  | succ m ih =>
    intro h hu
    by_cases e : 0 < L m ∧ nI (ahF L (L m) n) = x
    · have e2 := hu m (by omega) e
      subst e2
      exact if_pos e
    · have e3 : daF L n x (m + 1) = daF L n x m := if_neg e
      rw [e3]
      refine ih (Nat.lt_of_le_of_ne (by omega) (fun q => ?_)) (fun i hi => hu i (by omega))
      subst q
      exact e h0
theorem da_eq {li : Nat → Int32} {c : Int32} {ns nd : Nat} {du : Nat → Nat} {cc k : Nat} (hJ : JLs li c ns nd du cc) (hnd : (lst nd du).Nodup) (hdu : ∀ x ∈ lst nd du, x < ns) (hns : ns ≤ 40) (hk : k < nd) (hn40 : nd ≤ 40) : daF li ns (nI k) ns = nI (du k) := by
  have hcnt : ∀ p x, (lst nd du)[p]? = some x → ahF li (li x) ns = p := fun p x hx => by
    rw [ahF_len, ← sorted_at (L := li) (lst nd du) p x hJ.2.2.2.1 hx]
    refine List.Perm.length_eq ((List.perm_ext_iff_of_nodup (List.Nodup.sublist List.filter_sublist List.nodup_range) (List.Nodup.sublist List.filter_sublist hnd)).mpr (fun a => ?_))
    rw [List.mem_filter, List.mem_filter, List.mem_range, decide_eq_true_eq, decide_eq_true_eq]
    exact ⟨fun q => ⟨(hJ.1 a q.1).mp q.2.1, q.2.2⟩, fun q => ⟨hdu a q.1, (hJ.1 a (hdu a q.1)).mpr q.1, q.2⟩⟩
  have hm : du k ∈ lst nd du := lst_mem hk
  refine da_one ⟨(hJ.1 _ (hdu _ hm)).mpr hm, congrArg nI (hcnt k (du k) (lst_get hk))⟩ ns (hdu _ hm) (fun i hi hq => ?_)
  have h1 := (hJ.1 i hi).mp hq.1
  obtain ⟨p, h2⟩ := List.getElem?_of_mem h1
  have h3 := hcnt p i h2
  have hp : p < nd := by have := (List.getElem?_eq_some_iff.mp h2).1; rwa [lst_len] at this
  have h4 : p = k := by
    have h5 := hq.2
    rw [h3] at h5
    exact (nI_eq (by omega) (by omega)).mp h5
  subst h4
  rw [lst_get hk] at h2
  exact (Option.some.inj h2).symm
