-- the reference in the machine: its object and its 23 arrays, by names 0 .. 23; sf its numbers, af its arrays
def mty (k : Nat) : Nat := if k = 10 then 2 else 0
def mlen (k : Nat) : Nat := match k with
  | 1 => 8 | 2 => 40 | 3 => 40 | 4 => 320 | 5 => 320 | 6 => 40 | 7 => 60 | 8 => 60 | 9 => 480 | 10 => 60 | 11 => 60 | 12 => 60 | 13 => 60 | 14 => 480 | 15 => 60 | 16 => 60 | 17 => 600 | 18 => 200 | 19 => 40 | 20 => 4 | 21 => 4 | 22 => 8 | _ => 81
def mfs (adr : Nat → Nat) (sf : Nat → Int32) : List Value := [.int (sf 0), .int (sf 1), .ref (adr 1), .int (sf 2), .int (sf 3), .int (sf 4), .int (sf 5), .ref (adr 2), .ref (adr 3), .ref (adr 4), .ref (adr 5), .ref (adr 6), .int (sf 6), .ref (adr 7), .ref (adr 8), .ref (adr 9), .ref (adr 10), .ref (adr 11), .ref (adr 12), .int (sf 7), .int (sf 8), .ref (adr 13), .ref (adr 14), .ref (adr 15), .ref (adr 16), .ref (adr 17), .ref (adr 18), .int (sf 9), .ref (adr 19), .int (sf 10), .ref (adr 20), .ref (adr 21), .int (sf 11), .ref (adr 22), .ref (adr 23)]
def mw (ac : Nat → ClassId) (adr : Nat → Nat) (sf : Nat → Int32) (af : Nat → Nat → Int32) : Nat → va_E := fun k => if k = 0 then .inr (8, mfs adr sf) else .inl (ac (mty k), mlen k, .inl (af k))
section MM
variable {D : va_G} {ac : Nat → ClassId} {A : Nat → Prop} {adr : Nat → Nat} {H : Heap} {sf s1 : Nat → Int32} {af a1 : Nat → Nat → Int32}
theorem MW.marr {k : Nat} {e : va_E} (h : MW D A 24 adr (va_up (mw ac adr sf af) k e) H) (hk : k ≠ 0) {f : Nat → Int32} (he : e = .inl (ac (mty k), mlen k, .inl f)) (h1 : a1 k = f) (h2 : ∀ j, j ≠ k → a1 j = af j) : MW D A 24 adr (mw ac adr sf a1) H := by
  have e9 : va_up (mw ac adr sf af) k e = mw ac adr sf a1 := by
    funext j
    by_cases q : j = k
    · subst q
      rw [va_up_self, he]
      unfold mw
      rw [if_neg hk, h1]
    · rw [va_up_ne _ _ q]
      unfold mw
      rw [h2 j q]
  rw [← e9]
  exact h
theorem MW.mobj {fs : List Value} (h : MW D A 24 adr (va_up (mw ac adr sf af) 0 (.inr (8, fs))) H) (e : fs = mfs adr s1) : MW D A 24 adr (mw ac adr s1 af) H := by
  have e9 : va_up (mw ac adr sf af) 0 (.inr (8, fs)) = mw ac adr s1 af := by
    funext j
    by_cases q : j = 0
    · subst q
      rw [va_up_self, e]
      rfl
    · rw [va_up_ne _ _ q]
      unfold mw
      rw [if_neg q, if_neg q]
  rw [← e9]
  exact h
theorem MW.cg (h : MW D A 24 adr (mw ac adr sf af) H) (hs : ∀ j, s1 j = sf j) (ha : ∀ j, a1 j = af j) : MW D A 24 adr (mw ac adr s1 a1) H := by
  have e1 : s1 = sf := funext hs
  have e2 : a1 = af := funext ha
  rw [e1, e2]
  exact h
theorem mw_cg {ac : Nat → ClassId} {adr : Nat → Nat} (hs : ∀ j, s1 j = sf j) (ha : ∀ j, a1 j = af j) : mw ac adr sf af = mw ac adr s1 a1 := by
  have e1 : s1 = sf := funext hs
  have e2 : a1 = af := funext ha
  rw [e1, e2]
end MM
