/-! ways over open bridges -/
def wkO (S : Nat → Int) (O : Nat → Bool) (a : Int) : Nat → Int → Prop
  | 0, r => r = a
  | k + 1, r => ∃ (b : Nat) (m : Int), (b : Int) < S 2 ∧ O b = true ∧ wkO S O a k m ∧ qEnd S (94 + 2 * b) m = r ∧ 0 ≤ r
def isRow (S : Nat → Int) (O : Nat → Bool) (a : Nat) (D : Nat → Int) : Prop :=
  D a = 0 ∧ (∀ r : Nat, (r : Int) < S 0 → (0 ≤ D r ∧ D r ≤ 99) ∧ (D r < 99 → wkO S O a (D r).toNat r)) ∧ ∀ b : Nat, (b : Int) < S 2 → O b = true → D (S (94 + 2 * b + 1)).toNat ≤ D (S (94 + 2 * b)).toNat + 1 ∧ D (S (94 + 2 * b)).toNat ≤ D (S (94 + 2 * b + 1)).toNat + 1
theorem qEnd_cases {S : Nat → Int} {a : Nat} {q r : Int} (h : qEnd S a q = r) (h0 : 0 ≤ r) : S a = q ∧ S (a + 1) = r ∨ S (a + 1) = q ∧ S a = r := by
  unfold qEnd at h
  split at h
  · rename_i h1
    exact Or.inl ⟨h1, h⟩
  · split at h
    · rename_i h2
      exact Or.inr ⟨h2, h⟩
    · omega
theorem row_le {S : Nat → Int} {O : Nat → Bool} {a : Nat} {D : Nat → Int} (h : isRow S O a D) : ∀ (k : Nat) (r : Int), wkO S O a k r → D r.toNat ≤ k := by
  intro k
  induction k with
  | zero =>
    intro r hr
    have e : r = a := hr
    rw [e, Int.toNat_natCast, h.1]
    exact Int.le_refl _
  | succ k ih =>
    intro r hr
    obtain ⟨b, m, hb, ho, hm, he, h0⟩ := hr
    have z := ih m hm
    have y := h.2.2 b hb ho
    rcases qEnd_cases he h0 with ⟨e1, e2⟩ | ⟨e1, e2⟩
    · rw [e1, e2] at y
      omega
    · rw [e1, e2] at y
      omega
theorem row_unique {S : Nat → Int} {O : Nat → Bool} {a : Nat} {D E : Nat → Int} (h : isRow S O a D) (k : isRow S O a E) (r : Nat) (hr : (r : Int) < S 0) : D r = E r := by
  have le : ∀ {D E : Nat → Int}, isRow S O a D → isRow S O a E → D r ≤ E r := by
    intro D E h k
    have y := (k.2.1 r hr)
    by_cases e : E r < 99
    · have z := row_le h _ _ (y.2 e)
      rw [Int.toNat_natCast] at z
      omega
    · have x := (h.2.1 r hr).1
      omega
  have h1 := le h k
  have h2 := le k h
  omega
/-- one bridge tried both ways -/
def relx (D : Nat → Int) (x y : Nat) : Nat → Int := if D x + 1 < D y then sup D y (D x + 1) else D
def relF (S : Nat → Int) (D : Nat → Int) (b : Nat) : Nat → Int := relx (relx D (S (94 + 2 * b)).toNat (S (94 + 2 * b + 1)).toNat) (S (94 + 2 * b + 1)).toNat (S (94 + 2 * b)).toNat
/-- what a row in the making holds -/
def isPre (S : Nat → Int) (O : Nat → Bool) (a : Nat) (D : Nat → Int) : Prop := D a = 0 ∧ ∀ r : Nat, (r : Int) < S 0 → (0 ≤ D r ∧ D r ≤ 99) ∧ (D r < 99 → wkO S O a (D r).toNat r)
theorem relx_le (D : Nat → Int) (x y r : Nat) : relx D x y r ≤ D r := by
  unfold relx
  split
  · by_cases h : r = y
    · subst h
      rw [sup_s]
      omega
    · rw [sup_n h]
      omega
  · exact Int.le_refl _
theorem relx_pre {S : Nat → Int} {O : Nat → Bool} {a : Nat} {D : Nat → Int} (h : isPre S O a D) {b x y : Nat} (hb : (b : Int) < S 2) (ho : O b = true) (hx : (x : Int) < S 0) (hy : (y : Int) < S 0) (he : qEnd S (94 + 2 * b) x = y) : isPre S O a (relx D x y) := by
  unfold relx
  split
  · rename_i hl
    have zx := h.2 x hx
    have zy := h.2 y hy
    refine ⟨?_, fun r hr => ?_⟩
    · by_cases e : a = y
      · subst e
        have := h.1
        omega
      · rw [sup_n e]
        exact h.1
    · by_cases e : r = y
      · subst e
        rw [sup_s]
        refine ⟨by omega, fun _ => ?_⟩
        rw [show (D x + 1).toNat = (D x).toNat + 1 by omega]
        exact ⟨b, x, hb, ho, zx.2 (by omega), he, by omega⟩
      · rw [sup_n e]
        exact h.2 r hr
  · exact h
theorem isPre.row {S : Nat → Int} {O : Nat → Bool} {a : Nat} {D : Nat → Int} (h : isPre S O a D) (k : ∀ b : Nat, (b : Int) < S 2 → O b = true → D (S (94 + 2 * b + 1)).toNat ≤ D (S (94 + 2 * b)).toNat + 1 ∧ D (S (94 + 2 * b)).toNat ≤ D (S (94 + 2 * b + 1)).toNat + 1) : isRow S O a D := ⟨h.1, h.2, k⟩
theorem qEnd_0 (S : Nat → Int) (a : Nat) : qEnd S a (S a) = S (a + 1) := if_pos rfl
theorem qEnd_1 (S : Nat → Int) (a : Nat) : qEnd S a (S (a + 1)) = S a := by
  unfold qEnd
  split
  · rename_i h
    exact h.symm
  · rw [if_pos rfl]
theorem relF_pre {S : Nat → Int} {O : Nat → Bool} {a : Nat} {D : Nat → Int} (wv : WV S) (h : isPre S O a D) {b : Nat} (hb : (b : Int) < S 2) (ho : O b = true) : isPre S O a (relF S D b) := by
  have z := wv.1 b hb
  have e1 : ((S (94 + 2 * b)).toNat : Int) = S (94 + 2 * b) := by omega
  have e2 : ((S (94 + 2 * b + 1)).toNat : Int) = S (94 + 2 * b + 1) := by omega
  refine relx_pre (relx_pre h hb ho (by omega) (by omega) ?_) hb ho (by omega) (by omega) ?_
  · rw [e1, e2]
    exact qEnd_0 S _
  · rw [e1, e2]
    exact qEnd_1 S _
