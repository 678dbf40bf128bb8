/-! a walk back -/
theorem wkO_pre {S : Nat → Int} {O : Nat → Bool} {a x : Int} {b : Nat} (hb : (b : Int) < S 2) (ho : O b = true) (he : qEnd S (94 + 2 * b) a = x) (h0 : 0 ≤ x) : ∀ (k : Nat) (r : Int), wkO S O x k r → wkO S O a (k + 1) r := by
  intro k
  induction k with
  | zero =>
    intro r hr
    have e : r = x := hr
    rw [e]
    exact ⟨b, a, hb, ho, rfl, he, h0⟩
  | succ k ih =>
    intro r hr
    obtain ⟨c, m, hc, hoc, hm, hec, h0c⟩ := hr
    exact ⟨c, m, hc, hoc, ih m hm, hec, h0c⟩
theorem qEnd_back {S : Nat → Int} {a : Nat} {m r : Int} (h : qEnd S a m = r) (h0 : 0 ≤ r) : qEnd S a r = m := by
  rcases qEnd_cases h h0 with ⟨e1, e2⟩ | ⟨e1, e2⟩
  · rw [← e2, ← e1]
    exact qEnd_1 S a
  · rw [← e2, ← e1]
    exact qEnd_0 S a
theorem wkO_back {S : Nat → Int} {O : Nat → Bool} (wv : WV S) {a : Int} : ∀ (k : Nat) (r : Int), wkO S O a k r → wkO S O r k a := by
  intro k
  induction k with
  | zero =>
    intro r hr
    exact Eq.symm hr
  | succ k ih =>
    intro r hr
    obtain ⟨b, m, hb, ho, hm, he, h0⟩ := hr
    have z := wv.1 b hb
    have m0 : 0 ≤ m := by
      rcases qEnd_cases he h0 with ⟨e1, e2⟩ | ⟨e1, e2⟩ <;> omega
    exact wkO_pre hb ho (qEnd_back he h0) m0 k a (ih m hm)
/-- ways there and back are as long -/
theorem row_sym {S : Nat → Int} {O : Nat → Bool} (wv : WV S) {a c : Nat} {D E : Nat → Int} (d : isRow S O a D) (e : isRow S O c E) (ha : (a : Int) < S 0) (hc : (c : Int) < S 0) : D c = E a := by
  have d1 := d.2.1 c hc
  have e1 := e.2.1 a ha
  have le1 : E a ≤ D c := by
    by_cases z : D c < 99
    · have q := row_le e _ _ (wkO_back wv _ _ (d1.2 z))
      rw [Int.toNat_natCast] at q
      omega
    · omega
  have le2 : D c ≤ E a := by
    by_cases z : E a < 99
    · have q := row_le d _ _ (wkO_back wv _ _ (e1.2 z))
      rw [Int.toNat_natCast] at q
      omega
    · omega
  omega
