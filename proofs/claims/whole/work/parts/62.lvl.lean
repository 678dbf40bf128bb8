/-! ways are shorter than the town is large -/
theorem lvl {S : Nat → Int} {O : Nat → Bool} {a : Nat} {D : Nat → Int} (wv : WV S) (ha : (a : Int) < S 0) (d : isRow S O a D) : ∀ (k : Nat) (x : Int), wkO S O a k x → D x.toNat = k → ∀ i : Nat, i ≤ k → ∃ q : Nat, (q : Int) < S 0 ∧ D q = i := by
  intro k
  induction k with
  | zero =>
    intro x hx _ i hi
    exact ⟨a, ha, by rw [d.1]; omega⟩
  | succ k ih =>
    intro x hx hD i hi
    obtain ⟨b, m, hb, ho, hm, he, h0⟩ := hx
    have z := wv.1 b hb
    have le := row_le d k m hm
    have y := d.2.2 b hb ho
    have hxr : x < S 0 ∧ D x.toNat ≤ D m.toNat + 1 := by
      rcases qEnd_cases he h0 with ⟨e1, e2⟩ | ⟨e1, e2⟩
      · rw [e1, e2] at y
        exact ⟨by omega, y.1⟩
      · rw [e1, e2] at y
        exact ⟨by omega, y.2⟩
    by_cases h : i = k + 1
    · exact ⟨x.toNat, by omega, by rw [hD, h]⟩
    · exact ih m hm (by omega) i (by omega)
theorem row_lt {S : Nat → Int} {O : Nat → Bool} {a : Nat} {D : Nat → Int} (w0 : 0 ≤ S 0) (wv : WV S) (ha : (a : Int) < S 0) (d : isRow S O a D) (r : Nat) (hr : (r : Int) < S 0) (h : D r < 99) : D r < S 0 := by
  have b := (d.2.1 r hr).1
  have wk := (d.2.1 r hr).2 h
  have L := lvl wv ha d (D r).toNat r wk (by rw [Int.toNat_natCast]; omega)
  have c : ∀ j : Nat, j ≤ (D r).toNat → (j : Int) < sumU (fun q => if D q ≤ (j : Int) then 1 else 0) (S 0).toNat 0 := by
    intro j
    induction j with
    | zero =>
      intro _
      have h1 := sumU_lt (fun _ => 0) (fun q => if D q ≤ ((0 : Nat) : Int) then 1 else 0) (S 0).toNat 0 a (fun q _ _ => by
        show (0 : Int) ≤ (if D q ≤ ((0 : Nat) : Int) then (1 : Int) else 0)
        split <;> omega) (by omega) (by omega) (by
        show (0 : Int) < (if D a ≤ ((0 : Nat) : Int) then (1 : Int) else 0)
        rw [if_pos (by rw [d.1]; omega)]
        omega)
      rw [sumU_0] at h1
      exact h1
    | succ j ih =>
      intro hj
      have h1 := ih (by omega)
      obtain ⟨q, q0, hq⟩ := L (j + 1) hj
      have h2 := sumU_lt (fun q => if D q ≤ (j : Int) then 1 else 0) (fun q => if D q ≤ ((j + 1 : Nat) : Int) then 1 else 0) (S 0).toNat 0 q (fun r _ _ => by
        show (if D r ≤ (j : Int) then (1 : Int) else 0) ≤ (if D r ≤ ((j + 1 : Nat) : Int) then (1 : Int) else 0)
        split <;> split <;> omega) (by omega) (by omega) (by
        show (if D q ≤ (j : Int) then (1 : Int) else 0) < (if D q ≤ ((j + 1 : Nat) : Int) then (1 : Int) else 0)
        rw [if_neg (by omega), if_pos (by omega)]
        omega)
      omega
  have h1 := c (D r).toNat (Nat.le_refl _)
  have h2 := sumU_mono (fun q => if D q ≤ ((D r).toNat : Int) then 1 else 0) (fun _ => 1) (S 0).toNat 0 (fun q _ _ => by
    show (if D q ≤ ((D r).toNat : Int) then (1 : Int) else 0) ≤ 1
    split <;> omega)
  rw [sumU_1] at h2
  omega
/-- a row in the making that is no longer than every short walk is the row itself -/
theorem pre_row {S : Nat → Int} {O : Nat → Bool} {a : Nat} {D E : Nat → Int} (w0 : 0 ≤ S 0) (wv : WV S) (ha : (a : Int) < S 0) (d : isRow S O a D) (e : isPre S O a E) (h : ∀ (k : Nat) (x : Int), (k : Int) < S 0 → wkO S O a k x → E x.toNat ≤ k) (r : Nat) (hr : (r : Int) < S 0) : E r = D r := by
  have e1 := e.2 r hr
  have d1 := d.2.1 r hr
  have le : D r ≤ E r := by
    by_cases z : E r < 99
    · have q := row_le d _ _ (e1.2 z)
      rw [Int.toNat_natCast] at q
      omega
    · omega
  by_cases z : D r < 99
  · have lt := row_lt w0 wv ha d r hr z
    have q := h (D r).toNat r (by omega) (d1.2 z)
    rw [Int.toNat_natCast] at q
    omega
  · omega
