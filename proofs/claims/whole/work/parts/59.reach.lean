/-! the class's reach -/
def cnt (m N : Nat) : Int := sumU (fun r => if m.testBit r = true then 1 else 0) N 0
theorem sumU_1 : ∀ k i, sumU (fun _ => 1) k i = k := by
  intro k
  induction k with
  | zero =>
    intro i
    rfl
  | succ k ih =>
    intro i
    rw [sumU_s, ih]
    omega
theorem cnt_le (m N : Nat) : cnt m N ≤ N := by
  have h := sumU_mono (fun r => if m.testBit r = true then 1 else 0) (fun _ => 1) N 0 (fun r _ _ => by
    show (if m.testBit r = true then (1 : Int) else 0) ≤ 1
    split <;> omega)
  rw [sumU_1] at h
  exact h
theorem cnt_full {m N : Nat} (h : (N : Int) ≤ cnt m N) (r : Nat) (hr : r < N) : m.testBit r = true := by
  by_cases e : m.testBit r = true
  · exact e
  · have h1 := sumU_lt (fun r => if m.testBit r = true then 1 else 0) (fun _ => 1) N 0 r (fun r _ _ => by
      show (if m.testBit r = true then (1 : Int) else 0) ≤ 1
      split <;> omega) (by omega) (by omega) (by
      show (if m.testBit r = true then (1 : Int) else 0) < 1
      rw [if_neg e]
      omega)
    rw [sumU_1] at h1
    unfold cnt at h
    omega
theorem cnt_mono {m m' N : Nat} (h : ∀ r, m.testBit r = true → m'.testBit r = true) : cnt m N ≤ cnt m' N := by
  refine sumU_mono _ _ N 0 (fun r _ _ => ?_)
  show (if m.testBit r = true then (1 : Int) else 0) ≤ (if m'.testBit r = true then (1 : Int) else 0)
  by_cases e : m.testBit r = true
  · rw [if_pos e, if_pos (h r e)]
    omega
  · rw [if_neg e]
    split <;> omega
theorem cnt_lt {m m' N x : Nat} (h : ∀ r, m.testBit r = true → m'.testBit r = true) (hx : x < N) (h1 : ¬ m.testBit x = true) (h2 : m'.testBit x = true) : cnt m N < cnt m' N := by
  refine sumU_lt _ _ N 0 x (fun r _ _ => ?_) (by omega) (by omega) ?_
  · show (if m.testBit r = true then (1 : Int) else 0) ≤ (if m'.testBit r = true then (1 : Int) else 0)
    by_cases e : m.testBit r = true
    · rw [if_pos e, if_pos (h r e)]
      omega
    · rw [if_neg e]
      split <;> omega
  · show (if m.testBit x = true then (1 : Int) else 0) < (if m'.testBit x = true then (1 : Int) else 0)
    rw [if_neg h1, if_pos h2]
    omega
/-- what a set in the making holds: the start, and only what can be reached -/
def isSet (S : Nat → Int) (O : Nat → Bool) (a m : Nat) : Prop := m < 512 ∧ m.testBit a = true ∧ ∀ r, m.testBit r = true → (r : Int) < S 0 ∧ ∃ k : Nat, (k : Int) < cnt m (S 0).toNat ∧ wkO S O a k r
def isClo (S : Nat → Int) (O : Nat → Bool) (m : Nat) : Prop := ∀ b : Nat, (b : Int) < S 2 → O b = true → (m.testBit (S (94 + 2 * b)).toNat = m.testBit (S (94 + 2 * b + 1)).toNat)
theorem set_row {S : Nat → Int} {O : Nat → Bool} {a m : Nat} {D : Nat → Int} (w0 : 0 ≤ S 0 ∧ S 0 ≤ 8) (h : isSet S O a m) (c : isClo S O m) (d : isRow S O a D) (r : Nat) (hr : (r : Int) < S 0) : m.testBit r = true ↔ D r < 99 := by
  have clo : ∀ (k : Nat) (x : Int), wkO S O a k x → m.testBit x.toNat = true := by
    intro k
    induction k with
    | zero =>
      intro x hx
      have e : x = a := hx
      rw [e, Int.toNat_natCast]
      exact h.2.1
    | succ k ih =>
      intro x hx
      obtain ⟨b, y, hb, ho, hy, he, h0⟩ := hx
      have z := ih y hy
      have w := c b hb ho
      rcases qEnd_cases he h0 with ⟨e1, e2⟩ | ⟨e1, e2⟩
      · rw [e1, e2] at w
        rw [← w]
        exact z
      · rw [e1, e2] at w
        rw [w]
        exact z
  constructor
  · intro hb
    obtain ⟨_, k, hc, hk⟩ := h.2.2 r hb
    have z := row_le d k r hk
    have q := cnt_le m (S 0).toNat
    rw [Int.toNat_natCast] at z
    omega
  · intro hl
    have z := clo _ _ ((d.2.1 r hr).2 hl)
    rw [Int.toNat_natCast] at z
    exact z
theorem tb_add (m x y r : Nat) : (m ||| (2 ^ x ||| 2 ^ y)).testBit r = (m.testBit r || (decide (x = r) || decide (y = r))) := by
  rw [Nat.testBit_or, Nat.testBit_or, Nat.testBit_two_pow, Nat.testBit_two_pow]
theorem set_add {S : Nat → Int} {O : Nat → Bool} {a m : Nat} (w0 : 0 ≤ S 0 ∧ S 0 ≤ 8) (h : isSet S O a m) {b x y : Nat} (hb : (b : Int) < S 2) (ho : O b = true) (hx : S (94 + 2 * b) = (x : Int)) (hy : S (94 + 2 * b + 1) = (y : Int)) (x0 : (x : Int) < S 0) (y0 : (y : Int) < S 0) (hm : m.testBit x = true ∨ m.testBit y = true) : isSet S O a (m ||| (2 ^ x ||| 2 ^ y)) := by
  have sub : ∀ r, m.testBit r = true → (m ||| (2 ^ x ||| 2 ^ y)).testBit r = true := fun r hr => by rw [tb_add, hr, Bool.true_or]
  have inx : (m ||| (2 ^ x ||| 2 ^ y)).testBit x = true := by rw [tb_add, decide_eq_true rfl, Bool.true_or, Bool.or_true]
  have iny : (m ||| (2 ^ x ||| 2 ^ y)).testBit y = true := by rw [tb_add, decide_eq_true (show y = y from rfl), Bool.or_true, Bool.or_true]
  have cm := cnt_mono (N := (S 0).toNat) sub
  refine ⟨Nat.or_lt_two_pow (n := 9) h.1 (Nat.or_lt_two_pow (n := 9) (p2lt (by omega)) (p2lt (by omega))), sub a h.2.1, fun r hr => ?_⟩
  by_cases e : m.testBit r = true
  · obtain ⟨q1, k, q2, q3⟩ := h.2.2 r e
    exact ⟨q1, k, by omega, q3⟩
  · have hxy : r = x ∨ r = y := by
      rw [tb_add] at hr
      by_cases e1 : x = r
      · exact Or.inl e1.symm
      · by_cases e2 : y = r
        · exact Or.inr e2.symm
        · rw [decide_eq_false e1, decide_eq_false e2] at hr
          simp only [Bool.or_false] at hr
          exact absurd hr e
    rcases hxy with rfl | rfl
    · have hy' : m.testBit y = true := by
        rcases hm with z | z
        · exact absurd z e
        · exact z
      obtain ⟨q1, k, q2, q3⟩ := h.2.2 y hy'
      have lt := cnt_lt (N := (S 0).toNat) sub (by omega) e inx
      refine ⟨x0, k + 1, by omega, b, y, hb, ho, q3, ?_, by omega⟩
      rw [← hy, ← hx]
      exact qEnd_1 S _
    · have hx' : m.testBit x = true := by
        rcases hm with z | z
        · exact z
        · exact absurd z e
      obtain ⟨q1, k, q2, q3⟩ := h.2.2 x hx'
      have lt := cnt_lt (N := (S 0).toNat) sub (by omega) e iny
      refine ⟨y0, k + 1, by omega, b, x, hb, ho, q3, ?_, by omega⟩
      rw [← hy, ← hx]
      exact qEnd_0 S _
