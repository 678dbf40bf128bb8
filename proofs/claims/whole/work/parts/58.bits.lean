/-! bits of small numbers -/
theorem bvI {a : Nat} : (Int32.ofInt (a : Int)).toBitVec = BitVec.ofNat 32 a := by
  rw [Int32.toBitVec_ofInt]
  exact BitVec.ofInt_natCast 32 a
theorem bvT {c : Nat} (hc : c < 2147483648) : (BitVec.ofNat 32 c).toInt = (c : Int) := by
  rw [BitVec.toInt_eq_toNat_bmod, BitVec.toNat_ofNat, Nat.mod_eq_of_lt (by omega)]
  exact w32_id ⟨by omega, by omega⟩
theorem iorZ_n {a b : Nat} (ha : a < 2147483648) (hb : b < 2147483648) : iorZ a b = ((a ||| b : Nat) : Int) := by
  have hc : a ||| b < 2147483648 := Nat.or_lt_two_pow (n := 31) ha hb
  show (Int32.ofInt a ||| Int32.ofInt b).toBitVec.toInt = _
  rw [Int32.toBitVec_or, bvI, bvI, ← BitVec.ofNat_or]
  exact bvT hc
theorem iandZ_n {a b : Nat} (ha : a < 2147483648) : iandZ a b = ((a &&& b : Nat) : Int) := by
  have hc : a &&& b < 2147483648 := Nat.lt_of_le_of_lt Nat.and_le_left ha
  show (Int32.ofInt a &&& Int32.ofInt b).toBitVec.toInt = _
  rw [Int32.toBitVec_and, bvI, bvI, ← BitVec.ofNat_and]
  exact bvT hc
theorem ishl_1 : ∀ r : Nat, r < 9 → ishlZ 1 (r : Int) = ((2 ^ r : Nat) : Int) := by
  intro r hr
  have h : r = 0 ∨ r = 1 ∨ r = 2 ∨ r = 3 ∨ r = 4 ∨ r = 5 ∨ r = 6 ∨ r = 7 ∨ r = 8 := by omega
  rcases h with rfl | rfl | rfl | rfl | rfl | rfl | rfl | rfl | rfl <;> rfl
theorem p2lt {i : Nat} (h : i < 9) : 2 ^ i < 512 := Nat.pow_lt_pow_right (a := 2) (m := i) (n := 9) (by decide) h
theorem tb_or2 (m x r : Nat) : (m ||| 2 ^ x).testBit r = (m.testBit r || decide (x = r)) := by
  rw [Nat.testBit_or, Nat.testBit_two_pow]
/-- a fold of bits is the number with those bits -/
theorem accN_bits (P : Nat → Prop) [DecidablePred P] : ∀ (k i m : Nat), i + k ≤ 9 → m < 512 → ∃ M : Nat, accN (fun r a => iorZ a (if P r then ishlZ 1 r else 0)) k i (m : Int) = (M : Int) ∧ M < 512 ∧ ∀ r, M.testBit r = (m.testBit r || decide (i ≤ r ∧ r < i + k ∧ P r)) := by
  intro k
  induction k with
  | zero =>
    intro i m h hm
    refine ⟨m, rfl, hm, fun r => ?_⟩
    rw [decide_eq_false (by omega), Bool.or_false]
  | succ k ih =>
    intro i m h hm
    by_cases hp : P i
    · have hM : m ||| 2 ^ i < 512 := Nat.or_lt_two_pow (n := 9) hm (p2lt (by omega))
      obtain ⟨M, e1, e2, e3⟩ := ih (i + 1) (m ||| 2 ^ i) (by omega) hM
      refine ⟨M, ?_, e2, fun r => ?_⟩
      · rw [accN_s, if_pos hp, ishl_1 i (by omega), iorZ_n (a := m) (b := 2 ^ i) (by omega) (Nat.lt_trans (p2lt (by omega)) (by decide))]
        exact e1
      · rw [e3, tb_or2, Bool.or_assoc]
        congr 1
        by_cases e : i = r
        · subst e
          rw [decide_eq_true rfl, Bool.true_or, decide_eq_true ⟨by omega, by omega, hp⟩]
        · rw [decide_eq_false e, Bool.false_or]
          exact decide_eq_decide.mpr ⟨fun z => ⟨by omega, by omega, z.2.2⟩, fun z => ⟨by omega, by omega, z.2.2⟩⟩
    · obtain ⟨M, e1, e2, e3⟩ := ih (i + 1) m (by omega) hm
      refine ⟨M, ?_, e2, fun r => ?_⟩
      · rw [accN_s, if_neg hp, iorZ_0 ⟨by omega, by omega⟩]
        exact e1
      · rw [e3]
        congr 1
        refine decide_eq_decide.mpr ⟨fun z => ⟨by omega, by omega, z.2.2⟩, fun z => ?_⟩
        have : i ≠ r := fun e => hp (e ▸ z.2.2)
        exact ⟨by omega, by omega, z.2.2⟩
