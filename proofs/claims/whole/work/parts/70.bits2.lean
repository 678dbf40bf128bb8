/-! counting bits -/
def bcz (x : Int) : Int :=
  let a := w32 (x - iandZ (iushrZ x 1) 1431655765)
  let b := w32 (iandZ a 858993459 + iandZ (iushrZ a 2) 858993459)
  let c := iandZ (w32 (b + iushrZ b 4)) 252645135
  let d := w32 (c + iushrZ c 8)
  iandZ (w32 (d + iushrZ d 16)) 63
theorem bcz_ok : ∀ m : Nat, m < 512 → bcz (m : Int) = cnt m 9 := by decide +kernel
theorem J_bitCount {m : Nat} (h : m < 512) (u : hS) : m_J6_bitCount_0f7a4 (m : Int) u = some (cnt m 9, u) := by
  simp only [m_J6_bitCount_0f7a4, hgI_k, hgR_k, hpI_k, hpR_k, hpZ_k, haI_k, haR_k, hsI_k, hsZ_k, hlen_k, hlet_p, hret_p, hretZ_0, hretZ_1, hif_p, okk_setV, okk_setF, nV, nF, fV, vF]
  rw [← bcz_ok m h]
  rfl
theorem bits_step : ∀ m : Nat, m < 512 → m ≠ 0 → iandZ (m : Int) (w32 ((m : Int) - 1)) = ((m &&& (m - 1) : Nat) : Int) ∧ cnt (m &&& (m - 1)) 9 = cnt m 9 - 1 ∧ m &&& (m - 1) < 512 := by decide +kernel
theorem cnt_0 : cnt 0 9 = 0 := by decide +kernel
theorem cnt_ge (m N : Nat) : 0 ≤ cnt m N := by
  have h := sumU_mono (fun _ => 0) (fun r => if m.testBit r = true then 1 else 0) N 0 (fun r _ _ => by
    show (0 : Int) ≤ (if m.testBit r = true then (1 : Int) else 0)
    split <;> omega)
  rw [sumU_0] at h
  exact h
theorem y_bitsL (u : hS) : ∀ (k n m : Nat) (a : Int), k < n → m < 512 → cnt m 9 ≤ k → 0 ≤ a → a ≤ 100 - k → m_X10_bits_L4 n a m u = some (a + cnt m 9, u) := by
  intro k
  induction k with
  | zero =>
    intro n m a hn hm hc h0 h1
    obtain ⟨n, rfl⟩ : ∃ k, n = k + 1 := ⟨n - 1, by omega⟩
    have m0 : m = 0 := by
      by_cases e : m = 0
      · exact e
      · have z := bits_step m hm e
        have y := cnt_ge (m &&& (m - 1)) 9
        omega
    subst m0
    simp only [m_X10_bits_L4, hgI_k, hgR_k, hpI_k, hpR_k, hpZ_k, haI_k, haR_k, hsI_k, hsZ_k, hlen_k, hlet_p, hret_p, hretZ_0, hretZ_1, hif_p, okk_setV, okk_setF, nV, nF, fV, vF]
    rw [if_pos (by decide), cnt_0, Int.add_zero]
  | succ k ih =>
    intro n m a hn hm hc h0 h1
    obtain ⟨n, rfl⟩ : ∃ k, n = k + 1 := ⟨n - 1, by omega⟩
    by_cases e : m = 0
    · subst e
      simp only [m_X10_bits_L4, hgI_k, hgR_k, hpI_k, hpR_k, hpZ_k, haI_k, haR_k, hsI_k, hsZ_k, hlen_k, hlet_p, hret_p, hretZ_0, hretZ_1, hif_p, okk_setV, okk_setF, nV, nF, fV, vF]
      rw [if_pos (by decide), cnt_0, Int.add_zero]
    · have z := bits_step m hm e
      have w1 : w32 (a + 1) = a + 1 := w32_id ⟨by omega, by omega⟩
      simp only [m_X10_bits_L4, hgI_k, hgR_k, hpI_k, hpR_k, hpZ_k, haI_k, haR_k, hsI_k, hsZ_k, hlen_k, hlet_p, hret_p, hretZ_0, hretZ_1, hif_p, okk_setV, okk_setF, nV, nF, fV, vF, z.1, w1]
      rw [if_neg (by omega), ih n _ (a + 1) (by omega) z.2.2 (by omega) (by omega) (by omega), z.2.1]
      congr 2
      omega
theorem y_bits {m : Nat} (h : m < 512) (u : hS) : m_X10_bits (m : Int) u = some (cnt m 9, u) := by
  have l := y_bitsL u 9 1000000000 m 0 (by omega) h (cnt_le m 9) (by omega) (by omega)
  rw [Int.zero_add] at l
  simp only [m_X10_bits, hgI_k, hgR_k, hpI_k, hpR_k, hpZ_k, haI_k, haR_k, hsI_k, hsZ_k, hlen_k, hlet_p, hret_p, hretZ_0, hretZ_1, hif_p, okk_setV, okk_setF, nV, nF, fV, vF]
  exact l
theorem sumU_cg (f g : Nat → Int) : ∀ k i, (∀ r, i ≤ r → r < i + k → f r = g r) → sumU f k i = sumU g k i := by
  intro k
  induction k with
  | zero =>
    intro i h
    rfl
  | succ k ih =>
    intro i h
    rw [sumU_s, sumU_s, h i (by omega) (by omega), ih (i + 1) (fun r h1 h2 => h r (by omega) (by omega))]
theorem cnt_xor {n o : Nat} (h : ∀ r, o.testBit r = true → n.testBit r = true) : cnt (n ^^^ o) 9 = cnt n 9 - cnt o 9 := by
  have e := sumU_add (fun r => if (n ^^^ o).testBit r = true then 1 else 0) (fun r => if o.testBit r = true then 1 else 0) 9 0
  have c := sumU_cg (fun r => (if (n ^^^ o).testBit r = true then (1 : Int) else 0) + (if o.testBit r = true then (1 : Int) else 0)) (fun r => if n.testBit r = true then 1 else 0) 9 0 (fun r _ _ => by
    show (if (n ^^^ o).testBit r = true then (1 : Int) else 0) + (if o.testBit r = true then (1 : Int) else 0) = (if n.testBit r = true then (1 : Int) else 0)
    rw [Nat.testBit_xor]
    have z := h r
    cases hn : n.testBit r <;> cases ho : o.testBit r <;> simp_all)
  unfold cnt
  omega
theorem andn_xor {n o : Nat} (h : ∀ r, o.testBit r = true → n.testBit r = true) (hn : n < 512) (ho : o < 512) : iandZ (n : Int) (ixorZ (o : Int) (-1)) = ((n ^^^ o : Nat) : Int) := by
  have hc : n ^^^ o < 512 := Nat.xor_lt_two_pow (n := 9) hn ho
  have e : (Int32.ofInt (n : Int) &&& Int32.ofInt (ixorZ (o : Int) (-1))).toBitVec = BitVec.ofNat 32 (n ^^^ o) := by
    have ex : (Int32.ofInt (ixorZ (o : Int) (-1))).toBitVec = BitVec.ofNat 32 o ^^^ BitVec.allOnes 32 := by
      have q : Int32.ofInt (ixorZ (o : Int) (-1)) = Int32.ofInt (o : Int) ^^^ Int32.ofInt (-1) := Int32.ofInt_toInt _
      rw [q, Int32.toBitVec_xor, bvI]
      rfl
    rw [Int32.toBitVec_and, bvI, ex]
    apply BitVec.eq_of_getLsbD_eq
    intro i hi
    simp only [BitVec.getLsbD_and, BitVec.getLsbD_xor, BitVec.getLsbD_ofNat, BitVec.getLsbD_allOnes, Nat.testBit_xor, hi, decide_true, Bool.true_and]
    have z := h i
    cases h1 : n.testBit i <;> cases h2 : o.testBit i <;> simp_all
  show (Int32.ofInt (n : Int) &&& Int32.ofInt (ixorZ (o : Int) (-1))).toBitVec.toInt = _
  rw [e]
  exact bvT (by omega)
theorem cnt_eq {n o : Nat} (h : ∀ r, o.testBit r = true → n.testBit r = true) (hn : n < 512) : 0 < cnt n 9 - cnt o 9 ↔ n ≠ o := by
  constructor
  · intro z e
    rw [e] at z
    omega
  · intro z
    have q : ∃ r, n.testBit r = true ∧ ¬ o.testBit r = true := by
      apply Classical.byContradiction
      intro no
      refine z (tb_ext (fun r hr => ?_) h)
      apply Classical.byContradiction
      intro y
      exact no ⟨r, hr, y⟩
    obtain ⟨r, h1, h2⟩ := q
    have r9 : r < 9 := by
      apply Classical.byContradiction
      intro y
      have t := Nat.testBit_lt_two_pow (x := n) (i := r) (Nat.lt_of_lt_of_le hn (Nat.pow_le_pow_right (n := 2) (by decide) (show 9 ≤ r by omega)))
      rw [t] at h1
      exact absurd h1 (by decide)
    have l := cnt_lt h r9 h2 h1
    omega
