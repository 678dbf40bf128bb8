/-! the day's pay -/
def gsum (S : Nat → Int) (p : Nat) : Nat → Nat → Int
  | 0, _ => 0
  | k + 1, i => (if S (128 + 4 * i) = (p : Int) ∧ S (129 + 4 * i) = S (10 + 3 * p) ∧ S (130 + 4 * i) = S 6 then S (131 + 4 * i) else 0) + gsum S p k (i + 1)
theorem gsum_s (S : Nat → Int) (p k i : Nat) : gsum S p (k + 1) i = (if S (128 + 4 * i) = (p : Int) ∧ S (129 + 4 * i) = S (10 + 3 * p) ∧ S (130 + 4 * i) = S 6 then S (131 + 4 * i) else 0) + gsum S p k (i + 1) := rfl
def WW (S : Nat → Int) : Prop := ∀ w : Nat, (w : Int) < S 5 → 0 ≤ S (131 + 4 * w) ∧ S (131 + 4 * w) ≤ 99
theorem WV.ww {S : Nat → Int} (v : WV S) : WW S := fun w h => (v.2.2.2.2 w h).2.2.2
theorem gsum_in {S : Nat → Int} (wv : WW S) (p : Nat) : ∀ k i : Nat, ((i + k : Nat) : Int) ≤ S 5 → 0 ≤ gsum S p k i ∧ gsum S p k i ≤ 99 * k := by
  intro k
  induction k with
  | zero =>
    intro i h
    exact ⟨Int.le_refl _, by unfold gsum; omega⟩
  | succ k ih =>
    intro i h
    have z := ih (i + 1) (by omega)
    have w := wv i (by omega)
    rw [gsum_s]
    split <;> omega
theorem gsum_sup {S : Nat → Int} {q : Nat} (hq : q < 4) (x : Int) (p : Nat) : ∀ k i : Nat, gsum (sup S (12 + 3 * q) x) p k i = gsum S p k i := by
  intro k
  induction k with
  | zero =>
    intro i
    rfl
  | succ k ih =>
    intro i
    rw [gsum_s, gsum_s, ih, sup_n (by omega), sup_n (by omega), sup_n (by omega), sup_n (by omega), sup_n (by omega), sup_n (by omega)]
def sumU (G : Nat → Int) : Nat → Nat → Int
  | 0, _ => 0
  | k + 1, i => G i + sumU G k (i + 1)
theorem sumU_s (G : Nat → Int) (k i : Nat) : sumU G (k + 1) i = G i + sumU G k (i + 1) := rfl
theorem sumU_add (f g : Nat → Int) : ∀ k i, sumU (fun p => f p + g p) k i = sumU f k i + sumU g k i := by
  intro k
  induction k with
  | zero =>
    intro i
    rfl
  | succ k ih =>
    intro i
    rw [sumU_s, sumU_s, sumU_s, ih]
    omega
theorem sumU_0 : ∀ k i, sumU (fun _ => 0) k i = 0 := by
  intro k
  induction k with
  | zero =>
    intro i
    rfl
  | succ k ih =>
    intro i
    rw [sumU_s, ih]
    rfl
theorem sumU_one (x v : Int) (Y : Nat → Prop) [DecidablePred Y] : ∀ k i : Nat, sumU (fun p => if x = (p : Int) ∧ Y p then v else 0) k i = if ((i : Int) ≤ x ∧ x < ((i + k : Nat) : Int)) ∧ Y x.toNat then v else 0 := by
  intro k
  induction k with
  | zero =>
    intro i
    rw [if_neg (by omega)]
    rfl
  | succ k ih =>
    intro i
    rw [sumU_s, ih]
    by_cases h : x = (i : Int)
    · subst h
      rw [Int.toNat_natCast, if_neg (show ¬ ((((i + 1 : Nat) : Int) ≤ (i : Int) ∧ (i : Int) < ((i + 1 + k : Nat) : Int)) ∧ Y i) by omega)]
      by_cases hy : Y i
      · rw [if_pos ⟨rfl, hy⟩, if_pos ⟨by omega, hy⟩]
        omega
      · rw [if_neg (fun z => hy z.2), if_neg (fun z => hy z.2)]
        rfl
    · rw [if_neg (fun z => h z.1)]
      by_cases hy : Y x.toNat
      · by_cases hr : (i : Int) ≤ x ∧ x < ((i + (k + 1) : Nat) : Int)
        · rw [if_pos ⟨by omega, hy⟩, if_pos ⟨hr, hy⟩]
          omega
        · rw [if_neg (fun z => hr (by have := z.1; omega)), if_neg (fun z => hr z.1)]
          rfl
      · rw [if_neg (fun z => hy z.2), if_neg (fun z => hy z.2)]
        rfl
theorem y_payL {u : hS} (hs : shp u) (ws : WS (hV u 230)) (wv : WW (hV u 230)) (p : Nat) : ∀ (k n i : Nat) (a : Int), k < n → hV u 230 5 = ((i + k : Nat) : Int) → 0 ≤ a → a ≤ 99 * i → m_X10_payAt_L6 n 220 p (hV u 230 (10 + 3 * p)) (hV u 230 6) a i u = some (a + gsum (hV u 230) p k i, u) := by
  have w5 := ws.2.2.2.2.2.1
  intro k
  induction k with
  | zero =>
    intro n i a hn hv h0 h1
    obtain ⟨m, rfl⟩ : ∃ m, n = m + 1 := ⟨n - 1, by omega⟩
    simp only [m_X10_payAt_L6, hgI_k, hgR_k, hpI_k, hpR_k, hpZ_k, haI_k, haR_k, hsI_k, hsZ_k, hlen_k, hlet_e, hret_e, hretZ_0, hretZ_1, hif_e, okk_setV, okk_setF, nV, nF, fV, vF, haI_5, kk_220 hs, kk_230 hs, rf_220_20 hs, ln_230 hs, lt_c 5 160 rfl]
    rw [if_pos (by omega)]
    unfold gsum
    rw [Int.add_zero]
  | succ k ih =>
    intro n i a hn hv h0 h1
    obtain ⟨m, rfl⟩ : ∃ m, n = m + 1 := ⟨n - 1, by omega⟩
    have w := wv i (by omega)
    have hi : i < 8 := by omega
    have i4 : i < 1000000 := by omega
    have i3 : 128 + 4 * i < 1000000 := by omega
    have k0 : 128 + 4 * i < 160 := by omega
    have k1 : 128 + 4 * i + 1 < 160 := by omega
    have k2 : 128 + 4 * i + 2 < 160 := by omega
    have k3 : 128 + 4 * i + 3 < 160 := by omega
    have e1 : 128 + 4 * i + 1 = 129 + 4 * i := by omega
    have e2 : 128 + 4 * i + 2 = 130 + 4 * i := by omega
    have e3 : 128 + 4 * i + 3 = 131 + 4 * i := by omega
    have w1 : w32 (a + 0) = a := by rw [Int.add_zero]; exact w32_id ⟨by omega, by omega⟩
    have w2 : w32 (a + hV u 230 (131 + 4 * i)) = a + hV u 230 (131 + 4 * i) := w32_id ⟨by omega, by omega⟩
    have j1 := ih m (i + 1) a (by omega) (by omega) h0 (by omega)
    have j2 := ih m (i + 1) (a + hV u 230 (131 + 4 * i)) (by omega) (by omega) (by omega) (by omega)
    simp only [m_X10_payAt_L6, m_X10_payAt_L78, m_X10_payAt_L79, hgI_k, hgR_k, hpI_k, hpR_k, hpZ_k, haI_k, haR_k, hsI_k, hsZ_k, hlen_k, hlet_e, hret_e, hretZ_0, hretZ_1, hif_e, okk_setV, okk_setF, nV, nF, fV, vF, haI_5, haI_n, ix_128 hi, ix_s i3, ix_2 i3, ix_3 i3, ix_s i4, kk_220 hs, kk_230 hs, rf_220_20 hs, ln_230 hs, lt_c 5 160 rfl, k0, k1, k2, k3]
    simp only [e1, e2, e3, w1, w2, j1, j2]
    rw [if_neg (by omega), gsum_s]
    by_cases c1 : hV u 230 (128 + 4 * i) = (p : Int)
    · rw [if_neg (fun z => z c1)]
      by_cases c2 : hV u 230 (129 + 4 * i) = hV u 230 (10 + 3 * p)
      · rw [if_neg (fun z => z c2)]
        by_cases c3 : hV u 230 (130 + 4 * i) = hV u 230 6
        · rw [if_neg (fun z => z c3), if_pos ⟨c1, c2, c3⟩]
          congr 2
          omega
        · rw [if_pos c3, if_neg (fun z => c3 z.2.2), Int.zero_add]
      · rw [if_pos c2, if_neg (fun z => c2 z.2.1), Int.zero_add]
    · rw [if_pos c1, if_neg (fun z => c1 z.1), Int.zero_add]
theorem y_payAt {u : hS} (hs : shp u) (ws : WS (hV u 230)) (wv : WW (hV u 230)) (p : Nat) : m_X10_payAt 220 p (hV u 230 (10 + 3 * p)) (hV u 230 6) u = some (gsum (hV u 230) p (hV u 230 5).toNat 0, u) := by
  have w5 := ws.2.2.2.2.2.1
  have h := y_payL hs ws wv p (hV u 230 5).toNat 1000000000 0 0 (by omega) (by omega) (by omega) (by omega)
  rw [Int.zero_add] at h
  simp only [m_X10_payAt, hlet_e]
  exact h
def payR (G : Nat → Int) : Nat → Nat → (Nat → Int) → Nat → Int
  | 0, _, S => S
  | k + 1, i, S => payR G k (i + 1) (sup S (12 + 3 * i) (S (12 + 3 * i) + G i))
theorem payR_at (G : Nat → Int) : ∀ (k i : Nat) (S : Nat → Int) (p : Nat), i ≤ p → p < i + k → payR G k i S (12 + 3 * p) = S (12 + 3 * p) + G p := by
  have ne : ∀ (k i : Nat) (S : Nat → Int) (p : Nat), p < i → payR G k i S (12 + 3 * p) = S (12 + 3 * p) := by
    intro k
    induction k with
    | zero =>
      intro i S p h
      rfl
    | succ k ih =>
      intro i S p h
      exact (ih (i + 1) _ p (by omega)).trans (sup_n (by omega))
  intro k
  induction k with
  | zero =>
    intro i S p h1 h2
    omega
  | succ k ih =>
    intro i S p h1 h2
    by_cases h : p = i
    · subst h
      exact (ne k (p + 1) _ p (by omega)).trans sup_s
    · refine (ih (i + 1) _ p (by omega) (by omega)).trans ?_
      rw [sup_n (by omega)]
theorem payR_ne (G : Nat → Int) : ∀ (k i : Nat) (S : Nat → Int) (j : Nat), (∀ p, i ≤ p → p < i + k → j ≠ 12 + 3 * p) → payR G k i S j = S j := by
  intro k
  induction k with
  | zero =>
    intro i S j h
    rfl
  | succ k ih =>
    intro i S j h
    exact (ih (i + 1) _ j (fun p h1 h2 => h p (by omega) (by omega))).trans (sup_n (h i (by omega) (by omega)))
theorem WV_paid {S : Nat → Int} {p : Nat} {x : Int} (hp : p < 4) (w : WS S) (v : WV S) (h : 0 ≤ x ∧ x ≤ 1000 * S 6) : WV (sup S (12 + 3 * p) x) := by
  obtain ⟨v1, v2, v3, v4, v5⟩ := v
  have w2 := w.2.2.1
  have w4 := w.2.2.2.2.1
  refine ⟨fun b hb => ?_, fun b hb => ?_, fun q hq => ?_, fun q b hq hb => ?_, fun k hk => ?_⟩
  · rw [sup_n (by omega)] at hb
    rw [sup_n (by omega), sup_n (by omega), sup_n (by omega)]
    exact v1 b hb
  · rw [sup_n (by omega)] at hb
    rw [sup_n (by omega), sup_n (by omega), sup_n (by omega)]
    exact v2 b hb
  · rw [sup_n (by omega)] at hq
    have z := v3 q hq
    rw [sup_n (j := 11 + 3 * q) (by omega), sup_n (j := 10 + 3 * q) (by omega), sup_n (j := 0) (by omega), sup_n (j := 6) (by omega)]
    by_cases e : q = p
    · subst e
      rw [sup_s]
      exact ⟨z.1, z.2.1, h⟩
    · rw [sup_n (by omega)]
      exact z
  · rw [sup_n (by omega)] at hq hb
    rw [sup_n (by omega), sup_n (by omega), sup_n (by omega)]
    exact v4 q b hq hb
  · rw [sup_n (by omega)] at hk
    rw [sup_n (by omega), sup_n (by omega), sup_n (by omega), sup_n (by omega), sup_n (by omega), sup_n (by omega)]
    exact v5 k hk
