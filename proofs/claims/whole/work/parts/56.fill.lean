/-! the reference's row of ways -/
def chg (D : Nat → Int) (x y : Nat) (c : Int) : Int := if D x + 1 < D y then 1 else c
theorem y_fw0 {u : hS} (hs : shp u) {D : Nat → Int} {b x y : Nat} (hb : b < 9) (hx : hV u 230 (94 + 2 * b) = (x : Int)) (hy : hV u 230 (94 + 2 * b + 1) = (y : Int)) (x8 : x < 8) (y8 : y < 8) (hD : 0 ≤ D x ∧ D x ≤ 99) (K1 : Nat → Int → Int → hM) (K2 : Nat → Int → Int → Int → hM) (n : Nat) (p c : Int) : m_X10_fillsWays_L78 K1 K2 (n + 1) 220 p c b 0 (hput u 232 D) = m_X10_fillsWays_L78 K1 K2 n 220 p (chg D x y c) b 1 (hput u 232 (relx D x y)) := by
  have k0 : 94 + 2 * b < 160 := by omega
  have k1 : 94 + 2 * b + 1 < 160 := by omega
  have j0 : 94 + 2 * b < 1000000 := by omega
  have w0 : w32 (((94 + 2 * b + 1 : Nat) : Int) - 0) = ((94 + 2 * b + 1 : Nat) : Int) := w32_n (by omega) (by omega)
  have w1 : w32 (D x + 1) = D x + 1 := w32_id ⟨by omega, by omega⟩
  simp only [m_X10_fillsWays_L78, m_X10_fillsWays_L160, hgI_k, hgR_k, hpI_k, hpR_k, hpZ_k, haI_k, haR_k, hsI_k, hsZ_k, hlen_k, hlet_e, hret_e, hretZ_0, hretZ_1, hif_e, okk_setV, okk_setF, nV, nF, fV, vF, okk_put, nP, fP, haI_n, hsI_n, ix_94 hb, ix_0 j0, ix_s j0, w0, kk_220 hs, kk_230 hs, kk_232 hs, rf_220_20 hs, rf_220_23 hs, ln_230 hs, ln_232 hs, k0, k1, hV_put_n (show 230 ≠ 232 by decide), hx, hy, x8, y8, hV_put_s, w1, setV_put, show w32 (0 + 1) = 1 from rfl]
  rw [if_neg (by decide)]
  unfold chg relx
  split <;> rfl
theorem y_fw1 {u : hS} (hs : shp u) {D : Nat → Int} {b x y : Nat} (hb : b < 9) (hx : hV u 230 (94 + 2 * b) = (x : Int)) (hy : hV u 230 (94 + 2 * b + 1) = (y : Int)) (x8 : x < 8) (y8 : y < 8) (hD : 0 ≤ D y ∧ D y ≤ 99) (K1 : Nat → Int → Int → hM) (K2 : Nat → Int → Int → Int → hM) (n : Nat) (p c : Int) : m_X10_fillsWays_L78 K1 K2 (n + 1) 220 p c b 1 (hput u 232 D) = m_X10_fillsWays_L78 K1 K2 n 220 p (chg D y x c) b 2 (hput u 232 (relx D y x)) := by
  have k0 : 94 + 2 * b < 160 := by omega
  have k1 : 94 + 2 * b + 1 < 160 := by omega
  have j0 : 94 + 2 * b < 1000000 := by omega
  have w0 : w32 (((94 + 2 * b + 1 : Nat) : Int) - 1) = ((94 + 2 * b : Nat) : Int) := w32_n (by omega) (by omega)
  have w1 : w32 (D y + 1) = D y + 1 := w32_id ⟨by omega, by omega⟩
  simp only [m_X10_fillsWays_L78, m_X10_fillsWays_L160, hgI_k, hgR_k, hpI_k, hpR_k, hpZ_k, haI_k, haR_k, hsI_k, hsZ_k, hlen_k, hlet_e, hret_e, hretZ_0, hretZ_1, hif_e, okk_setV, okk_setF, nV, nF, fV, vF, okk_put, nP, fP, haI_n, hsI_n, ix_94 hb, ix_s j0, w0, kk_220 hs, kk_230 hs, kk_232 hs, rf_220_20 hs, rf_220_23 hs, ln_230 hs, ln_232 hs, k0, k1, hV_put_n (show 230 ≠ 232 by decide), hx, hy, x8, y8, hV_put_s, w1, setV_put, show w32 (1 + 1) = 2 from rfl]
  rw [if_neg (by decide)]
  unfold chg relx
  split <;> rfl
theorem y_fw2 {u : hS} {b : Nat} (hb : b < 9) (K1 : Nat → Int → Int → hM) (K2 : Nat → Int → Int → Int → hM) (n : Nat) (p c : Int) : m_X10_fillsWays_L78 K1 K2 (n + 1) 220 p c b 2 u = K2 220 p c ((b + 1 : Nat) : Int) u := by
  simp only [m_X10_fillsWays_L78, m_X10_fillsWays_L166, hgI_k, hgR_k, hpI_k, hpR_k, hpZ_k, haI_k, haR_k, hsI_k, hsZ_k, hlen_k, hlet_e, hret_e, hretZ_0, hretZ_1, hif_e, okk_setV, okk_setF, nV, nF, fV, vF, ix_s (show b < 1000000 by omega)]
  rw [if_pos (by decide)]
theorem relx_eq {D : Nat → Int} {x y : Nat} {c : Int} (h : chg D x y c = 0) : c = 0 ∧ relx D x y = D ∧ D y ≤ D x + 1 := by
  unfold chg at h
  split at h
  · omega
  · rename_i z
    exact ⟨h, if_neg z, by omega⟩
theorem sumU_mono (f g : Nat → Int) : ∀ k i, (∀ r, i ≤ r → r < i + k → f r ≤ g r) → sumU f k i ≤ sumU g k i := by
  intro k
  induction k with
  | zero =>
    intro i h
    exact Int.le_refl _
  | succ k ih =>
    intro i h
    rw [sumU_s, sumU_s]
    have h1 := h i (by omega) (by omega)
    have h2 := ih (i + 1) (fun r a b => h r (by omega) (by omega))
    omega
theorem sumU_lt (f g : Nat → Int) : ∀ k i y, (∀ r, i ≤ r → r < i + k → f r ≤ g r) → i ≤ y → y < i + k → f y < g y → sumU f k i < sumU g k i := by
  intro k
  induction k with
  | zero =>
    intro i y h h1 h2
    omega
  | succ k ih =>
    intro i y h h1 h2 h3
    rw [sumU_s, sumU_s]
    by_cases e : y = i
    · subst e
      have h4 := sumU_mono f g k (y + 1) (fun r a b => h r (by omega) (by omega))
      omega
    · have h4 := ih (i + 1) y (fun r a b => h r (by omega) (by omega)) (by omega) (by omega) h3
      have h5 := h i (by omega) (by omega)
      omega
theorem relx_lt {D : Nat → Int} {x y : Nat} (N : Nat) (hy : y < N) (h : D x + 1 < D y) : sumU (relx D x y) N 0 < sumU D N 0 := by
  refine sumU_lt _ _ N 0 y (fun r _ _ => relx_le D x y r) (by omega) (by omega) ?_
  unfold relx
  rw [if_pos h, sup_s]
  exact h
theorem relx_sum (D : Nat → Int) (x y N : Nat) : sumU (relx D x y) N 0 ≤ sumU D N 0 := sumU_mono _ _ N 0 (fun r _ _ => relx_le D x y r)
theorem chg_sum {D : Nat → Int} {x y N : Nat} {c : Int} (hy : y < N) (h : chg D x y c ≠ 0) : c ≠ 0 ∨ sumU (relx D x y) N 0 < sumU D N 0 := by
  by_cases z : D x + 1 < D y
  · exact Or.inr (relx_lt N hy z)
  · unfold chg at h
    rw [if_neg z] at h
    exact Or.inl h
theorem y_fwL {u : hS} (hs : shp u) (ws : WS (hV u 230)) (wv : WV (hV u 230)) {O : Nat → Bool} {a : Nat} {p : Int} (hO : (p < 0 ∧ ∀ b, O b = true) ∨ ∃ q : Nat, p = q ∧ q < 4 ∧ ∀ b, O b = decide (1 ≤ w32 (qLeft (hV u 230) q b + hV u 231 b))) (K : Nat → Int → Int → hM) : ∀ (k n i : Nat) (c : Int) (D : Nat → Int), k < n → hV u 230 2 = ((i + k : Nat) : Int) → isPre (hV u 230) O a D → ∃ D' c', m_X10_fillsWays_L46 K n 220 p c i (hput u 232 D) = K 220 p c' (hput u 232 D') ∧ isPre (hV u 230) O a D' ∧ (c' = 0 → c = 0 ∧ D' = D ∧ ∀ b : Nat, i ≤ b → b < i + k → O b = true → D (hV u 230 (94 + 2 * b + 1)).toNat ≤ D (hV u 230 (94 + 2 * b)).toNat + 1 ∧ D (hV u 230 (94 + 2 * b)).toNat ≤ D (hV u 230 (94 + 2 * b + 1)).toNat + 1) ∧ sumU D' (hV u 230 0).toNat 0 ≤ sumU D (hV u 230 0).toNat 0 ∧ (c' ≠ 0 → c ≠ 0 ∨ sumU D' (hV u 230 0).toNat 0 < sumU D (hV u 230 0).toNat 0) := by
  have w0 := ws.1
  have w2 := ws.2.2.1
  intro k
  induction k with
  | zero =>
    intro n i c D hn hv hD
    obtain ⟨m, rfl⟩ : ∃ m, n = m + 1 := ⟨n - 1, by omega⟩
    refine ⟨D, c, ?_, hD, fun h => ⟨h, rfl, fun b h1 h2 => by omega⟩, Int.le_refl _, fun h => Or.inl h⟩
    simp only [m_X10_fillsWays_L46, hgI_k, hgR_k, hpI_k, hpR_k, hpZ_k, haI_k, haR_k, hsI_k, hsZ_k, hlen_k, hlet_e, hret_e, hretZ_0, hretZ_1, hif_e, okk_setV, okk_setF, nV, nF, fV, vF, okk_put, nP, fP, haI_2, kk_220 hs, kk_230 hs, rf_220_20 hs, ln_230 hs, lt_c 2 160 rfl, hV_put_n (show 230 ≠ 232 by decide)]
    rw [if_pos (by omega)]
  | succ k ih =>
    intro n i c D hn hv hD
    obtain ⟨m, rfl⟩ : ∃ m, n = m + 1 := ⟨n - 1, by omega⟩
    have hi : i < 9 := by omega
    have hi2 : (i : Int) < hV u 230 2 := by omega
    have z := wv.1 i hi2
    have hs' : shp (hput u 232 D) := hs
    obtain ⟨x, hx⟩ : ∃ x : Nat, hV u 230 (94 + 2 * i) = x := ⟨(hV u 230 (94 + 2 * i)).toNat, by omega⟩
    obtain ⟨y, hy⟩ : ∃ y : Nat, hV u 230 (94 + 2 * i + 1) = y := ⟨(hV u 230 (94 + 2 * i + 1)).toNat, by omega⟩
    rw [hx, hy] at z
    have head : m_X10_fillsWays_L46 K (m + 1) 220 p c i (hput u 232 D) = if O i = true then m_X10_fillsWays_L78 K (m_X10_fillsWays_L46 K m) 1000000000 220 p c i 0 (hput u 232 D) else m_X10_fillsWays_L46 K m 220 p c ((i + 1 : Nat) : Int) (hput u 232 D) := by
      simp only [m_X10_fillsWays_L46, m_X10_fillsWays_L75, m_X10_fillsWays_L166, hgI_k, hgR_k, hpI_k, hpR_k, hpZ_k, haI_k, haR_k, hsI_k, hsZ_k, hlen_k, hlet_e, hret_e, hretZ_0, hretZ_1, hif_e, okk_setV, okk_setF, nV, nF, fV, vF, okk_put, nP, fP, haI_2, kk_220 hs, kk_230 hs, rf_220_20 hs, ln_230 hs, lt_c 2 160 rfl, hV_put_n (show 230 ≠ 232 by decide), hcallV_b, ix_s (show i < 1000000 by omega)]
      rw [if_neg (by omega)]
      rcases hO with ⟨h1, h2⟩ | ⟨q, rfl, hq, h2⟩
      · rw [if_pos h1, if_pos (h2 i)]
      · rw [if_neg (by omega), y_leftOfE hs' hq hi, hbind_s, hV_put_n (by decide), hV_put_n (by decide), hif_e, h2 i]
        simp only [decide_eq_true_eq]
        rfl
    rw [head]
    by_cases ho : O i = true
    · rw [if_pos ho]
      have d1 := relF_pre wv hD hi2 ho
      have p1 := relx_pre hD hi2 ho (x := x) (y := y) (by omega) (by omega) (by rw [← hx, ← hy]; exact qEnd_0 _ _)
      have f : relF (hV u 230) D i = relx (relx D x y) y x := by
        unfold relF
        rw [hx, hy, Int.toNat_natCast, Int.toNat_natCast]
      rw [f] at d1
      obtain ⟨D', c', e1, e2, e3, e4, e5⟩ := ih m (i + 1) (chg (relx D x y) y x (chg D x y c)) (relx (relx D x y) y x) (by omega) (by omega) d1
      refine ⟨D', c', ?_, e2, fun h => ?_, ?_, fun h => ?_⟩
      · rw [show (1000000000 : Nat) = 999999997 + 1 + 1 + 1 from rfl, y_fw0 hs hi hx hy (by omega) (by omega) (hD.2 x (by omega)).1, y_fw1 hs hi hx hy (by omega) (by omega) (p1.2 y (by omega)).1, y_fw2 hi]
        exact e1
      · obtain ⟨q1, q2, q3⟩ := e3 h
        obtain ⟨r1, r2, r3⟩ := relx_eq q1
        obtain ⟨s1, s2, s3⟩ := relx_eq r1
        rw [s2] at r2 r3 q2 q3
        rw [r2] at q2 q3
        refine ⟨s1, q2, fun b h1 h2 h3 => ?_⟩
        by_cases e : b = i
        · subst e
          rw [hx, hy, Int.toNat_natCast, Int.toNat_natCast]
          exact ⟨s3, r3⟩
        · exact q3 b (by omega) (by omega) h3
      · have q1 := relx_sum (relx D x y) y x (hV u 230 0).toNat
        have q2 := relx_sum D x y (hV u 230 0).toNat
        omega
      · have q1 := relx_sum (relx D x y) y x (hV u 230 0).toNat
        have q2 := relx_sum D x y (hV u 230 0).toNat
        rcases e5 h with h | h
        · rcases chg_sum (N := (hV u 230 0).toNat) (by omega) h with h | h
          · rcases chg_sum (N := (hV u 230 0).toNat) (by omega) h with h | h
            · exact Or.inl h
            · exact Or.inr (by omega)
          · exact Or.inr (by omega)
        · exact Or.inr (by omega)
    · rw [if_neg ho]
      obtain ⟨D', c', e1, e2, e3, e4, e5⟩ := ih m (i + 1) c D (by omega) (by omega) hD
      refine ⟨D', c', e1, e2, fun h => ?_, e4, e5⟩
      obtain ⟨q1, q2, q3⟩ := e3 h
      refine ⟨q1, q2, fun b h1 h2 h3 => ?_⟩
      by_cases e : b = i
      · subst e
        exact absurd h3 ho
      · exact q3 b (by omega) (by omega) h3
