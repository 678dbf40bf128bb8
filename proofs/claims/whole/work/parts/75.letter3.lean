/-! letters: the reference -/
def rcx (u : hS) (N : Nat) (f : Nat → Nat) (M : Nat → Nat → Bool) : Prop := shp u ∧ WS (hV u 230) ∧ WV (hV u 230) ∧ (∀ c, c < 9 → hV u 231 c = 0) ∧ hV u 230 4 = (N : Int) ∧ (∀ p : Nat, (p : Int) < hV u 230 4 → isRch (hV u 230) (-1) p (f p)) ∧ ∀ p q, p < N → q < N → (M p q = true ↔ f p &&& f q ≠ 0)
theorem y_cm {u : hS} {N : Nat} {f : Nat → Nat} {M : Nat → Nat → Bool} (c : rcx u N f M) {p q : Nat} (hp : p < N) (hq : q < N) (D : Nat → Int) : ∃ D', m_X10_canMeet 220 p q (hput u 232 D) = some (if M p q = true then 1 else 0, hput u 232 D') := by
  obtain ⟨hs, ws, wv, ex, h4, hf, hM⟩ := c
  have hs1 : shp (hput u 232 D) := hs
  have k230 : hV (hput u 232 D) 230 = hV u 230 := hV_put_n (by decide)
  obtain ⟨D1, d1⟩ := y_rch hs1 (by rw [k230]; exact ws) (by rw [k230]; exact wv) (p := p) (by rw [k230]; omega) (e := -1) (fun c hc => by rw [hV_put_n (by decide), ex c hc, if_neg (by omega)]) (by rw [k230]; exact hf p (by omega))
  rw [hput_put] at d1
  have hs2 : shp (hput u 232 D1) := hs
  have j230 : hV (hput u 232 D1) 230 = hV u 230 := hV_put_n (by decide)
  obtain ⟨D2, d2⟩ := y_rch hs2 (by rw [j230]; exact ws) (by rw [j230]; exact wv) (p := q) (by rw [j230]; omega) (e := -1) (fun c hc => by rw [hV_put_n (by decide), ex c hc, if_neg (by omega)]) (by rw [j230]; exact hf q (by omega))
  rw [hput_put] at d2
  have l1 := rch_lt (hf p (by omega))
  refine ⟨D2, ?_⟩
  simp only [m_X10_canMeet_L19, m_X10_canMeet, hgI_k, hgR_k, hpI_k, hpR_k, hpZ_k, haI_k, haR_k, hsI_k, hsZ_k, hlen_k, hlet_p, hret_p, hretZ_0, hretZ_1, hif_p, okk_setV, okk_setF, nV, nF, fV, vF, hcallV_b, hbind_p, kk_220 hs1, kk_220 hs2, d1, d2, iandZ_n (a := f p) (b := f q) (by omega)]
  by_cases h : M p q = true
  · have z := (hM p q hp hq).mp h
    rw [if_neg (by omega), if_pos h]
  · have z : f p &&& f q = 0 := by
      apply Classical.byContradiction
      intro y
      exact h ((hM p q hp hq).mpr y)
    rw [if_pos (by omega), if_neg h]
def an1 (u : hS) (D : Nat → Int) (o : Option Nat) (e : Option (Int × hS)) : Option (Int × hS) := match o with
  | some i => some (1, hput (hput u 232 D) 237 (sup (hV u 237) 0 (i : Int)))
  | none => e
def an2 (u : hS) (D : Nat → Int) (o : Option (Nat × Nat)) (e : Option (Int × hS)) : Option (Int × hS) := match o with
  | some z => some (2, hput (hput u 232 D) 237 (sup (sup (hV u 237) 0 (z.1 : Int)) 1 (z.2 : Int)))
  | none => e
theorem y_fi1 {u : hS} {N : Nat} {f : Nat → Nat} {M : Nat → Nat → Bool} (c : rcx u N f M) {a b : Nat} (ha : a < N) (hb : b < N) : ∀ (k n i : Nat) (D : Nat → Int), k < n → i + k = N → ∃ D', m_X10_handsBetween_L13 n 220 a b i (hput u 232 D) = an1 u D' (fi1 M a b k i) (m_X10_handsBetween_L71 1000000000 220 a b 0 (hput u 232 D')) := by
  have hs := c.1
  have h4 := c.2.2.2.2.1
  have w4 := c.2.1.2.2.2.2.1
  have k230 : ∀ D, hV (hput u 232 D) 230 = hV u 230 := fun D => hV_put_n (by decide)
  intro k
  induction k with
  | zero =>
    intro n i D hn hi
    obtain ⟨n, rfl⟩ : ∃ k, n = k + 1 := ⟨n - 1, by omega⟩
    refine ⟨D, ?_⟩
    show _ = m_X10_handsBetween_L71 1000000000 220 a b 0 (hput u 232 D)
    simp only [m_X10_handsBetween_L13, hgI_k, hgR_k, hpI_k, hpR_k, hpZ_k, haI_k, haR_k, hsI_k, hsZ_k, hlen_k, hlet_p, hret_p, hretZ_0, hretZ_1, hif_p, okk_setV, okk_setF, nV, nF, fV, vF, okk_put, nP, fP, haI_4, kk_220 hs, kk_230 hs, rf_220_20 hs, ln_230 hs, lt_c 4 160 rfl, k230, h4]
    rw [if_pos (by omega)]
  | succ k ih =>
    intro n i D hn hi
    obtain ⟨n, rfl⟩ : ∃ k, n = k + 1 := ⟨n - 1, by omega⟩
    have F : fi1 M a b (k + 1) i = if i ≠ a ∧ i ≠ b ∧ M a i = true ∧ M i b = true then some i else fi1 M a b k (i + 1) := rfl
    rw [F]
    obtain ⟨D1, d1⟩ := y_cm c ha (show i < N by omega) D
    obtain ⟨D2, d2⟩ := y_cm c (show i < N by omega) hb D1
    have e2 : ∀ W, hput u 232 W = hput u 232 W := fun _ => rfl
    have q237 : hV (hput u 232 D2) 237 = hV u 237 := hV_put_n (by decide)
    by_cases e : i ≠ a ∧ i ≠ b ∧ M a i = true ∧ M i b = true
    · refine ⟨D2, ?_⟩
      rw [if_pos e]
      show _ = some (1, hput (hput u 232 D2) 237 (sup (hV u 237) 0 (i : Int)))
      simp only [m_X10_handsBetween_L13, m_X10_handsBetween_L63, hgI_k, hgR_k, hpI_k, hpR_k, hpZ_k, haI_k, haR_k, hsI_k, hsZ_k, hlen_k, hlet_p, hret_p, hretZ_0, hretZ_1, hif_p, okk_setV, okk_setF, nV, nF, fV, vF, okk_put, nP, fP, haI_4, hsI_k, hcallV_b, hbind_p, kk_220 hs, kk_230 hs, kk_237 hs, rf_220_20 hs, rf_220_32 hs, ln_230 hs, ln_237 hs, lt_c 4 160 rfl, k230, h4, d1, d2, if_pos e.2.2.1, if_pos e.2.2.2]
      rw [if_neg (by omega), if_neg (by omega), if_neg (by omega), if_neg (by decide), if_pos (by decide), hsI_k (kk_237 (show shp (hput u 232 D2) from hs)) (by decide) (by rw [nP, ln_237 hs]; decide), setV_put1 (hput u 232 D2), q237]
      rfl
    · rw [if_neg e]
      by_cases e1 : i = a
      · obtain ⟨D', q⟩ := ih n (i + 1) D (by omega) (by omega)
        refine ⟨D', ?_⟩
        rw [← q]
        simp only [m_X10_handsBetween_L13, m_X10_handsBetween_L63, hgI_k, hgR_k, hpI_k, hpR_k, hpZ_k, haI_k, haR_k, hsI_k, hsZ_k, hlen_k, hlet_p, hret_p, hretZ_0, hretZ_1, hif_p, okk_setV, okk_setF, nV, nF, fV, vF, okk_put, nP, fP, haI_4, kk_220 hs, kk_230 hs, rf_220_20 hs, ln_230 hs, lt_c 4 160 rfl, k230, h4, ix_s (show i < 1000000 by omega)]
        rw [if_neg (by omega), if_pos (by omega)]
      by_cases e2 : i = b
      · obtain ⟨D', q⟩ := ih n (i + 1) D (by omega) (by omega)
        refine ⟨D', ?_⟩
        rw [← q]
        simp only [m_X10_handsBetween_L13, m_X10_handsBetween_L63, hgI_k, hgR_k, hpI_k, hpR_k, hpZ_k, haI_k, haR_k, hsI_k, hsZ_k, hlen_k, hlet_p, hret_p, hretZ_0, hretZ_1, hif_p, okk_setV, okk_setF, nV, nF, fV, vF, okk_put, nP, fP, haI_4, kk_220 hs, kk_230 hs, rf_220_20 hs, ln_230 hs, lt_c 4 160 rfl, k230, h4, ix_s (show i < 1000000 by omega)]
        rw [if_neg (by omega), if_neg (by omega), if_pos (by omega)]
      by_cases e3 : M a i = true
      · obtain ⟨D', q⟩ := ih n (i + 1) D2 (by omega) (by omega)
        refine ⟨D', ?_⟩
        have e4 : ¬ M i b = true := fun z => e ⟨e1, e2, e3, z⟩
        rw [← q]
        simp only [m_X10_handsBetween_L13, m_X10_handsBetween_L63, hgI_k, hgR_k, hpI_k, hpR_k, hpZ_k, haI_k, haR_k, hsI_k, hsZ_k, hlen_k, hlet_p, hret_p, hretZ_0, hretZ_1, hif_p, okk_setV, okk_setF, nV, nF, fV, vF, okk_put, nP, fP, haI_4, hcallV_b, hbind_p, kk_220 hs, kk_230 hs, rf_220_20 hs, ln_230 hs, lt_c 4 160 rfl, k230, h4, d1, d2, if_pos e3, if_neg e4, ix_s (show i < 1000000 by omega)]
        rw [if_neg (by omega), if_neg (by omega), if_neg (by omega), if_neg (by decide), if_neg (by decide)]
      · obtain ⟨D', q⟩ := ih n (i + 1) D1 (by omega) (by omega)
        refine ⟨D', ?_⟩
        rw [← q]
        simp only [m_X10_handsBetween_L13, m_X10_handsBetween_L63, hgI_k, hgR_k, hpI_k, hpR_k, hpZ_k, haI_k, haR_k, hsI_k, hsZ_k, hlen_k, hlet_p, hret_p, hretZ_0, hretZ_1, hif_p, okk_setV, okk_setF, nV, nF, fV, vF, okk_put, nP, fP, haI_4, hcallV_b, hbind_p, kk_220 hs, kk_230 hs, rf_220_20 hs, ln_230 hs, lt_c 4 160 rfl, k230, h4, d1, if_neg e3, ix_s (show i < 1000000 by omega)]
        rw [if_neg (by omega), if_neg (by omega), if_neg (by omega), if_pos trivial]
theorem y_fi2 {u : hS} {N : Nat} {f : Nat → Nat} {M : Nat → Nat → Bool} (c : rcx u N f M) {a b i : Nat} (ha : a < N) (hb : b < N) (hi' : i < N) (K : Nat → Int → Int → Int → hM) : ∀ (k n j : Nat) (D : Nat → Int), k < n → j + k = N → ∃ D', m_X10_handsBetween_L84 K n 220 a b i j (hput u 232 D) = an2 u D' (fi2 M a b i k j) (K 220 a b ((i + 1 : Nat) : Int) (hput u 232 D')) := by
  have hs := c.1
  have h4 := c.2.2.2.2.1
  have w4 := c.2.1.2.2.2.2.1
  have k230 : ∀ D, hV (hput u 232 D) 230 = hV u 230 := fun D => hV_put_n (by decide)
  intro k
  induction k with
  | zero =>
    intro n j D hn hi
    obtain ⟨n, rfl⟩ : ∃ k, n = k + 1 := ⟨n - 1, by omega⟩
    refine ⟨D, ?_⟩
    show _ = K 220 a b ((i + 1 : Nat) : Int) (hput u 232 D)
    simp only [m_X10_handsBetween_L84, hgI_k, hgR_k, hpI_k, hpR_k, hpZ_k, haI_k, haR_k, hsI_k, hsZ_k, hlen_k, hlet_p, hret_p, hretZ_0, hretZ_1, hif_p, okk_setV, okk_setF, nV, nF, fV, vF, okk_put, nP, fP, haI_4, kk_220 hs, kk_230 hs, rf_220_20 hs, ln_230 hs, lt_c 4 160 rfl, k230, h4, ix_s (show i < 1000000 by omega)]
    rw [if_pos (by omega)]
  | succ k ih =>
    intro n j D hn hi
    obtain ⟨n, rfl⟩ : ∃ k, n = k + 1 := ⟨n - 1, by omega⟩
    have F : fi2 M a b i (k + 1) j = if i ≠ a ∧ i ≠ b ∧ j ≠ a ∧ j ≠ b ∧ i ≠ j ∧ M a i = true ∧ M i j = true ∧ M j b = true then some (i, j) else fi2 M a b i k (j + 1) := rfl
    rw [F]
    have jN : j < N := by omega
    have nx : ∀ D, m_X10_handsBetween_L184 K (m_X10_handsBetween_L84 K n) 220 a b i j (hput u 232 D) = m_X10_handsBetween_L84 K n 220 a b i ((j + 1 : Nat) : Int) (hput u 232 D) := fun D => by
      simp only [m_X10_handsBetween_L184, hgI_k, hgR_k, hpI_k, hpR_k, hpZ_k, haI_k, haR_k, hsI_k, hsZ_k, hlen_k, hlet_p, hret_p, hretZ_0, hretZ_1, hif_p, okk_setV, okk_setF, nV, nF, fV, vF, ix_s (show j < 1000000 by omega)]
    have z0 : ∀ D, m_X10_handsBetween_L127 K (m_X10_handsBetween_L84 K n) 220 a b i j (hput u 232 D) = m_X10_handsBetween_L84 K n 220 a b i ((j + 1 : Nat) : Int) (hput u 232 D) := fun D => by
      simp only [m_X10_handsBetween_L127, m_X10_handsBetween_L128, hgI_k, hgR_k, hpI_k, hpR_k, hpZ_k, haI_k, haR_k, hsI_k, hsZ_k, hlen_k, hlet_p, hret_p, hretZ_0, hretZ_1, hif_p, okk_setV, okk_setF, nV, nF, fV, vF, nx]
      rw [if_pos trivial]
    have hd0 : m_X10_handsBetween_L84 K (n + 1) 220 a b i j (hput u 232 D) = if i ≠ a ∧ i ≠ b ∧ j ≠ a ∧ j ≠ b ∧ i ≠ j then m_X10_handsBetween_L128 K (m_X10_handsBetween_L84 K n) 220 a b i j 1 (hput u 232 D) else m_X10_handsBetween_L84 K n 220 a b i ((j + 1 : Nat) : Int) (hput u 232 D) := by
      simp only [m_X10_handsBetween_L84, hgI_k, hgR_k, hpI_k, hpR_k, hpZ_k, haI_k, haR_k, hsI_k, hsZ_k, hlen_k, hlet_p, hret_p, hretZ_0, hretZ_1, hif_p, okk_setV, okk_setF, nV, nF, fV, vF, okk_put, nP, fP, haI_4, kk_220 hs, kk_230 hs, rf_220_20 hs, ln_230 hs, lt_c 4 160 rfl, k230, h4, z0]
      rw [if_neg (by omega)]
      by_cases e1 : i = a
      · rw [if_pos (by omega), if_neg (by omega)]
      rw [if_neg (by omega)]
      by_cases e2 : i = b
      · rw [if_pos (by omega), if_neg (by omega)]
      rw [if_neg (by omega)]
      by_cases e3 : j = a
      · rw [if_pos (by omega), if_neg (by omega)]
      rw [if_neg (by omega)]
      by_cases e4 : j = b
      · rw [if_pos (by omega), if_neg (by omega)]
      rw [if_neg (by omega)]
      by_cases e5 : i = j
      · rw [if_pos (by omega), if_neg (by omega)]
      rw [if_neg (by omega), if_pos ⟨e1, e2, e3, e4, e5⟩]
    rw [hd0]
    by_cases e0 : i ≠ a ∧ i ≠ b ∧ j ≠ a ∧ j ≠ b ∧ i ≠ j
    case neg =>
      obtain ⟨D', q⟩ := ih n (j + 1) D (by omega) (by omega)
      refine ⟨D', ?_⟩
      rw [if_neg e0, if_neg (fun z => e0 ⟨z.1, z.2.1, z.2.2.1, z.2.2.2.1, z.2.2.2.2.1⟩), q]
    rw [if_pos e0]
    have n10 : ¬ (1 : Int) = 0 := by decide
    obtain ⟨D1, d1⟩ := y_cm c ha hi' D
    obtain ⟨D2, d2⟩ := y_cm c hi' jN D1
    obtain ⟨D3, d3⟩ := y_cm c jN hb D2
    by_cases e1 : M a i = true
    case neg =>
      obtain ⟨D', q⟩ := ih n (j + 1) D1 (by omega) (by omega)
      refine ⟨D', ?_⟩
      rw [if_neg (fun z => e1 z.2.2.2.2.2.1), ← q]
      simp only [m_X10_handsBetween_L128, hgI_k, hgR_k, hpI_k, hpR_k, hpZ_k, haI_k, haR_k, hsI_k, hsZ_k, hlen_k, hlet_p, hret_p, hretZ_0, hretZ_1, hif_p, okk_setV, okk_setF, nV, nF, fV, vF, okk_put, nP, fP, hcallV_b, hbind_p, kk_220 hs, d1, if_neg e1, if_neg n10, nx, if_true]
    by_cases e2 : M i j = true
    case neg =>
      obtain ⟨D', q⟩ := ih n (j + 1) D2 (by omega) (by omega)
      refine ⟨D', ?_⟩
      rw [if_neg (fun z => e2 z.2.2.2.2.2.2.1), ← q]
      simp only [m_X10_handsBetween_L128, hgI_k, hgR_k, hpI_k, hpR_k, hpZ_k, haI_k, haR_k, hsI_k, hsZ_k, hlen_k, hlet_p, hret_p, hretZ_0, hretZ_1, hif_p, okk_setV, okk_setF, nV, nF, fV, vF, okk_put, nP, fP, hcallV_b, hbind_p, kk_220 hs, d1, if_pos e1, d2, if_neg e2, if_neg n10, nx, if_true]
    by_cases e3 : M j b = true
    case neg =>
      obtain ⟨D', q⟩ := ih n (j + 1) D3 (by omega) (by omega)
      refine ⟨D', ?_⟩
      rw [if_neg (fun z => e3 z.2.2.2.2.2.2.2), ← q]
      simp only [m_X10_handsBetween_L128, hgI_k, hgR_k, hpI_k, hpR_k, hpZ_k, haI_k, haR_k, hsI_k, hsZ_k, hlen_k, hlet_p, hret_p, hretZ_0, hretZ_1, hif_p, okk_setV, okk_setF, nV, nF, fV, vF, okk_put, nP, fP, hcallV_b, hbind_p, kk_220 hs, d1, if_pos e1, d2, if_pos e2, d3, if_neg e3, if_neg n10, nx, ne_eq, not_true_eq_false, if_false]
    refine ⟨D3, ?_⟩
    rw [if_pos ⟨e0.1, e0.2.1, e0.2.2.1, e0.2.2.2.1, e0.2.2.2.2, e1, e2, e3⟩]
    show _ = some (2, hput (hput u 232 D3) 237 (sup (sup (hV u 237) 0 (i : Int)) 1 (j : Int)))
    have q237 : hV (hput u 232 D3) 237 = hV u 237 := hV_put_n (by decide)
    have hs3 : shp (hput u 232 D3) := hs
    have n11 : (1 : Int) ≠ 0 := by decide
    have t0 : (0 : Int).toNat = 0 := rfl
    have t1 : (1 : Int).toNat = 1 := rfl
    have g0 : (0 : Int) < (2 : Nat) := by decide
    have g1 : (1 : Int) < (2 : Nat) := by decide
    have g2 : (0 : Int) ≤ 0 := by decide
    have g3 : (0 : Int) ≤ 1 := by decide
    simp only [m_X10_handsBetween_L128, hgI_k, hgR_k, hpI_k, hpR_k, hpZ_k, haI_k, haR_k, hsI_k, hsZ_k, hlen_k, hlet_p, hret_p, hretZ_0, hretZ_1, hif_p, okk_setV, okk_setF, nV, nF, fV, vF, okk_put, nP, fP, hcallV_b, hbind_p, kk_220 hs, kk_237 hs, rf_220_32 hs, ln_237 hs, d1, if_pos e1, d2, if_pos e2, d3, if_pos e3, if_neg n10, if_pos n11, g0, g1, g2, g3, t0, t1, setV_put1 (hput u 232 D3), setV_put, q237]
theorem y_fi3 {u : hS} {N : Nat} {f : Nat → Nat} {M : Nat → Nat → Bool} (c : rcx u N f M) {a b : Nat} (ha : a < N) (hb : b < N) : ∀ (k n i : Nat) (D : Nat → Int), k < n → i + k = N → ∃ D', m_X10_handsBetween_L71 n 220 a b i (hput u 232 D) = an2 u D' (fi3 M a b N k i) (some (-1, hput u 232 D')) := by
  have hs := c.1
  have h4 := c.2.2.2.2.1
  have w4 := c.2.1.2.2.2.2.1
  have k230 : ∀ D, hV (hput u 232 D) 230 = hV u 230 := fun D => hV_put_n (by decide)
  intro k
  induction k with
  | zero =>
    intro n i D hn hi
    obtain ⟨n, rfl⟩ : ∃ k, n = k + 1 := ⟨n - 1, by omega⟩
    refine ⟨D, ?_⟩
    show _ = some (-1, hput u 232 D)
    simp only [m_X10_handsBetween_L71, hgI_k, hgR_k, hpI_k, hpR_k, hpZ_k, haI_k, haR_k, hsI_k, hsZ_k, hlen_k, hlet_p, hret_p, hretZ_0, hretZ_1, hif_p, okk_setV, okk_setF, nV, nF, fV, vF, okk_put, nP, fP, haI_4, kk_220 hs, kk_230 hs, rf_220_20 hs, ln_230 hs, lt_c 4 160 rfl, k230, h4]
    rw [if_pos (by omega)]
  | succ k ih =>
    intro n i D hn hi
    obtain ⟨n, rfl⟩ : ∃ k, n = k + 1 := ⟨n - 1, by omega⟩
    obtain ⟨D1, d1⟩ := y_fi2 c (i := i) ha hb (by omega) (m_X10_handsBetween_L71 n) N 1000000000 0 D (by omega) (by omega)
    have d1' : m_X10_handsBetween_L84 (m_X10_handsBetween_L71 n) 1000000000 220 a b i 0 (hput u 232 D) = _ := d1
    have E : m_X10_handsBetween_L71 (n + 1) 220 a b i (hput u 232 D) = an2 u D1 (fi2 M a b i N 0) (m_X10_handsBetween_L71 n 220 a b ((i + 1 : Nat) : Int) (hput u 232 D1)) := by
      rw [← d1']
      simp only [m_X10_handsBetween_L71, hgI_k, hgR_k, hpI_k, hpR_k, hpZ_k, haI_k, haR_k, hsI_k, hsZ_k, hlen_k, hlet_p, hret_p, hretZ_0, hretZ_1, hif_p, okk_setV, okk_setF, nV, nF, fV, vF, okk_put, nP, fP, haI_4, kk_220 hs, kk_230 hs, rf_220_20 hs, ln_230 hs, lt_c 4 160 rfl, k230, h4]
      rw [if_neg (by omega)]
    rw [E]
    have F : fi3 M a b N (k + 1) i = match fi2 M a b i N 0 with
      | some z => some z
      | none => fi3 M a b N k (i + 1) := rfl
    rw [F]
    cases hz : fi2 M a b i N 0 with
    | some z => exact ⟨D1, rfl⟩
    | none =>
      obtain ⟨D', q⟩ := ih n (i + 1) D1 (by omega) (by omega)
      exact ⟨D', q⟩
