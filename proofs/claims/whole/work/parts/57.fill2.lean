theorem hif_p {c : Prop} [Decidable c] {t f : hM} {u : hS} : hif c t f u = if c then t u else f u := Eq.trans (b := hif c t f u) rfl rfl
theorem hlet_p {A : Type} {x : A} {f : A → hM} {u : hS} : hlet x f u = f x u := Eq.trans (b := hlet x f u) rfl rfl
theorem hret_p {x : Int} {u : hS} : hret x u = some (x, u) := Eq.trans (b := hret x u) rfl rfl
theorem y_fwO {u : hS} (hs : shp u) (ws : WS (hV u 230)) (wv : WV (hV u 230)) {O : Nat → Bool} {a : Nat} {p : Int} (hO : (p < 0 ∧ ∀ b, O b = true) ∨ ∃ q : Nat, p = q ∧ q < 4 ∧ ∀ b, O b = decide (1 ≤ w32 (qLeft (hV u 230) q b + hV u 231 b))) : ∀ (M n : Nat) (D : Nat → Int), sumU D (hV u 230 0).toNat 0 < M → M + 1 < n → isPre (hV u 230) O a D → ∃ D', m_X10_fillsWays_L37 n 220 p 1 (hput u 232 D) = some (0, hput u 232 D') ∧ isRow (hV u 230) O a D' := by
  have w2 := ws.2.2.1
  intro M
  induction M with
  | zero =>
    intro n D h1 h2 hD
    have := sumU_mono (fun _ => 0) D (hV u 230 0).toNat 0 (fun r _ h => (hD.2 r (by omega)).1.1)
    rw [sumU_0] at this
    omega
  | succ M ih =>
    intro n D h1 h2 hD
    obtain ⟨m, rfl⟩ : ∃ m, n = m + 1 := ⟨n - 1, by omega⟩
    obtain ⟨D', c', e1, e2, e3, e4, e5⟩ := y_fwL hs ws wv hO (m_X10_fillsWays_L37 m) (hV u 230 2).toNat 1000000000 0 0 D (by omega) (by omega) hD
    have e0 : m_X10_fillsWays_L37 (m + 1) 220 p 1 (hput u 232 D) = m_X10_fillsWays_L37 m 220 p c' (hput u 232 D') := by
      simp only [m_X10_fillsWays_L37, hgI_k, hgR_k, hpI_k, hpR_k, hpZ_k, haI_k, haR_k, hsI_k, hsZ_k, hlen_k, hlet_p, hret_p, hretZ_0, hretZ_1, hif_p, okk_setV, okk_setF, nV, nF, fV, vF]
      rw [if_neg (by decide)]
      exact e1
    rw [e0]
    by_cases hc : c' = 0
    · obtain ⟨_, q2, q3⟩ := e3 hc
      refine ⟨D', ?_, e2.row (fun b hb ho => ?_)⟩
      · obtain ⟨m, rfl⟩ : ∃ k, m = k + 1 := ⟨m - 1, by omega⟩
        simp only [m_X10_fillsWays_L37, hgI_k, hgR_k, hpI_k, hpR_k, hpZ_k, haI_k, haR_k, hsI_k, hsZ_k, hlen_k, hlet_p, hret_p, hretZ_0, hretZ_1, hif_p, okk_setV, okk_setF, nV, nF, fV, vF]
        rw [if_pos hc]
      · rw [q2]
        exact q3 b (by omega) (by omega) ho
    · have hl : sumU D' (hV u 230 0).toNat 0 < sumU D (hV u 230 0).toNat 0 := by
        rcases e5 hc with h | h
        · exact absurd rfl h
        · exact h
      obtain ⟨D2, q1, q2⟩ := ih m D' (by omega) (by omega) e2
      refine ⟨D2, ?_, q2⟩
      rw [← q1]
      obtain ⟨m, rfl⟩ : ∃ k, m = k + 1 := ⟨m - 1, by omega⟩
      simp only [m_X10_fillsWays_L37, hgI_k, hgR_k, hpI_k, hpR_k, hpZ_k, haI_k, haR_k, hsI_k, hsZ_k, hlen_k, hlet_p, hret_p, hretZ_0, hretZ_1, hif_p, okk_setV, okk_setF, nV, nF, fV, vF]
      rw [if_neg hc, if_neg (by decide)]
def iniW (g : Nat → Int) (a i : Nat) : Nat → Int := fun j => if j < i then (if j = a then 0 else 99) else g j
theorem y_fwI {u : hS} (hs : shp u) (ws : WS (hV u 230)) {a : Nat} (p : Int) (g : Nat → Int) : ∀ k n i : Nat, k < n → hV u 230 0 = ((i + k : Nat) : Int) → m_X10_fillsWays_L2 n 220 p a i (hput u 232 (iniW g a i)) = m_X10_fillsWays_L37 1000000000 220 p 1 (hput u 232 (iniW g a (hV u 230 0).toNat)) := by
  have w0 := ws.1
  intro k
  induction k with
  | zero =>
    intro n i hn hv
    obtain ⟨m, rfl⟩ : ∃ m, n = m + 1 := ⟨n - 1, by omega⟩
    simp only [m_X10_fillsWays_L2, hgI_k, hgR_k, hpI_k, hpR_k, hpZ_k, haI_k, haR_k, hsI_k, hsZ_k, hlen_k, hlet_p, hret_p, hretZ_0, hretZ_1, hif_p, okk_setV, okk_setF, nV, nF, fV, vF, okk_put, nP, fP, haI_0, kk_220 hs, kk_230 hs, rf_220_20 hs, ln_230 hs, lt_c 0 160 rfl, hV_put_n (show 230 ≠ 232 by decide)]
    rw [if_pos (by omega), show (hV u 230 0).toNat = i by omega]
  | succ k ih =>
    intro n i hn hv
    obtain ⟨m, rfl⟩ : ∃ m, n = m + 1 := ⟨n - 1, by omega⟩
    have i8 : i < 8 := by omega
    have i4 : i < 1000000 := by omega
    simp only [m_X10_fillsWays_L2, m_X10_fillsWays_L28, hgI_k, hgR_k, hpI_k, hpR_k, hpZ_k, haI_k, haR_k, hsI_k, hsZ_k, hlen_k, hlet_p, hret_p, hretZ_0, hretZ_1, hif_p, okk_setV, okk_setF, nV, nF, fV, vF, okk_put, nP, fP, haI_0, hsI_n, kk_220 hs, kk_230 hs, kk_232 hs, rf_220_20 hs, rf_220_23 hs, ln_230 hs, ln_232 hs, lt_c 0 160 rfl, hV_put_n (show 230 ≠ 232 by decide), i8, ix_s i4, setV_put]
    rw [if_neg (by omega), ← ih m (i + 1) (by omega) (by omega)]
    have e : ∀ x : Int, x = (if i = a then 0 else 99) → sup (iniW g a i) i x = iniW g a (i + 1) := by
      intro x hx
      funext j
      unfold sup iniW
      by_cases h : j = i
      · rw [if_pos h, if_pos (by omega), hx, h]
      · rw [if_neg h]
        by_cases h1 : j < i
        · rw [if_pos h1, if_pos (show j < i + 1 by omega)]
        · rw [if_neg h1, if_neg (show ¬ j < i + 1 by omega)]
    by_cases ha : i = a
    · rw [if_neg (by omega), e 0 (by rw [if_pos ha])]
    · rw [if_pos (by omega), e 99 (by rw [if_neg ha])]
theorem y_fillsWays {u : hS} (hs : shp u) (ws : WS (hV u 230)) (wv : WV (hV u 230)) {O : Nat → Bool} {a : Nat} (ha : (a : Int) < hV u 230 0) {p : Int} (hO : (p < 0 ∧ ∀ b, O b = true) ∨ ∃ q : Nat, p = q ∧ q < 4 ∧ ∀ b, O b = decide (1 ≤ w32 (qLeft (hV u 230) q b + hV u 231 b))) : ∃ D, m_X10_fillsWays 220 p a u = some (0, hput u 232 D) ∧ isRow (hV u 230) O a D := by
  have w0 := ws.1
  have e := y_fwI hs ws (a := a) p (hV u 232) (hV u 230 0).toNat 1000000000 0 (by omega) (by omega)
  have e0 : iniW (hV u 232) a 0 = hV u 232 := by
    funext j
    exact if_neg (by omega)
  rw [e0, hput_self] at e
  have pre : isPre (hV u 230) O a (iniW (hV u 232) a (hV u 230 0).toNat) := by
    refine ⟨?_, fun r hr => ?_⟩
    · unfold iniW
      rw [if_pos (by omega), if_pos rfl]
    · unfold iniW
      rw [if_pos (by omega)]
      by_cases h : r = a
      · subst h
        rw [if_pos rfl]
        exact ⟨by omega, fun _ => rfl⟩
      · rw [if_neg h]
        exact ⟨by omega, fun z => by omega⟩
  have sm : sumU (iniW (hV u 232) a (hV u 230 0).toNat) (hV u 230 0).toNat 0 < (1000 : Nat) := by
    have h1 := sumU_mono (iniW (hV u 232) a (hV u 230 0).toNat) (fun _ => 99) (hV u 230 0).toNat 0 (fun r _ h => (pre.2 r (by omega)).1.2)
    have h2 : ∀ k i, sumU (fun _ => 99) k i = 99 * k := by
      intro k
      induction k with
      | zero =>
        intro i
        rfl
      | succ k ih =>
        intro i
        rw [sumU_s, ih]
        omega
    rw [h2] at h1
    omega
  obtain ⟨D, q1, q2⟩ := y_fwO hs ws wv hO 1000 1000000000 _ sm (by omega) pre
  refine ⟨D, ?_, q2⟩
  simp only [m_X10_fillsWays, hlet_p]
  rw [← q1]
  exact e
/-! the bits of what can be reached -/
def qBits (D : Nat → Int) (n : Nat) : Int := accN (fun r a => iorZ a (if D r < 99 then ishlZ 1 r else 0)) n 0 0
theorem y_reachL {u : hS} (hs : shp u) (h8 : hV u 230 0 ≤ 8) : ∀ (k n i : Nat) (a : Int), k < n → hV u 230 0 = ((i + k : Nat) : Int) → m_X10_reachOf_L15 n 220 a i u = some (accN (fun r a => iorZ a (if hV u 232 r < 99 then ishlZ 1 r else 0)) k i a, u) := by
  intro k
  induction k with
  | zero =>
    intro n i a hn hv
    obtain ⟨m, rfl⟩ : ∃ m, n = m + 1 := ⟨n - 1, by omega⟩
    simp only [m_X10_reachOf_L15, hgI_k, hgR_k, hpI_k, hpR_k, hpZ_k, haI_k, haR_k, hsI_k, hsZ_k, hlen_k, hlet_p, hret_p, hretZ_0, hretZ_1, hif_p, okk_setV, okk_setF, nV, nF, fV, vF, haI_0, kk_220 hs, kk_230 hs, rf_220_20 hs, ln_230 hs, lt_c 0 160 rfl]
    rw [if_pos (by omega)]
    rfl
  | succ k ih =>
    intro n i a hn hv
    obtain ⟨m, rfl⟩ : ∃ m, n = m + 1 := ⟨n - 1, by omega⟩
    have i8 : i < 8 := by omega
    simp only [m_X10_reachOf_L15, m_X10_reachOf_L44, hgI_k, hgR_k, hpI_k, hpR_k, hpZ_k, haI_k, haR_k, hsI_k, hsZ_k, hlen_k, hlet_p, hret_p, hretZ_0, hretZ_1, hif_p, okk_setV, okk_setF, nV, nF, fV, vF, haI_0, haI_n, kk_220 hs, kk_230 hs, kk_232 hs, rf_220_20 hs, rf_220_23 hs, ln_230 hs, ln_232 hs, lt_c 0 160 rfl, i8, ix_s (show i < 1000000 by omega)]
    rw [if_neg (by omega), ih m (i + 1) _ (by omega) (by omega), ih m (i + 1) _ (by omega) (by omega)]
    simp only [accN_s]
    by_cases h : hV u 232 i < 99
    · rw [if_neg (by omega), if_pos h]
    · rw [if_pos (by omega), if_neg h]
/-- the bridges that a person still has -/
def opn (S : Nat → Int) (E : Nat → Int) (p : Nat) : Nat → Bool := fun b => decide (1 ≤ w32 (qLeft S p b + E b))
theorem y_reachOf {u : hS} (hs : shp u) (ws : WS (hV u 230)) (wv : WV (hV u 230)) {p : Nat} (hp : (p : Int) < hV u 230 4) : ∃ (D : Nat → Int) (a : Nat), hV u 230 (10 + 3 * p) = a ∧ m_X10_reachOf 220 p u = some (qBits D (hV u 230 0).toNat, hput u 232 D) ∧ isRow (hV u 230) (opn (hV u 230) (hV u 231) p) a D := by
  have w0 := ws.1
  have w4 := ws.2.2.2.2.1
  have z := (wv.2.2.1 p hp).1
  obtain ⟨a, ha⟩ : ∃ a : Nat, hV u 230 (10 + 3 * p) = a := ⟨(hV u 230 (10 + 3 * p)).toNat, by omega⟩
  obtain ⟨D, e1, e2⟩ := y_fillsWays hs ws wv (O := opn (hV u 230) (hV u 231) p) (a := a) (by omega) (p := p) (Or.inr ⟨p, rfl, by omega, fun _ => rfl⟩)
  refine ⟨D, a, ha, ?_, e2⟩
  have hs' : shp (hput u 232 D) := hs
  have l := y_reachL hs' (by rw [hV_put_n (by decide)]; exact w0.2) (hV u 230 0).toNat 1000000000 0 0 (by omega) (by rw [hV_put_n (by decide)]; omega)
  rw [hV_put_s] at l
  simp only [m_X10_reachOf, hlet_p, hcallV_b, hbind_s, kk_220 hs, y_personOf0 hs (show p < 4 by omega), ha, e1, kk_220 hs']
  exact l
theorem y_wayOf {u : hS} (hs : shp u) (ws : WS (hV u 230)) (wv : WV (hV u 230)) {p a : Nat} (hp : (p : Int) < hV u 230 4) (ha : (a : Int) < hV u 230 0) : ∃ D : Nat → Int, m_X10_wayOf 220 p a u = some (D (hV u 230 (10 + 3 * p)).toNat, hput u 232 D) ∧ isRow (hV u 230) (opn (hV u 230) (hV u 231) p) a D := by
  have w0 := ws.1
  have w4 := ws.2.2.2.2.1
  have z := (wv.2.2.1 p hp).1
  obtain ⟨x, hx⟩ : ∃ x : Nat, hV u 230 (10 + 3 * p) = x := ⟨(hV u 230 (10 + 3 * p)).toNat, by omega⟩
  obtain ⟨D, e1, e2⟩ := y_fillsWays hs ws wv (O := opn (hV u 230) (hV u 231) p) (a := a) ha (p := p) (Or.inr ⟨p, rfl, by omega, fun _ => rfl⟩)
  refine ⟨D, ?_, e2⟩
  have hs' : shp (hput u 232 D) := hs
  have x8 : x < 8 := by omega
  have po := y_personOf0 hs' (show p < 4 by omega)
  rw [hV_put_n (by decide), hx] at po
  simp only [m_X10_wayOf, hgI_k, hgR_k, hpI_k, hpR_k, hpZ_k, haI_k, haR_k, hsI_k, hsZ_k, hlen_k, hlet_p, hret_p, hretZ_0, hretZ_1, hif_p, okk_setV, okk_setF, nV, nF, fV, vF, haI_n, hcallV_b, hbind_s, kk_220 hs, e1, kk_220 hs', rf_220_23 hs', po, kk_232 hs', ln_232 hs', x8, hV_put_s, hx, Int.toNat_natCast]
