/-! acts -/
theorem setV_put1 (u : hS) (a i : Nat) (x : Int) : hsetV u a i x = hput u a (sup (hV u a) i x) := by
  have h := setV_put u a (hV u a) i x
  rw [hput_self] at h
  exact h
def qCross (S : Nat → Int) (p b : Nat) : Nat → Int := sup (sup (sup S (10 + 3 * p) (qEnd S (94 + 2 * b) (S (10 + 3 * p)))) (22 + 9 * p + b) (w32 (S (22 + 9 * p + b) + 1))) (58 + 9 * p + b) (w32 (S (58 + 9 * p + b) + 1))
theorem y_crosses {u : hS} (hs : shp u) {p b : Nat} (hp : p < 4) (hb : b < 9) : m_X10_crosses 220 p b u = some (0, hput u 230 (qCross (hV u 230) p b)) := by
  have i1 : 10 + 3 * p < 160 := by omega
  have i2 : 22 + 9 * p + b < 160 := by omega
  have i3 : 58 + 9 * p + b < 160 := by omega
  have j2 : 22 + 9 * p + b < 1000000 := by omega
  have j3 : 58 + 9 * p + b < 1000000 := by omega
  simp only [m_X10_crosses, hgI_k, hgR_k, hpI_k, hpR_k, hpZ_k, haI_k, haR_k, hsI_k, hsZ_k, hlen_k, hlet_e, hret_e, hretZ_0, hretZ_1, hif_e, okk_setV, okk_setF, nV, nF, fV, vF, hcallV_b, hbind_s, y_personOf0 hs hp, y_over hs hb, ix_10 hp, ix_22 hp, ix_58 hp, ix_n j2, ix_n j3, haI_n, hsI_n, kk_220 hs, kk_230 hs, rf_220_20 hs, ln_230 hs, i1, i2, i3, hV_setV_i (show 22 + 9 * p + b ≠ 10 + 3 * p by omega), hV_setV_i (show 58 + 9 * p + b ≠ 10 + 3 * p by omega), hV_setV_i (show 58 + 9 * p + b ≠ 22 + 9 * p + b by omega)]
  rw [setV_put1 u, setV_put, setV_put]
  rfl
theorem x_goOver {u : hS} {s t p b : Nat} {S : Nat → Int} (r : RepS u s t S) (ws : WS S) (d : s + 5 ≤ t ∨ t + 18 ≤ s) (hp : (p : Int) < S 4) (hb : (b : Int) < S 2) : ∃ v, m_X4_goOver s p b u = some (0, v) ∧ RepS v s t (qCross S p b) ∧ ext u v ∧ (shp u → shp v) ∧ ∀ a, a < s ∨ s + 4 < a → agr u v a := by
  have ht := r.ht
  have ha := r.ha
  have w2 := ws.2.2.1
  have w4 := ws.2.2.2.2.1
  have i1 : p < 4 := by omega
  have i2 : 9 * p + b < 36 := by omega
  refine ⟨hsetV (hsetV (hsetV u (s + 1) p (qEnd S (94 + 2 * b) (S (10 + 3 * p)))) (s + 3) (9 * p + b) (w32 (S (22 + 9 * p + b) + 1))) (s + 4) (9 * p + b) (w32 (S (58 + 9 * p + b) + 1)), ?_, ?_, ?_, ?_, ?_⟩
  · simp only [m_X4_goOver, hgI_k, hgR_k, hpI_k, hpR_k, hpZ_k, haI_k, haR_k, hsI_k, hsZ_k, hlen_k, hlet_e, hret_e, hretZ_0, hretZ_1, hif_e, okk_setV, okk_setF, nV, nF, fV, vF, haI_n, hsI_n, hcallV_b, hbind_s, ix_9 i1 (show b < 9 by omega), StA.k0 ha, StA.k1 ha, StA.k2 ha, StA.k3 ha, StA.k4 ha, StA.n1 ha, StA.n2 ha, StA.n3 ha, StA.n4 ha, StA.f2 ha, StA.f3 ha, StA.f4 ha, StA.f5 ha, r.to, TwA.k0 ht, TwA.k1 ht, TwA.k2 ht, TwA.k3 ht, TwA.k4 ht, TwA.k5 ht, TwA.k6 ht, TwA.k7 ht, TwA.k8 ht, TwA.k9 ht, TwA.k10 ht, TwA.k11 ht, TwA.k12 ht, TwA.k13 ht, TwA.k14 ht, TwA.k15 ht, TwA.k16 ht, TwA.k17 ht, TwA.n2 ht, TwA.n3 ht, TwA.n4 ht, TwA.n6 ht, TwA.n7 ht, TwA.n8 ht, TwA.n9 ht, TwA.n10 ht, TwA.n11 ht, TwA.n12 ht, TwA.n13 ht, TwA.n14 ht, TwA.n15 ht, TwA.n16 ht, TwA.n17 ht, TwA.f2 ht, TwA.f3 ht, TwA.f5 ht, TwA.f6 ht, TwA.f8 ht, TwA.f9 ht, TwA.f11 ht, TwA.f12 ht, TwA.f13 ht, TwA.f14 ht, TwA.f15 ht, TwA.b0 ht, TwA.b1 ht, TwA.b2 ht, TwA.g0 ht, TwA.g1 ht, TwA.g2 ht, i1, i2, r.at p hp, x_over r ws hb, hV_setV_a (show s + 3 ≠ s + 1 by omega), hV_setV_a (show s + 4 ≠ s + 1 by omega), hV_setV_a (show s + 4 ≠ s + 3 by omega), r.cro p b hp hb, r.sin p b hp hb]
  · have q1 := r.setAt d i1 w2.2 w4.2 (qEnd S (94 + 2 * b) (S (10 + 3 * p)))
    have q2 := q1.setCro d (p := p) (b := b) i1 (by omega) (by rw [sup_n (by omega)]; omega) (by rw [sup_n (by omega)]; omega) (w32 (S (22 + 9 * p + b) + 1))
    exact q2.setSin d (p := p) (b := b) i1 (by omega) (by rw [sup_n (by omega), sup_n (by omega)]; omega) (by rw [sup_n (by omega), sup_n (by omega)]; omega) (w32 (S (58 + 9 * p + b) + 1))
  · exact ((ext.setV _ _ _ _).tr (ext.setV _ _ _ _)).tr (ext.setV _ _ _ _)
  · exact fun h => h
  · intro a ha
    exact ((agr.setV (by omega)).tr (agr.setV (by omega))).tr (agr.setV (by omega))
theorem twn_sup {S : Nat → Int} {k : Nat} {x : Int} (h : k = 6 ∨ 10 ≤ k ∧ k < 94) : twn (sup S k x) = twn S := by
  funext j
  unfold twn
  by_cases h1 : j = 0 ∨ j = 2 ∨ 94 ≤ j ∧ j < 112
  · rw [if_pos h1, if_pos h1, sup_n (by omega)]
  · rw [if_neg h1, if_neg h1]
theorem WS_sup {S : Nat → Int} {k : Nat} {x : Int} (h : 8 ≤ k) (w : WS S) : WS (sup S k x) := by
  unfold WS
  rw [sup_n (by omega), sup_n (by omega), sup_n (by omega), sup_n (by omega), sup_n (by omega), sup_n (by omega), sup_n (by omega), sup_n (by omega)]
  exact w
theorem qEnd_in {S : Nat → Int} {a : Nat} {q : Int} (h : qEnd S a q ≠ -1) : qEnd S a q = S a ∨ qEnd S a q = S (a + 1) := by
  unfold qEnd at h ⊢
  split
  · exact Or.inr rfl
  · rename_i h1
    rw [if_neg h1] at h
    split
    · exact Or.inl rfl
    · rename_i h2
      rw [if_neg h2] at h
      exact absurd rfl h
theorem WV_at {S : Nat → Int} {p : Nat} {x : Int} (hp : p < 4) (w : WS S) (v : WV S) (h : 0 ≤ x ∧ x < S 0) : WV (sup S (10 + 3 * p) x) := by
  obtain ⟨v1, v2, v3, v4, v5⟩ := v
  have w2 := w.2.2.1
  have w4 := w.2.2.2.2.1
  refine ⟨fun b hb => ?_, fun b hb => ?_, fun q hq => ?_, fun q b hq hb => ?_, fun k hk => ?_⟩
  · rw [sup_n (by omega)] at hb
    rw [sup_n (by omega), sup_n (by omega), sup_n (by omega)]
    exact v1 b hb
  · rw [sup_n (by omega)] at hb
    rw [sup_n (by omega), sup_n (by omega), sup_n (by omega)]
    exact v2 b hb
  · rw [sup_n (by omega)] at hq
    have z := v3 q hq
    rw [sup_n (j := 11 + 3 * q) (by omega), sup_n (j := 12 + 3 * q) (by omega), sup_n (j := 0) (by omega), sup_n (j := 6) (by omega)]
    by_cases e : q = p
    · subst e
      rw [sup_s]
      exact ⟨h, z.2⟩
    · rw [sup_n (by omega)]
      exact z
  · rw [sup_n (by omega)] at hq hb
    rw [sup_n (by omega), sup_n (by omega), sup_n (by omega)]
    exact v4 q b hq hb
  · rw [sup_n (by omega)] at hk
    rw [sup_n (by omega), sup_n (by omega), sup_n (by omega), sup_n (by omega), sup_n (by omega), sup_n (by omega)]
    exact v5 k hk
theorem WV_cro {S : Nat → Int} {p b : Nat} {x y : Int} (hp : p < 4) (hb : b < 9) (w : WS S) (v : WV S) (h : 0 ≤ y ∧ y ≤ x ∧ x ≤ S 1) : WV (sup (sup S (22 + 9 * p + b) x) (58 + 9 * p + b) y) := by
  obtain ⟨v1, v2, v3, v4, v5⟩ := v
  have w2 := w.2.2.1
  have w4 := w.2.2.2.2.1
  have s0 : ∀ j, j < 22 ∨ 94 ≤ j → sup (sup S (22 + 9 * p + b) x) (58 + 9 * p + b) y j = S j := fun j hj => by rw [sup_n (by omega), sup_n (by omega)]
  refine ⟨fun b hb => ?_, fun b hb => ?_, fun q hq => ?_, fun q c hq hc => ?_, fun k hk => ?_⟩
  · rw [s0 _ (by omega)] at hb
    rw [s0 _ (by omega), s0 _ (by omega), s0 _ (by omega)]
    exact v1 b hb
  · rw [s0 _ (by omega)] at hb
    rw [s0 _ (by omega), s0 _ (by omega), s0 _ (by omega)]
    exact v2 b hb
  · rw [s0 _ (by omega)] at hq
    rw [s0 _ (by omega), s0 _ (by omega), s0 _ (by omega), s0 _ (by omega), s0 _ (by omega)]
    exact v3 q hq
  · rw [s0 _ (by omega)] at hq hc
    rw [s0 1 (by omega)]
    by_cases e : 9 * q + c = 9 * p + b
    · rw [show 58 + 9 * q + c = 58 + 9 * p + b by omega, show 22 + 9 * q + c = 22 + 9 * p + b by omega, sup_s, sup_n (by omega), sup_s]
      exact h
    · rw [sup_n (by omega), sup_n (by omega), sup_n (by omega), sup_n (by omega)]
      exact v4 q c hq hc
  · rw [s0 _ (by omega)] at hk
    rw [s0 _ (by omega), s0 _ (by omega), s0 _ (by omega), s0 _ (by omega), s0 _ (by omega), s0 _ (by omega)]
    exact v5 k hk
theorem qLeft_id {S : Nat → Int} (w : WS S) (v : WV S) {p b : Nat} (hp : (p : Int) < S 4) (hb : (b : Int) < S 2) : qLeft S p b = S 1 - S (22 + 9 * p + b) := by
  have z := v.2.2.2.1 p b hp hb
  have w1 := w.2.1
  exact w32_id ⟨by omega, by omega⟩
theorem qCross_ok {S : Nat → Int} (w : WS S) (v : WV S) {p b : Nat} (hp : (p : Int) < S 4) (hb : (b : Int) < S 2) (hc : qCan S p b) : twn (qCross S p b) = twn S ∧ WS (qCross S p b) ∧ WV (qCross S p b) ∧ ∀ k, 94 ≤ k → qCross S p b k = S k := by
  have w1 := w.2.1
  have w2 := w.2.2.1
  have w4 := w.2.2.2.2.1
  have hl := hc.2
  rw [qLeft_id w v hp hb] at hl
  have z := v.2.2.2.1 p b hp hb
  have e1 : w32 (S (22 + 9 * p + b) + 1) = S (22 + 9 * p + b) + 1 := w32_id ⟨by omega, by omega⟩
  have e2 : w32 (S (58 + 9 * p + b) + 1) = S (58 + 9 * p + b) + 1 := w32_id ⟨by omega, by omega⟩
  have hx : 0 ≤ qEnd S (94 + 2 * b) (S (10 + 3 * p)) ∧ qEnd S (94 + 2 * b) (S (10 + 3 * p)) < S 0 := by
    have h0 := hc.1
    have h1 := v.1 b hb
    rcases qEnd_in (S := S) (a := 94 + 2 * b) (q := S (10 + 3 * p)) (by omega) with h | h <;> rw [h] <;> omega
  refine ⟨?_, ?_, ?_, ?_⟩
  · unfold qCross
    rw [twn_sup (by omega), twn_sup (by omega), twn_sup (by omega)]
  · exact WS_sup (by omega) (WS_sup (by omega) (WS_sup (by omega) w))
  · unfold qCross
    rw [e1, e2]
    refine WV_cro (by omega) (by omega) (WS_sup (by omega) w) (WV_at (by omega) w v hx) ?_
    rw [sup_n (by omega)]
    omega
  · intro k hk
    unfold qCross
    rw [sup_n (by omega), sup_n (by omega), sup_n (by omega)]
