theorem sup_at_ok {S : Nat → Int} (w : WS S) (v : WV S) {p : Nat} (hp : p < 4) {x : Int} (hx : 0 ≤ x ∧ x < S 0) : twn (sup S (10 + 3 * p) x) = twn S ∧ WS (sup S (10 + 3 * p) x) ∧ WV (sup S (10 + 3 * p) x) ∧ ∀ k, 94 ≤ k → sup S (10 + 3 * p) x k = S k :=
  ⟨twn_sup (by omega), WS_sup (by omega) w, WV_at hp w v hx, fun k hk => sup_n (by omega)⟩
theorem frost_01 (S : Nat → Int) : qFrost S = 0 ∨ qFrost S = 1 := anyN_01 _ _ _
theorem a_sail {u : hS} (hs : shp u) (ai : actInv u) (p f : Int) : actAgree (m_X9_sail 1 p f) (m_X10_sail 220 p f) u := by
  obtain ⟨t, c, r, ru, h25⟩ := id ai
  have ws := r.2.2.2.1
  have wv := r.2.2.2.2
  have ht := r.1.ht
  have w2 := ws.2.2.1
  have w3 := ws.2.2.2.1
  have w4 := ws.2.2.2.2.1
  have n10 : ¬ (1 : Int) = 0 := by decide
  by_cases hp : 0 ≤ p ∧ p < hV u 230 4
  case neg =>
    refine actAgree_same (r := -1) hs ai ?_ ?_
    · simp only [m_X9_sail_L41, m_X9_sail, hgI_k, hgR_k, hpI_k, hpR_k, hpZ_k, haI_k, haR_k, hsI_k, hsZ_k, hlen_k, hlet_e, hret_e, hretZ_0, hretZ_1, hif_e, okk_setV, okk_setF, nV, nF, fV, vF, hcallV_b, hbind_s, x_isPerson hs r.1, kk_1 hs, kk_30 hs, rf_1_3 hs, r.1.to, TwA.k0 ht, TwA.k1 ht, TwA.k2 ht, TwA.k3 ht, TwA.k4 ht, TwA.k5 ht, TwA.k6 ht, TwA.k7 ht, TwA.k8 ht, TwA.k9 ht, TwA.k10 ht, TwA.k11 ht, TwA.k12 ht, TwA.k13 ht, TwA.k14 ht, TwA.k15 ht, TwA.k16 ht, TwA.k17 ht, TwA.n2 ht, TwA.n3 ht, TwA.n4 ht, TwA.n6 ht, TwA.n7 ht, TwA.n8 ht, TwA.n9 ht, TwA.n10 ht, TwA.n11 ht, TwA.n12 ht, TwA.n13 ht, TwA.n14 ht, TwA.n15 ht, TwA.n16 ht, TwA.n17 ht, TwA.f2 ht, TwA.f3 ht, TwA.f5 ht, TwA.f6 ht, TwA.f8 ht, TwA.f9 ht, TwA.f11 ht, TwA.f12 ht, TwA.f13 ht, TwA.f14 ht, TwA.f15 ht, TwA.b0 ht, TwA.b1 ht, TwA.b2 ht, TwA.g0 ht, TwA.g1 ht, TwA.g2 ht, if_neg hp, if_true]
    · simp only [m_X10_sail_L29, m_X10_sail, hgI_k, hgR_k, hpI_k, hpR_k, hpZ_k, haI_k, haR_k, hsI_k, hsZ_k, hlen_k, hlet_e, hret_e, hretZ_0, hretZ_1, hif_e, okk_setV, okk_setF, nV, nF, fV, vF, hcallV_b, hbind_s, y_isPerson hs, kk_220 hs, if_neg hp, if_true]
  by_cases hf : 0 ≤ f ∧ f < hV u 230 3
  case neg =>
    refine actAgree_same (r := -1) hs ai ?_ ?_
    · simp only [m_X9_sail_L41, m_X9_sail, hgI_k, hgR_k, hpI_k, hpR_k, hpZ_k, haI_k, haR_k, hsI_k, hsZ_k, hlen_k, hlet_e, hret_e, hretZ_0, hretZ_1, hif_e, okk_setV, okk_setF, nV, nF, fV, vF, hcallV_b, hbind_s, x_isPerson hs r.1, kk_1 hs, kk_30 hs, rf_1_3 hs, r.1.to, TwA.k0 ht, TwA.k1 ht, TwA.k2 ht, TwA.k3 ht, TwA.k4 ht, TwA.k5 ht, TwA.k6 ht, TwA.k7 ht, TwA.k8 ht, TwA.k9 ht, TwA.k10 ht, TwA.k11 ht, TwA.k12 ht, TwA.k13 ht, TwA.k14 ht, TwA.k15 ht, TwA.k16 ht, TwA.k17 ht, TwA.n2 ht, TwA.n3 ht, TwA.n4 ht, TwA.n6 ht, TwA.n7 ht, TwA.n8 ht, TwA.n9 ht, TwA.n10 ht, TwA.n11 ht, TwA.n12 ht, TwA.n13 ht, TwA.n14 ht, TwA.n15 ht, TwA.n16 ht, TwA.n17 ht, TwA.f2 ht, TwA.f3 ht, TwA.f5 ht, TwA.f6 ht, TwA.f8 ht, TwA.f9 ht, TwA.f11 ht, TwA.f12 ht, TwA.f13 ht, TwA.f14 ht, TwA.f15 ht, TwA.b0 ht, TwA.b1 ht, TwA.b2 ht, TwA.g0 ht, TwA.g1 ht, TwA.g2 ht, if_pos hp, if_neg n10, r.1.v3]
      by_cases h0 : f < 0
      · rw [if_pos h0]
      · rw [if_neg h0, if_pos (by omega)]
    · simp only [m_X10_sail_L29, m_X10_sail, hgI_k, hgR_k, hpI_k, hpR_k, hpZ_k, haI_k, haR_k, hsI_k, hsZ_k, hlen_k, hlet_e, hret_e, hretZ_0, hretZ_1, hif_e, okk_setV, okk_setF, nV, nF, fV, vF, hcallV_b, hbind_s, y_isPerson hs, haI_3, kk_220 hs, kk_230 hs, rf_220_20 hs, ln_230 hs, lt_c 3 160 rfl, if_pos hp, if_neg n10]
      by_cases h0 : f < 0
      · rw [if_pos h0]
      · rw [if_neg h0, if_pos (by omega)]
  obtain ⟨p, rfl⟩ : ∃ n : Nat, p = n := ⟨p.toNat, by omega⟩
  obtain ⟨f, rfl⟩ : ∃ n : Nat, f = n := ⟨f.toNat, by omega⟩
  have i1 : p < 4 := by omega
  have n0 : ¬ (f : Int) < 0 := by omega
  have n1 : ¬ (f : Int) ≥ hV u 230 3 := by omega
  have ha := r.1.ha
  have i2 : 112 + 2 * f + 1 < 160 := by omega
  have hf4 : f < 4 := by omega
  rcases frost_01 (hV u 230) with h0 | h0
  case inr =>
    refine actAgree_same (r := -1) hs ai ?_ ?_
    · simp only [m_X9_sail_L41, m_X9_sail, hgI_k, hgR_k, hpI_k, hpR_k, hpZ_k, haI_k, haR_k, hsI_k, hsZ_k, hlen_k, hlet_e, hret_e, hretZ_0, hretZ_1, hif_e, okk_setV, okk_setF, nV, nF, fV, vF, hcallV_b, hbind_s, x_isPerson hs r.1, kk_1 hs, kk_30 hs, rf_1_3 hs, r.1.to, TwA.k0 ht, TwA.k1 ht, TwA.k2 ht, TwA.k3 ht, TwA.k4 ht, TwA.k5 ht, TwA.k6 ht, TwA.k7 ht, TwA.k8 ht, TwA.k9 ht, TwA.k10 ht, TwA.k11 ht, TwA.k12 ht, TwA.k13 ht, TwA.k14 ht, TwA.k15 ht, TwA.k16 ht, TwA.k17 ht, TwA.n2 ht, TwA.n3 ht, TwA.n4 ht, TwA.n6 ht, TwA.n7 ht, TwA.n8 ht, TwA.n9 ht, TwA.n10 ht, TwA.n11 ht, TwA.n12 ht, TwA.n13 ht, TwA.n14 ht, TwA.n15 ht, TwA.n16 ht, TwA.n17 ht, TwA.f2 ht, TwA.f3 ht, TwA.f5 ht, TwA.f6 ht, TwA.f8 ht, TwA.f9 ht, TwA.f11 ht, TwA.f12 ht, TwA.f13 ht, TwA.f14 ht, TwA.f15 ht, TwA.b0 ht, TwA.b1 ht, TwA.b2 ht, TwA.g0 ht, TwA.g1 ht, TwA.g2 ht, if_pos hp, if_neg n10, r.1.v3, if_neg n0, if_neg n1, x_isFrosty r.1 ws, h0]
    · simp only [m_X10_sail_L29, m_X10_sail, hgI_k, hgR_k, hpI_k, hpR_k, hpZ_k, haI_k, haR_k, hsI_k, hsZ_k, hlen_k, hlet_e, hret_e, hretZ_0, hretZ_1, hif_e, okk_setV, okk_setF, nV, nF, fV, vF, hcallV_b, hbind_s, y_isPerson hs, haI_3, kk_220 hs, kk_230 hs, rf_220_20 hs, ln_230 hs, lt_c 3 160 rfl, if_pos hp, if_neg n10, if_neg n0, if_neg n1, y_isFrost hs ws, h0]
  by_cases hq : qEnd (hV u 230) (112 + 2 * f) (hV u 230 (10 + 3 * p)) = -1
  · refine actAgree_same (r := -1) hs ai ?_ ?_
    · simp only [m_X9_sail_L41, m_X9_sail, hgI_k, hgR_k, hpI_k, hpR_k, hpZ_k, haI_k, haR_k, hsI_k, hsZ_k, hlen_k, hlet_e, hret_e, hretZ_0, hretZ_1, hif_e, okk_setV, okk_setF, nV, nF, fV, vF, hcallV_b, hbind_s, x_isPerson hs r.1, kk_1 hs, kk_30 hs, rf_1_3 hs, r.1.to, TwA.k0 ht, TwA.k1 ht, TwA.k2 ht, TwA.k3 ht, TwA.k4 ht, TwA.k5 ht, TwA.k6 ht, TwA.k7 ht, TwA.k8 ht, TwA.k9 ht, TwA.k10 ht, TwA.k11 ht, TwA.k12 ht, TwA.k13 ht, TwA.k14 ht, TwA.k15 ht, TwA.k16 ht, TwA.k17 ht, TwA.n2 ht, TwA.n3 ht, TwA.n4 ht, TwA.n6 ht, TwA.n7 ht, TwA.n8 ht, TwA.n9 ht, TwA.n10 ht, TwA.n11 ht, TwA.n12 ht, TwA.n13 ht, TwA.n14 ht, TwA.n15 ht, TwA.n16 ht, TwA.n17 ht, TwA.f2 ht, TwA.f3 ht, TwA.f5 ht, TwA.f6 ht, TwA.f8 ht, TwA.f9 ht, TwA.f11 ht, TwA.f12 ht, TwA.f13 ht, TwA.f14 ht, TwA.f15 ht, TwA.b0 ht, TwA.b1 ht, TwA.b2 ht, TwA.g0 ht, TwA.g1 ht, TwA.g2 ht, StA.k0 ha, StA.k1 ha, StA.k2 ha, StA.k3 ha, StA.k4 ha, StA.n1 ha, StA.n2 ha, StA.n3 ha, StA.n4 ha, StA.f2 ha, StA.f3 ha, StA.f4 ha, StA.f5 ha, haI_n, i1, r.1.at p hp.2, if_pos hp, if_neg n10, r.1.v3, if_neg n0, if_neg n1, x_isFrosty r.1 ws, h0, if_true, x_ferry r.1 ws hf.2, hq, ne_eq, not_true_eq_false, if_false]
    · simp only [m_X10_sail_L29, m_X10_sail, hgI_k, hgR_k, hpI_k, hpR_k, hpZ_k, haI_k, haR_k, hsI_k, hsZ_k, hlen_k, hlet_e, hret_e, hretZ_0, hretZ_1, hif_e, okk_setV, okk_setF, nV, nF, fV, vF, hcallV_b, hbind_s, y_isPerson hs, haI_3, kk_220 hs, kk_230 hs, rf_220_20 hs, ln_230 hs, lt_c 3 160 rfl, if_pos hp, if_neg n10, if_neg n0, if_neg n1, y_isFrost hs ws, h0, if_true, y_personOf0 hs i1, ix_112 hf4, y_otherEnd hs i2, hq, if_neg (show ¬ (-1 : Int) ≥ 0 by decide)]
  have hx : 0 ≤ qEnd (hV u 230) (112 + 2 * f) (hV u 230 (10 + 3 * p)) ∧ qEnd (hV u 230) (112 + 2 * f) (hV u 230 (10 + 3 * p)) < hV u 230 0 := by
    have h1 := wv.2.1 f hf.2
    rcases qEnd_in hq with h | h <;> rw [h] <;> omega
  obtain ⟨v, hv, ok, rv, rvu, _⟩ := x_keepAct hs r ru
  have dt : 30 + 5 ≤ t ∨ t + 18 ≤ 30 := by have := r.2.1; omega
  have q1 := rv.1.setAt dt i1 (by omega) (by omega) (qEnd (hV u 230) (112 + 2 * f) (hV u 230 (10 + 3 * p)))
  obtain ⟨ok', rf', ru'⟩ := act_x ok rv rvu (ext.setV v (30 + 1) p _) ok.2.1 (fun a ha => agr.setV (by omega)) q1 (sup_at_ok ws wv i1 hx)
  have hs' := ok'.2.1
  have hsv := ok.2.1
  have hav := rv.1.ha
  have af := act_fin hs' rf' ru'
  have f230 := ok'.V 230 (by decide)
  have f233 := ok'.V 233 (by decide)
  have f25 := ok'.V 220 (by decide)
  have f25' : hV (hsetV v (30 + 1) p (qEnd (hV u 230) (112 + 2 * f) (hV u 230 (10 + 3 * p)))) 220 25 = c := by rw [f25]; exact h25
  have ky := y_keepsAct hs' (by obtain ⟨f, _, _, h, _⟩ := ru; exact h) f25'
  rw [f230, f233] at ky
  have ws' : WS (hV (hsetV v (30 + 1) p (qEnd (hV u 230) (112 + 2 * f) (hV u 230 (10 + 3 * p)))) 230) := by rw [f230]; exact ws
  have hs2 : shp (hsetV (hput (hsetV v (30 + 1) p (qEnd (hV u 230) (112 + 2 * f) (hV u 230 (10 + 3 * p)))) 233 (qKeep (hV u 233) c (hV u 230))) 220 25 (qKeepN c : Int)) := hs'
  have f2 : hV (hsetV (hput (hsetV v (30 + 1) p (qEnd (hV u 230) (112 + 2 * f) (hV u 230 (10 + 3 * p)))) 233 (qKeep (hV u 233) c (hV u 230))) 220 25 (qKeepN c : Int)) 230 = hV u 230 := by rw [hV_ne (by decide), hV_put_n (by decide), f230]
  have i3 : 10 + 3 * p < 160 := by omega
  refine ⟨qEnd (hV u 230) (112 + 2 * f) (hV u 230 (10 + 3 * p)), _, _, ?_, ?_, ok', af.1, af.2⟩
  · simp only [m_X9_sail_L41, m_X9_sail, hgI_k, hgR_k, hpI_k, hpR_k, hpZ_k, haI_k, haR_k, hsI_k, hsZ_k, hlen_k, hlet_e, hret_e, hretZ_0, hretZ_1, hif_e, okk_setV, okk_setF, nV, nF, fV, vF, hcallV_b, hbind_s, x_isPerson hs r.1, kk_1 hs, kk_30 hs, rf_1_3 hs, r.1.to, TwA.k0 ht, TwA.k1 ht, TwA.k2 ht, TwA.k3 ht, TwA.k4 ht, TwA.k5 ht, TwA.k6 ht, TwA.k7 ht, TwA.k8 ht, TwA.k9 ht, TwA.k10 ht, TwA.k11 ht, TwA.k12 ht, TwA.k13 ht, TwA.k14 ht, TwA.k15 ht, TwA.k16 ht, TwA.k17 ht, TwA.n2 ht, TwA.n3 ht, TwA.n4 ht, TwA.n6 ht, TwA.n7 ht, TwA.n8 ht, TwA.n9 ht, TwA.n10 ht, TwA.n11 ht, TwA.n12 ht, TwA.n13 ht, TwA.n14 ht, TwA.n15 ht, TwA.n16 ht, TwA.n17 ht, TwA.f2 ht, TwA.f3 ht, TwA.f5 ht, TwA.f6 ht, TwA.f8 ht, TwA.f9 ht, TwA.f11 ht, TwA.f12 ht, TwA.f13 ht, TwA.f14 ht, TwA.f15 ht, TwA.b0 ht, TwA.b1 ht, TwA.b2 ht, TwA.g0 ht, TwA.g1 ht, TwA.g2 ht, StA.k0 ha, StA.k1 ha, StA.k2 ha, StA.k3 ha, StA.k4 ha, StA.n1 ha, StA.n2 ha, StA.n3 ha, StA.n4 ha, StA.f2 ha, StA.f3 ha, StA.f4 ha, StA.f5 ha, haI_n, hsI_n, i1, r.1.at p hp.2, if_pos hp, if_neg n10, r.1.v3, if_neg n0, if_neg n1, x_isFrosty r.1 ws, h0, if_true, x_ferry r.1 ws hf.2, if_pos hq, hv, kk_1 hsv, rf_1_3 hsv, StA.k0 hav, StA.k1 hav, StA.k2 hav, StA.k3 hav, StA.k4 hav, StA.n1 hav, StA.n2 hav, StA.n3 hav, StA.n4 hav, StA.f2 hav, StA.f3 hav, StA.f4 hav, StA.f5 hav]
  · simp only [m_X10_sail_L29, m_X10_sail, hgI_k, hgR_k, hpI_k, hpR_k, hpZ_k, haI_k, haR_k, hsI_k, hsZ_k, hlen_k, hlet_e, hret_e, hretZ_0, hretZ_1, hif_e, okk_setV, okk_setF, nV, nF, fV, vF, hcallV_b, hbind_s, y_isPerson hs', haI_3, kk_220 hs', kk_230 hs', rf_220_20 hs', ln_230 hs', lt_c 3 160 rfl, f230, if_pos hp, if_neg n10, if_neg n0, if_neg n1, y_isFrost hs' ws', h0, if_true, y_personOf0 hs' i1, ix_112 hf4, y_otherEnd hs' i2, if_pos hx.1, ky, kk_220 hs2, rf_220_20 hs2, kk_230 hs2, ln_230 hs2, ix_10 i1, hsI_n, i3, setV_put1 _ 230, f2]
