theorem qCross_lo {S : Nat → Int} {p b k : Nat} (h : k < 10) : qCross S p b k = S k := by
  unfold qCross
  rw [sup_n (by omega), sup_n (by omega), sup_n (by omega)]
theorem a_carry {u : hS} (hs : shp u) (ai : actInv u) (ex : ∀ b, b < 9 → hV u 231 b = 0) (p q b : Int) : actAgree (m_X9_carry 1 p q b) (m_X10_carry 220 p q b) u := by
  obtain ⟨t, c, r, ru, h25⟩ := id ai
  have ws := r.2.2.2.1
  have wv := r.2.2.2.2
  have w2 := ws.2.2.1
  have w4 := ws.2.2.2.2.1
  have n10 : ¬ (1 : Int) = 0 := by decide
  have n11 : (1 : Int) ≠ 0 := by decide
  by_cases hp : 0 ≤ p ∧ p < hV u 230 4
  case neg =>
    refine actAgree_same (r := -1) hs ai ?_ ?_
    · simp only [m_X9_carry_L17, m_X9_carry_L52, m_X9_carry, hgI_k, hgR_k, hpI_k, hpR_k, hpZ_k, haI_k, haR_k, hsI_k, hsZ_k, hlen_k, hlet_e, hret_e, hretZ_0, hretZ_1, hif_e, okk_setV, okk_setF, nV, nF, fV, vF, hcallV_b, hbind_s, x_arePair hs r.1, kk_1 hs, if_neg (fun z : (0 ≤ p ∧ p < hV u 230 4) ∧ (0 ≤ q ∧ q < hV u 230 4) ∧ p ≠ q => hp z.1), if_true]
    · simp only [m_X10_carry_L29, m_X10_carry_L55, m_X10_carry, hgI_k, hgR_k, hpI_k, hpR_k, hpZ_k, haI_k, haR_k, hsI_k, hsZ_k, hlen_k, hlet_e, hret_e, hretZ_0, hretZ_1, hif_e, okk_setV, okk_setF, nV, nF, fV, vF, hcallV_b, hbind_s, y_isPerson hs, kk_220 hs, if_neg hp, if_true]
  by_cases hq : 0 ≤ q ∧ q < hV u 230 4
  case neg =>
    refine actAgree_same (r := -1) hs ai ?_ ?_
    · simp only [m_X9_carry_L17, m_X9_carry_L52, m_X9_carry, hgI_k, hgR_k, hpI_k, hpR_k, hpZ_k, haI_k, haR_k, hsI_k, hsZ_k, hlen_k, hlet_e, hret_e, hretZ_0, hretZ_1, hif_e, okk_setV, okk_setF, nV, nF, fV, vF, hcallV_b, hbind_s, x_arePair hs r.1, kk_1 hs, if_neg (fun z : (0 ≤ p ∧ p < hV u 230 4) ∧ (0 ≤ q ∧ q < hV u 230 4) ∧ p ≠ q => hq z.2.1), if_true]
    · simp only [m_X10_carry_L29, m_X10_carry_L55, m_X10_carry, hgI_k, hgR_k, hpI_k, hpR_k, hpZ_k, haI_k, haR_k, hsI_k, hsZ_k, hlen_k, hlet_e, hret_e, hretZ_0, hretZ_1, hif_e, okk_setV, okk_setF, nV, nF, fV, vF, hcallV_b, hbind_s, y_isPerson hs, kk_220 hs, if_pos hp, if_neg hq, if_true, if_neg n10]
  by_cases hb : 0 ≤ b ∧ b < hV u 230 2
  case neg =>
    refine actAgree_same (r := -1) hs ai ?_ ?_
    · simp only [m_X9_carry_L17, m_X9_carry_L52, m_X9_carry, hgI_k, hgR_k, hpI_k, hpR_k, hpZ_k, haI_k, haR_k, hsI_k, hsZ_k, hlen_k, hlet_e, hret_e, hretZ_0, hretZ_1, hif_e, okk_setV, okk_setF, nV, nF, fV, vF, hcallV_b, hbind_s, x_arePair hs r.1, x_isBridge hs r.1, kk_1 hs, if_neg hb, ne_eq, not_true_eq_false, if_false]
      split <;> rfl
    · simp only [m_X10_carry_L29, m_X10_carry_L55, m_X10_carry, hgI_k, hgR_k, hpI_k, hpR_k, hpZ_k, haI_k, haR_k, hsI_k, hsZ_k, hlen_k, hlet_e, hret_e, hretZ_0, hretZ_1, hif_e, okk_setV, okk_setF, nV, nF, fV, vF, hcallV_b, hbind_s, y_isPerson hs, y_isBridge hs, kk_220 hs, if_pos hp, if_pos hq, if_neg hb, if_true, if_neg n10]
  by_cases hpq : p = q
  · refine actAgree_same (r := -1) hs ai ?_ ?_
    · simp only [m_X9_carry_L17, m_X9_carry_L52, m_X9_carry, hgI_k, hgR_k, hpI_k, hpR_k, hpZ_k, haI_k, haR_k, hsI_k, hsZ_k, hlen_k, hlet_e, hret_e, hretZ_0, hretZ_1, hif_e, okk_setV, okk_setF, nV, nF, fV, vF, hcallV_b, hbind_s, x_arePair hs r.1, kk_1 hs, if_neg (fun z : (0 ≤ p ∧ p < hV u 230 4) ∧ (0 ≤ q ∧ q < hV u 230 4) ∧ p ≠ q => z.2.2 hpq), if_true]
    · simp only [m_X10_carry_L29, m_X10_carry_L55, m_X10_carry, hgI_k, hgR_k, hpI_k, hpR_k, hpZ_k, haI_k, haR_k, hsI_k, hsZ_k, hlen_k, hlet_e, hret_e, hretZ_0, hretZ_1, hif_e, okk_setV, okk_setF, nV, nF, fV, vF, hcallV_b, hbind_s, y_isPerson hs, y_isBridge hs, kk_220 hs, if_pos hp, if_pos hq, if_pos hb, if_neg n10, if_neg (show ¬ p ≠ q from fun z => z hpq)]
  have hpair : (0 ≤ p ∧ p < hV u 230 4) ∧ (0 ≤ q ∧ q < hV u 230 4) ∧ p ≠ q := ⟨hp, hq, hpq⟩
  have hpq' : p ≠ q := hpq
  obtain ⟨p, rfl⟩ : ∃ n : Nat, p = n := ⟨p.toNat, by omega⟩
  obtain ⟨q, rfl⟩ : ∃ n : Nat, q = n := ⟨q.toNat, by omega⟩
  obtain ⟨b, rfl⟩ : ∃ n : Nat, b = n := ⟨b.toNat, by omega⟩
  have ip : p < 4 := by omega
  have iq : q < 4 := by omega
  have ib : b < 9 := by omega
  have ha := r.1.ha
  by_cases hat : hV u 230 (10 + 3 * p) = hV u 230 (10 + 3 * q)
  case neg =>
    refine actAgree_same (r := -1) hs ai ?_ ?_
    · simp only [m_X9_carry_L17, m_X9_carry_L52, m_X9_carry, hgI_k, hgR_k, hpI_k, hpR_k, hpZ_k, haI_k, haR_k, hsI_k, hsZ_k, hlen_k, hlet_e, hret_e, hretZ_0, hretZ_1, hif_e, okk_setV, okk_setF, nV, nF, fV, vF, haI_n, hcallV_b, hbind_s, x_arePair hs r.1, x_isBridge hs r.1, kk_1 hs, rf_1_3 hs, StA.k0 ha, StA.k1 ha, StA.k2 ha, StA.k3 ha, StA.k4 ha, StA.n1 ha, StA.n2 ha, StA.n3 ha, StA.n4 ha, StA.f2 ha, StA.f3 ha, StA.f4 ha, StA.f5 ha, if_pos hpair, if_pos hb, if_neg n10, if_pos n11, ip, iq, r.1.at p hp.2, r.1.at q hq.2, if_pos (show hV u 230 (10 + 3 * p) ≠ hV u 230 (10 + 3 * q) from hat)]
    · simp only [m_X10_carry_L29, m_X10_carry_L55, m_X10_carry, hgI_k, hgR_k, hpI_k, hpR_k, hpZ_k, haI_k, haR_k, hsI_k, hsZ_k, hlen_k, hlet_e, hret_e, hretZ_0, hretZ_1, hif_e, okk_setV, okk_setF, nV, nF, fV, vF, hcallV_b, hbind_s, y_isPerson hs, y_isBridge hs, kk_220 hs, if_pos hp, if_pos hq, if_pos hb, if_neg n10, if_pos hpq', y_personOf0 hs ip, y_personOf0 hs iq, if_pos (show hV u 230 (10 + 3 * p) ≠ hV u 230 (10 + 3 * q) from hat)]
  have nat' : ¬ hV u 230 (10 + 3 * p) ≠ hV u 230 (10 + 3 * q) := fun z => z hat
  have cx := x_canCross r.1 ws hp.2 hb.2 (qEnd_pos wv hb.2)
  by_cases hc : qCan (hV u 230) p b
  case neg =>
    have cy := (y_canCross hs ex (p := p) (b := b) ip ib).2 hc
    refine actAgree_same (r := -1) hs ai ?_ ?_
    · simp only [m_X9_carry_L17, m_X9_carry_L52, m_X9_carry, hgI_k, hgR_k, hpI_k, hpR_k, hpZ_k, haI_k, haR_k, hsI_k, hsZ_k, hlen_k, hlet_e, hret_e, hretZ_0, hretZ_1, hif_e, okk_setV, okk_setF, nV, nF, fV, vF, haI_n, hcallV_b, hbind_s, x_arePair hs r.1, x_isBridge hs r.1, kk_1 hs, rf_1_3 hs, StA.k0 ha, StA.k1 ha, StA.k2 ha, StA.k3 ha, StA.k4 ha, StA.n1 ha, StA.n2 ha, StA.n3 ha, StA.n4 ha, StA.f2 ha, StA.f3 ha, StA.f4 ha, StA.f5 ha, if_pos hpair, if_pos hb, if_neg n10, if_pos n11, ip, iq, r.1.at p hp.2, r.1.at q hq.2, if_neg nat', cx.2 hc, ne_eq, not_true_eq_false, if_false]
    · simp only [m_X10_carry_L29, m_X10_carry_L55, m_X10_carry, hgI_k, hgR_k, hpI_k, hpR_k, hpZ_k, haI_k, haR_k, hsI_k, hsZ_k, hlen_k, hlet_e, hret_e, hretZ_0, hretZ_1, hif_e, okk_setV, okk_setF, nV, nF, fV, vF, hcallV_b, hbind_s, y_isPerson hs, y_isBridge hs, kk_220 hs, if_pos hp, if_pos hq, if_pos hb, if_neg n10, if_pos hpq', y_personOf0 hs ip, y_personOf0 hs iq, if_neg nat', cy, ne_eq, not_true_eq_false, if_false]
  obtain ⟨v, hv, ok, rv, rvu, _⟩ := x_keepAct hs r ru
  have dt : 30 + 5 ≤ t ∨ t + 18 ≤ 30 := by have := r.2.1; omega
  obtain ⟨v1, hv1, rs1, e1, s1, g1⟩ := x_goOver rv.1 ws dt hp.2 hb.2
  have qo := qCross_ok ws wv hp.2 hb.2 hc
  have q1 := rs1.setAt dt iq (by rw [qCross_lo (by omega)]; omega) (by rw [qCross_lo (by omega)]; omega) (qCross (hV u 230) p b (10 + 3 * p))
  have hx : 0 ≤ qCross (hV u 230) p b (10 + 3 * p) ∧ qCross (hV u 230) p b (10 + 3 * p) < qCross (hV u 230) p b 0 := (qo.2.2.1.2.2.1 p (by rw [qCross_lo (by omega)]; exact hp.2)).1
  have qo2 := sup_at_ok qo.2.1 qo.2.2.1 iq hx
  obtain ⟨ok', rf', ru'⟩ := act_x ok rv rvu (e1.tr (ext.setV v1 (30 + 1) q (qCross (hV u 230) p b (10 + 3 * p)))) (s1 ok.2.1) (fun a ha => (g1 a ha).tr (agr.setV (by omega))) q1 ⟨qo2.1.trans qo.1, qo2.2.1, qo2.2.2.1, fun k hk => (qo2.2.2.2 k hk).trans (qo.2.2.2 k hk)⟩
  have hs' := ok'.2.1
  have hsv := ok.2.1
  have hs1 : shp v1 := s1 hsv
  have ha1 := rs1.ha
  have er := rs1.at p (by rw [qCross_lo (by omega)]; exact hp.2)
  have af := act_fin hs' rf' ru'
  have f230 := ok'.V 230 (by decide)
  have f233 := ok'.V 233 (by decide)
  have f25 : hV (hsetV v1 (30 + 1) q (qCross (hV u 230) p b (10 + 3 * p))) 220 25 = c := by rw [ok'.V 220 (by decide)]; exact h25
  have ex' : ∀ k, k < 9 → hV (hsetV v1 (30 + 1) q (qCross (hV u 230) p b (10 + 3 * p))) 231 k = 0 := by rw [ok'.V 231 (by decide)]; exact ex
  have cy := (y_canCross hs' ex' (p := p) (b := b) ip ib).1 (by rw [f230]; exact hc)
  have ky := y_keepsAct hs' (by obtain ⟨f, _, _, h, _⟩ := ru; exact h) f25
  rw [f230, f233] at ky
  have hs2 : shp (hsetV (hput (hsetV v1 (30 + 1) q (qCross (hV u 230) p b (10 + 3 * p))) 233 (qKeep (hV u 233) c (hV u 230))) 220 25 (qKeepN c : Int)) := hs'
  have f2 : hV (hsetV (hput (hsetV v1 (30 + 1) q (qCross (hV u 230) p b (10 + 3 * p))) 233 (qKeep (hV u 233) c (hV u 230))) 220 25 (qKeepN c : Int)) 230 = hV u 230 := by rw [hV_ne (by decide), hV_put_n (by decide), f230]
  have cr := y_crosses hs2 (p := p) (b := b) ip ib
  rw [f2] at cr
  have hs3 : shp (hput (hsetV (hput (hsetV v1 (30 + 1) q (qCross (hV u 230) p b (10 + 3 * p))) 233 (qKeep (hV u 233) c (hV u 230))) 220 25 (qKeepN c : Int)) 230 (qCross (hV u 230) p b)) := hs'
  have po := y_personOf0 hs3 (p := p) ip
  rw [hV_put_s] at po
  have po4 := y_personOf0 af.1.2.1 (p := p) ip
  rw [hV_put_s, sup_n (show 10 + 3 * p ≠ 10 + 3 * q by omega)] at po4
  have hs4 := af.1.2.1
  have j1 : 10 + 3 * q < 160 := by omega
  have fv : hV (hsetV v1 (30 + 1) q (qCross (hV u 230) p b (10 + 3 * p))) (30 + 1) p = qCross (hV u 230) p b (10 + 3 * p) := by rw [hV_setV_i (by omega)]; exact er
  refine ⟨qCross (hV u 230) p b (10 + 3 * p), _, _, ?_, ?_, ok', af.1, af.2⟩
  · simp only [m_X9_carry_L17, m_X9_carry_L52, m_X9_carry, hgI_k, hgR_k, hpI_k, hpR_k, hpZ_k, haI_k, haR_k, hsI_k, hsZ_k, hlen_k, hlet_e, hret_e, hretZ_0, hretZ_1, hif_e, okk_setV, okk_setF, nV, nF, fV, vF, haI_n, hsI_n, hcallV_b, hbind_s, x_arePair hs r.1, x_isBridge hs r.1, kk_1 hs, rf_1_3 hs, StA.k0 ha, StA.k1 ha, StA.k2 ha, StA.k3 ha, StA.k4 ha, StA.n1 ha, StA.n2 ha, StA.n3 ha, StA.n4 ha, StA.f2 ha, StA.f3 ha, StA.f4 ha, StA.f5 ha, if_pos hpair, if_pos hb, if_neg n10, if_pos n11, ip, iq, r.1.at p hp.2, r.1.at q hq.2, if_neg nat', cx.1 hc, hv, kk_1 hsv, rf_1_3 hsv, kk_30 hsv, hv1, kk_1 hs1, rf_1_3 hs1, StA.k0 ha1, StA.k1 ha1, StA.k2 ha1, StA.k3 ha1, StA.k4 ha1, StA.n1 ha1, StA.n2 ha1, StA.n3 ha1, StA.n4 ha1, StA.f2 ha1, StA.f3 ha1, StA.f4 ha1, StA.f5 ha1, er, fv]
  · simp only [m_X10_carry_L29, m_X10_carry_L55, m_X10_carry, hgI_k, hgR_k, hpI_k, hpR_k, hpZ_k, haI_k, haR_k, hsI_k, hsZ_k, hlen_k, hlet_e, hret_e, hretZ_0, hretZ_1, hif_e, okk_setV, okk_setF, nV, nF, fV, vF, okk_put, nP, fP, hcallV_b, hbind_s, y_isPerson hs', y_isBridge hs', f230, kk_220 hs', if_pos hp, if_pos hq, if_pos hb, if_neg n10, if_pos n11, if_pos hpq', y_personOf0 hs' ip, y_personOf0 hs' iq, if_neg nat', cy, ky, kk_220 hs2, cr, kk_220 hs3, rf_220_20 hs3, po, ix_10 iq, hsI_n, kk_230 hs3, ln_230 hs3, j1, setV_put, kk_220 hs4, po4]
theorem put_put (u : hS) (a : Nat) (g h : Nat → Int) : hput (hput u a g) a h = hput u a h := by
  obtain ⟨K, N, V, F, B⟩ := u
  unfold hput
  simp only [Prod.mk.injEq, and_true, true_and]
  funext b j
  by_cases h : b = a
  · rw [if_pos h, if_pos h]
  · rw [if_neg h, if_neg h, if_neg h]
def qForg (b : Nat) : Nat → Nat → (Nat → Int) → Nat → Int
  | 0, _, S => S
  | k + 1, i, S => qForg b k (i + 1) (sup (sup S (22 + 9 * i + b) 0) (58 + 9 * i + b) 0)
theorem y_forgL {b : Nat} (hb : b < 9) : ∀ (k n i : Nat) (u : hS), shp u → k < n → i + k ≤ 4 → hV u 230 4 = ((i + k : Nat) : Int) → m_X10_forgets_L2 n 220 b i u = some (0, hput u 230 (qForg b k i (hV u 230))) := by
  intro k
  induction k with
  | zero =>
    intro n i u hs hn h4 hv
    obtain ⟨m, rfl⟩ : ∃ m, n = m + 1 := ⟨n - 1, by omega⟩
    simp only [m_X10_forgets_L2, hgI_k, hgR_k, hpI_k, hpR_k, hpZ_k, haI_k, haR_k, hsI_k, hsZ_k, hlen_k, hlet_e, hret_e, hretZ_0, hretZ_1, hif_e, okk_setV, okk_setF, nV, nF, fV, vF, haI_4, kk_220 hs, kk_230 hs, rf_220_20 hs, ln_230 hs, lt_c 4 160 rfl]
    rw [if_pos (by omega)]
    unfold qForg
    rw [hput_self]
  | succ k ih =>
    intro n i u hs hn h4 hv
    obtain ⟨m, rfl⟩ : ∃ m, n = m + 1 := ⟨n - 1, by omega⟩
    have hi : i < 4 := by omega
    have i4 : i < 1000000 := by omega
    have j1 : 22 + 9 * i + b < 1000000 := by omega
    have j2 : 58 + 9 * i + b < 1000000 := by omega
    have k1 : 22 + 9 * i + b < 160 := by omega
    have k2 : 58 + 9 * i + b < 160 := by omega
    simp only [m_X10_forgets_L2, hgI_k, hgR_k, hpI_k, hpR_k, hpZ_k, haI_k, haR_k, hsI_k, hsZ_k, hlen_k, hlet_e, hret_e, hretZ_0, hretZ_1, hif_e, okk_setV, okk_setF, nV, nF, fV, vF, haI_4, hsI_n, ix_22 hi, ix_58 hi, ix_n j1, ix_n j2, ix_s i4, kk_220 hs, kk_230 hs, rf_220_20 hs, ln_230 hs, lt_c 4 160 rfl, k1, k2]
    have q := ih m (i + 1) (hput u 230 (sup (sup (hV u 230) (22 + 9 * i + b) 0) (58 + 9 * i + b) 0)) hs (by omega) (by omega) (by rw [hV_put_s, sup_n (by omega), sup_n (by omega)]; omega)
    rw [hV_put_s, put_put] at q
    rw [if_neg (by omega), setV_put1 u, setV_put, q]
    rfl
theorem y_forgets {u : hS} (hs : shp u) (ws : WS (hV u 230)) {b : Nat} (hb : b < 9) : m_X10_forgets 220 b u = some (0, hput u 230 (qForg b (hV u 230 4).toNat 0 (hV u 230))) := by
  have w := ws.2.2.2.2.1
  simp only [m_X10_forgets, hgI_k, hgR_k, hpI_k, hpR_k, hpZ_k, haI_k, haR_k, hsI_k, hsZ_k, hlen_k, hlet_e, hret_e, hretZ_0, hretZ_1, hif_e, okk_setV, okk_setF, nV, nF, fV, vF]
  exact y_forgL hb (hV u 230 4).toNat 1000000000 0 u hs (by omega) (by omega) (by omega)
theorem qForg_ok {b : Nat} (hb : b < 9) : ∀ (k i : Nat) (S : Nat → Int), WS S → WV S → i + k ≤ 4 → twn (qForg b k i S) = twn S ∧ WS (qForg b k i S) ∧ WV (qForg b k i S) ∧ ∀ j, j < 10 ∨ 94 ≤ j → qForg b k i S j = S j := by
  intro k
  induction k with
  | zero =>
    intro i S w v h
    exact ⟨rfl, w, v, fun _ _ => rfl⟩
  | succ k ih =>
    intro i S w v h
    have w1 := w.2.1
    have z := ih (i + 1) (sup (sup S (22 + 9 * i + b) 0) (58 + 9 * i + b) 0) (WS_sup (by omega) (WS_sup (by omega) w)) (WV_cro (by omega) hb w v (by omega)) (by omega)
    refine ⟨z.1.trans ((twn_sup (by omega)).trans (twn_sup (by omega))), z.2.1, z.2.2.1, fun j hj => (z.2.2.2 j hj).trans ?_⟩
    rw [sup_n (by omega), sup_n (by omega)]
theorem x_forgL {s t b : Nat} (hb : b < 9) (d : s + 5 ≤ t ∨ t + 18 ≤ s) : ∀ (k n i : Nat) (u : hS) (S : Nat → Int), RepS u s t S → WS S → k < n → S 4 = ((i + k : Nat) : Int) → ∃ v, m_X4_forget_L2 n s b i u = some (0, v) ∧ RepS v s t (qForg b k i S) ∧ ext u v ∧ (shp u → shp v) ∧ ∀ a, a < s ∨ s + 4 < a → agr u v a := by
  intro k
  induction k with
  | zero =>
    intro n i u S r w hn hv
    obtain ⟨m, rfl⟩ : ∃ m, n = m + 1 := ⟨n - 1, by omega⟩
    have ht := r.ht
    have ha := r.ha
    refine ⟨u, ?_, r, ext.rf u, fun h => h, fun _ _ _ => ⟨rfl, rfl⟩⟩
    simp only [m_X4_forget_L2, hgI_k, hgR_k, hpI_k, hpR_k, hpZ_k, haI_k, haR_k, hsI_k, hsZ_k, hlen_k, hlet_e, hret_e, hretZ_0, hretZ_1, hif_e, okk_setV, okk_setF, nV, nF, fV, vF, StA.k0 ha, StA.k1 ha, StA.k2 ha, StA.k3 ha, StA.k4 ha, StA.n1 ha, StA.n2 ha, StA.n3 ha, StA.n4 ha, StA.f2 ha, StA.f3 ha, StA.f4 ha, StA.f5 ha, r.to, TwA.k0 ht, TwA.k1 ht, TwA.k2 ht, TwA.k3 ht, TwA.k4 ht, TwA.k5 ht, TwA.k6 ht, TwA.k7 ht, TwA.k8 ht, TwA.k9 ht, TwA.k10 ht, TwA.k11 ht, TwA.k12 ht, TwA.k13 ht, TwA.k14 ht, TwA.k15 ht, TwA.k16 ht, TwA.k17 ht, TwA.n2 ht, TwA.n3 ht, TwA.n4 ht, TwA.n6 ht, TwA.n7 ht, TwA.n8 ht, TwA.n9 ht, TwA.n10 ht, TwA.n11 ht, TwA.n12 ht, TwA.n13 ht, TwA.n14 ht, TwA.n15 ht, TwA.n16 ht, TwA.n17 ht, TwA.f2 ht, TwA.f3 ht, TwA.f5 ht, TwA.f6 ht, TwA.f8 ht, TwA.f9 ht, TwA.f11 ht, TwA.f12 ht, TwA.f13 ht, TwA.f14 ht, TwA.f15 ht, TwA.b0 ht, TwA.b1 ht, TwA.b2 ht, TwA.g0 ht, TwA.g1 ht, TwA.g2 ht, r.v4]
    rw [if_pos (by omega)]
  | succ k ih =>
    intro n i u S r w hn hv
    obtain ⟨m, rfl⟩ : ∃ m, n = m + 1 := ⟨n - 1, by omega⟩
    have ht := r.ht
    have ha := r.ha
    have w2 := w.2.2.1
    have w4 := w.2.2.2.2.1
    have hi : i < 4 := by omega
    have i4 : i < 1000000 := by omega
    have i2 : 9 * i + b < 36 := by omega
    have q1 := r.setCro d hi hb w2.2 w4.2 0
    have q2 := q1.setSin d (p := i) (b := b) hi hb (by rw [sup_n (by omega)]; omega) (by rw [sup_n (by omega)]; omega) 0
    obtain ⟨v, hx, rv, ev, sv, gv⟩ := ih m (i + 1) _ _ q2 (WS_sup (by omega) (WS_sup (by omega) w)) (by omega) (by rw [sup_n (by omega), sup_n (by omega)]; omega)
    refine ⟨v, ?_, rv, ((ext.setV _ _ _ _).tr (ext.setV _ _ _ _)).tr ev, fun h => sv h, fun a h => ((agr.setV (by omega)).tr (agr.setV (by omega))).tr (gv a h)⟩
    simp only [m_X4_forget_L2, hgI_k, hgR_k, hpI_k, hpR_k, hpZ_k, haI_k, haR_k, hsI_k, hsZ_k, hlen_k, hlet_e, hret_e, hretZ_0, hretZ_1, hif_e, okk_setV, okk_setF, nV, nF, fV, vF, hsI_n, ix_9 hi hb, ix_s i4, StA.k0 ha, StA.k1 ha, StA.k2 ha, StA.k3 ha, StA.k4 ha, StA.n1 ha, StA.n2 ha, StA.n3 ha, StA.n4 ha, StA.f2 ha, StA.f3 ha, StA.f4 ha, StA.f5 ha, r.to, TwA.k0 ht, TwA.k1 ht, TwA.k2 ht, TwA.k3 ht, TwA.k4 ht, TwA.k5 ht, TwA.k6 ht, TwA.k7 ht, TwA.k8 ht, TwA.k9 ht, TwA.k10 ht, TwA.k11 ht, TwA.k12 ht, TwA.k13 ht, TwA.k14 ht, TwA.k15 ht, TwA.k16 ht, TwA.k17 ht, TwA.n2 ht, TwA.n3 ht, TwA.n4 ht, TwA.n6 ht, TwA.n7 ht, TwA.n8 ht, TwA.n9 ht, TwA.n10 ht, TwA.n11 ht, TwA.n12 ht, TwA.n13 ht, TwA.n14 ht, TwA.n15 ht, TwA.n16 ht, TwA.n17 ht, TwA.f2 ht, TwA.f3 ht, TwA.f5 ht, TwA.f6 ht, TwA.f8 ht, TwA.f9 ht, TwA.f11 ht, TwA.f12 ht, TwA.f13 ht, TwA.f14 ht, TwA.f15 ht, TwA.b0 ht, TwA.b1 ht, TwA.b2 ht, TwA.g0 ht, TwA.g1 ht, TwA.g2 ht, r.v4, i2]
    rw [if_neg (by omega)]
    exact hx
theorem x_forget {u : hS} {s t b : Nat} {S : Nat → Int} (r : RepS u s t S) (ws : WS S) (hb : b < 9) (d : s + 5 ≤ t ∨ t + 18 ≤ s) : ∃ v, m_X4_forget s b u = some (0, v) ∧ RepS v s t (qForg b (S 4).toNat 0 S) ∧ ext u v ∧ (shp u → shp v) ∧ ∀ a, a < s ∨ s + 4 < a → agr u v a := by
  have w := ws.2.2.2.2.1
  simp only [m_X4_forget, hgI_k, hgR_k, hpI_k, hpR_k, hpZ_k, haI_k, haR_k, hsI_k, hsZ_k, hlen_k, hlet_e, hret_e, hretZ_0, hretZ_1, hif_e, okk_setV, okk_setF, nV, nF, fV, vF]
  exact x_forgL hb d (S 4).toNat 1000000000 0 u S r ws (by omega) (by omega)
theorem a_rebuild {u : hS} (hs : shp u) (ai : actInv u) (b : Int) : actAgree (m_X9_rebuild 1 b) (m_X10_rebuild 220 b) u := by
  obtain ⟨t, c, r, ru, h25⟩ := id ai
  have ws := r.2.2.2.1
  have wv := r.2.2.2.2
  have w2 := ws.2.2.1
  have w4 := ws.2.2.2.2.1
  have n10 : ¬ (1 : Int) = 0 := by decide
  have n11 : (1 : Int) ≠ 0 := by decide
  by_cases hb : 0 ≤ b ∧ b < hV u 230 2
  case neg =>
    refine actAgree_same (r := -1) hs ai ?_ ?_
    · simp only [m_X9_rebuild, hgI_k, hgR_k, hpI_k, hpR_k, hpZ_k, haI_k, haR_k, hsI_k, hsZ_k, hlen_k, hlet_e, hret_e, hretZ_0, hretZ_1, hif_e, okk_setV, okk_setF, nV, nF, fV, vF, hcallV_b, hbind_s, x_isBridge hs r.1, kk_1 hs, if_neg hb, ne_eq, not_true_eq_false, if_false]
    · simp only [m_X10_rebuild_L16, m_X10_rebuild, hgI_k, hgR_k, hpI_k, hpR_k, hpZ_k, haI_k, haR_k, hsI_k, hsZ_k, hlen_k, hlet_e, hret_e, hretZ_0, hretZ_1, hif_e, okk_setV, okk_setF, nV, nF, fV, vF, hcallV_b, hbind_s, y_isBridge hs, kk_220 hs, if_neg hb, if_true]
  obtain ⟨b, rfl⟩ : ∃ n : Nat, b = n := ⟨b.toNat, by omega⟩
  have ib : b < 9 := by omega
  by_cases hq : qAll (hV u 230) b = 0
  · refine actAgree_same (r := -1) hs ai ?_ ?_
    · simp only [m_X9_rebuild, hgI_k, hgR_k, hpI_k, hpR_k, hpZ_k, haI_k, haR_k, hsI_k, hsZ_k, hlen_k, hlet_e, hret_e, hretZ_0, hretZ_1, hif_e, okk_setV, okk_setF, nV, nF, fV, vF, hcallV_b, hbind_s, x_isBridge hs r.1, x_crossedByAll r.1 ws hb.2, kk_1 hs, kk_30 hs, rf_1_3 hs, if_pos hb, if_pos n11, hq, ne_eq, not_true_eq_false, if_false]
    · simp only [m_X10_rebuild_L16, m_X10_rebuild, hgI_k, hgR_k, hpI_k, hpR_k, hpZ_k, haI_k, haR_k, hsI_k, hsZ_k, hlen_k, hlet_e, hret_e, hretZ_0, hretZ_1, hif_e, okk_setV, okk_setF, nV, nF, fV, vF, hcallV_b, hbind_s, y_isBridge hs, y_crossedByAll hs ws ib, kk_220 hs, if_pos hb, if_neg n10, hq, ne_eq, not_true_eq_false, if_false]
  obtain ⟨v, hv, ok, rv, rvu, _⟩ := x_keepAct hs r ru
  have dt : 30 + 5 ≤ t ∨ t + 18 ≤ 30 := by have := r.2.1; omega
  obtain ⟨v', hv', rs', e', s', g'⟩ := x_forget rv.1 ws ib dt
  have qo := qForg_ok ib (hV u 230 4).toNat 0 (hV u 230) ws wv (by omega)
  obtain ⟨ok', rf', ru'⟩ := act_x ok rv rvu e' (s' ok.2.1) g' rs' ⟨qo.1, qo.2.1, qo.2.2.1, fun k hk => qo.2.2.2 k (Or.inr hk)⟩
  have hs' := ok'.2.1
  have hsv := ok.2.1
  have af := act_fin hs' rf' ru'
  have f230 : hV v' 230 = hV u 230 := ok'.V 230 (by decide)
  have f233 : hV v' 233 = hV u 233 := ok'.V 233 (by decide)
  have f25 : hV v' 220 25 = c := by rw [ok'.V 220 (by decide)]; exact h25
  have ky := y_keepsAct hs' (by obtain ⟨f, _, _, h, _⟩ := ru; exact h) f25
  rw [f230, f233] at ky
  have hs2 : shp (hsetV (hput v' 233 (qKeep (hV u 233) c (hV u 230))) 220 25 (qKeepN c : Int)) := hs'
  have f2 : hV (hsetV (hput v' 233 (qKeep (hV u 233) c (hV u 230))) 220 25 (qKeepN c : Int)) 230 = hV u 230 := by rw [hV_ne (by decide), hV_put_n (by decide), f230]
  have fo := y_forgets hs2 (by rw [f2]; exact ws) ib
  have ca := y_crossedByAll hs2 (by rw [f2]; exact ws) ib
  have ca1 := y_crossedByAll hs' (by rw [f230]; exact ws) ib
  rw [f2] at fo ca
  rw [f230] at ca1
  refine ⟨qAll (hV u 230) b, v', _, ?_, ?_, ok', af.1, af.2⟩
  · simp only [m_X9_rebuild, hgI_k, hgR_k, hpI_k, hpR_k, hpZ_k, haI_k, haR_k, hsI_k, hsZ_k, hlen_k, hlet_e, hret_e, hretZ_0, hretZ_1, hif_e, okk_setV, okk_setF, nV, nF, fV, vF, hcallV_b, hbind_s, x_isBridge hs r.1, x_crossedByAll r.1 ws hb.2, kk_1 hs, kk_30 hs, rf_1_3 hs, if_pos hb, if_pos n11, if_pos hq, hv, kk_1 hsv, rf_1_3 hsv, kk_30 hsv, hv']
  · simp only [m_X10_rebuild_L16, m_X10_rebuild, hgI_k, hgR_k, hpI_k, hpR_k, hpZ_k, haI_k, haR_k, hsI_k, hsZ_k, hlen_k, hlet_e, hret_e, hretZ_0, hretZ_1, hif_e, okk_setV, okk_setF, nV, nF, fV, vF, hcallV_b, hbind_s, y_isBridge hs', ca1, f230, kk_220 hs', if_pos hb, if_neg n10, if_pos hq, ky, kk_220 hs2, ca, fo]
