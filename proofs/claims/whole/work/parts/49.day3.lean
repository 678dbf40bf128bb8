def qDay (S : Nat → Int) : Nat → Int := sup (payR (fun p => gsum S p (S 5).toNat 0) (S 4).toNat 0 S) 6 (S 6 + 1)
def qDayR (S : Nat → Int) : Int := sumU (fun p => gsum S p (S 5).toNat 0) (S 4).toNat 0
theorem payK_payR {S : Nat → Int} (ws : WS S) (wv : WV S) : payK (S 5).toNat 0 S = payR (fun p => gsum S p (S 5).toNat 0) (S 4).toNat 0 S := by
  have w4 := ws.2.2.2.2.1
  have w5 := ws.2.2.2.2.2.1
  have z := payK_val (P := S 4) w4.2 (S 5).toNat 0 S (fun w _ h => (wv.2.2.2.2 w (by omega)).1)
  funext j
  by_cases h : ∃ p : Nat, (p : Int) < S 4 ∧ j = 12 + 3 * p
  · obtain ⟨p, hp, rfl⟩ := h
    rw [z.1 p (by omega), payR_at _ _ _ _ _ (by omega) (by omega)]
  · rw [z.2 j (fun p hp e => h ⟨p, hp, e⟩), payR_ne _ _ _ _ _ (fun p _ hp e => h ⟨p, by omega, e⟩)]
theorem qDay_ne {S : Nat → Int} (ws : WS S) {j : Nat} (h6 : j ≠ 6) (h : j < 12 ∨ 22 ≤ j ∨ j % 3 ≠ 0) : qDay S j = S j := by
  have w4 := ws.2.2.2.2.1
  unfold qDay
  rw [sup_n h6, payR_ne _ _ _ _ _ (fun p _ hp e => by omega)]
theorem qDay_paid {S : Nat → Int} {p : Nat} (hp : (p : Int) < S 4) : qDay S (12 + 3 * p) = S (12 + 3 * p) + gsum S p (S 5).toNat 0 := by
  unfold qDay
  rw [sup_n (by omega), payR_at _ _ _ _ _ (by omega) (by omega)]
theorem qDay_6 (S : Nat → Int) : qDay S 6 = S 6 + 1 := sup_s
theorem qDay_ok {S : Nat → Int} (ws : WS S) (wv : WV S) (h9 : S 6 < 999) : twn (qDay S) = twn S ∧ WS (qDay S) ∧ WV (qDay S) ∧ ∀ k, 94 ≤ k → qDay S k = S k := by
  have w2 := ws.2.2.1
  have w4 := ws.2.2.2.2.1
  have w5 := ws.2.2.2.2.2.1
  have w6 := ws.2.2.2.2.2.2.1
  have n : ∀ j, j ≠ 6 → j < 12 ∨ 22 ≤ j ∨ j % 3 ≠ 0 → qDay S j = S j := fun j => qDay_ne ws
  refine ⟨?_, ?_, ?_, fun k hk => n k (by omega) (by omega)⟩
  · funext j
    unfold twn
    by_cases h1 : j = 0 ∨ j = 2 ∨ 94 ≤ j ∧ j < 112
    · rw [if_pos h1, if_pos h1, n j (by omega) (by omega)]
    · rw [if_neg h1, if_neg h1]
  · obtain ⟨a0, a1, a2, a3, a4, a5, a6, a7⟩ := ws
    unfold WS
    rw [n 0 (by omega) (by omega), n 1 (by omega) (by omega), n 2 (by omega) (by omega), n 3 (by omega) (by omega), n 4 (by omega) (by omega), n 5 (by omega) (by omega), n 7 (by omega) (by omega), qDay_6]
    exact ⟨a0, a1, a2, a3, a4, a5, by omega, a7⟩
  · obtain ⟨v1, v2, v3, v4, v5⟩ := id wv
    refine ⟨fun b hb => ?_, fun b hb => ?_, fun q hq => ?_, fun q b hq hb => ?_, fun k hk => ?_⟩
    · rw [n 2 (by omega) (by omega)] at hb
      rw [n _ (by omega) (by omega), n _ (by omega) (by omega), n _ (by omega) (by omega)]
      exact v1 b hb
    · rw [n 3 (by omega) (by omega)] at hb
      rw [n _ (by omega) (by omega), n _ (by omega) (by omega), n _ (by omega) (by omega)]
      exact v2 b hb
    · rw [n 4 (by omega) (by omega)] at hq
      have z := v3 q hq
      have g := gsum_in wv.ww q (S 5).toNat 0 (by omega)
      rw [n (10 + 3 * q) (by omega) (by omega), n (11 + 3 * q) (by omega) (by omega), n 0 (by omega) (by omega), qDay_paid hq, qDay_6]
      exact ⟨z.1, z.2.1, by omega, by omega⟩
    · rw [n _ (by omega) (by omega)] at hq hb
      rw [n (58 + 9 * q + b) (by omega) (by omega), n (22 + 9 * q + b) (by omega) (by omega), n 1 (by omega) (by omega)]
      exact v4 q b hq hb
    · rw [n 5 (by omega) (by omega)] at hk
      rw [n (128 + 4 * k) (by omega) (by omega), n (129 + 4 * k) (by omega) (by omega), n (130 + 4 * k) (by omega) (by omega), n (131 + 4 * k) (by omega) (by omega), n 4 (by omega) (by omega), n 0 (by omega) (by omega)]
      exact v5 k hk
theorem x_endDay {u : hS} {s t : Nat} {S : Nat → Int} (r : RepS u s t S) (ws : WS S) (wv : WV S) (d : s + 5 ≤ t ∨ t + 18 ≤ s) (h9 : S 6 < 999) : ∃ v, m_X4_endDay s u = some (qDayR S, v) ∧ RepS v s t (qDay S) ∧ ext u v ∧ (shp u → shp v) ∧ ∀ a, a < s ∨ s + 4 < a → agr u v a := by
  have w4 := ws.2.2.2.2.1
  have w5 := ws.2.2.2.2.2.1
  have w6 := ws.2.2.2.2.2.2.1
  obtain ⟨v, hx, h⟩ := x_endL d (S 5).toNat 1000000000 0 0 u S r ws (fun w hw => ⟨(wv.2.2.2.2 w hw).1, (wv.2.2.2.2 w hw).2.2.2⟩) (fun p hp => by
    have z := (wv.2.2.1 p hp).2.2
    omega) (by omega) (by omega) (by omega) (by omega) h9
  rw [payK_payR ws wv] at h
  rw [totK_sum (P := (S 4).toNat) (S 5).toNat 0 (fun w _ hw => by
    have z := (wv.2.2.2.2 w (by omega)).1
    omega), Int.zero_add] at hx
  refine ⟨v, ?_, h⟩
  simp only [m_X4_endDay, hlet_e]
  exact hx
theorem a_day {u : hS} (hs : shp u) (ai : actInv u) : actAgree (m_X9_day 1) (m_X10_day 220) u := by
  obtain ⟨t, c, r, ru, h25⟩ := id ai
  have ws := r.2.2.2.1
  have wv := r.2.2.2.2
  have w6 := ws.2.2.2.2.2.2.1
  have n10 : ¬ (1 : Int) = 0 := by decide
  have ha := r.1.ha
  by_cases h0 : hV u 230 0 ≤ 0
  · refine actAgree_same (r := -1) hs ai ?_ ?_
    · simp only [m_X9_day_L20, m_X9_day, hgI_k, hgR_k, hpI_k, hpR_k, hpZ_k, haI_k, haR_k, hsI_k, hsZ_k, hlen_k, hlet_e, hret_e, hretZ_0, hretZ_1, hif_e, okk_setV, okk_setF, nV, nF, fV, vF, hcallV_b, hbind_s, x_hasTown hs r.1, kk_1 hs, if_pos h0, if_true]
    · simp only [m_X10_day_L20, m_X10_day, hgI_k, hgR_k, hpI_k, hpR_k, hpZ_k, haI_k, haR_k, hsI_k, hsZ_k, hlen_k, hlet_e, hret_e, hretZ_0, hretZ_1, hif_e, okk_setV, okk_setF, nV, nF, fV, vF, hcallV_b, hbind_s, y_isTown hs, kk_220 hs, if_pos h0, if_true]
  by_cases h9 : hV u 230 6 < 999
  case neg =>
    have e9 : hV u 230 6 = 999 := by omega
    refine actAgree_same (r := -1) hs ai ?_ ?_
    · simp only [m_X9_day_L20, m_X9_day, hgI_k, hgR_k, hpI_k, hpR_k, hpZ_k, haI_k, haR_k, hsI_k, hsZ_k, hlen_k, hlet_e, hret_e, hretZ_0, hretZ_1, hif_e, okk_setV, okk_setF, nV, nF, fV, vF, hcallV_b, hbind_s, x_hasTown hs r.1, kk_1 hs, kk_30 hs, rf_1_3 hs, r.1.v6, if_neg h0, if_neg n10, if_neg h9]
    · simp only [m_X10_day_L20, m_X10_day, hgI_k, hgR_k, hpI_k, hpR_k, hpZ_k, haI_k, haR_k, hsI_k, hsZ_k, hlen_k, hlet_e, hret_e, hretZ_0, hretZ_1, hif_e, okk_setV, okk_setF, nV, nF, fV, vF, hcallV_b, hbind_s, y_isTown hs, haI_6, kk_220 hs, kk_230 hs, rf_220_20 hs, ln_230 hs, lt_c 6 160 rfl, if_neg h0, if_neg n10, e9, ne_eq, not_true_eq_false, if_false]
  obtain ⟨v, hv, ok, rv, rvu, _⟩ := x_keepAct hs r ru
  have dt : 30 + 5 ≤ t ∨ t + 18 ≤ 30 := by have := r.2.1; omega
  obtain ⟨v', hv', rs', e', s', g'⟩ := x_endDay rv.1 ws wv dt h9
  obtain ⟨ok', rf', ru'⟩ := act_x ok rv rvu e' (s' ok.2.1) g' rs' (qDay_ok ws wv h9)
  have hs' := ok'.2.1
  have hsv := ok.2.1
  have af := act_fin hs' rf' ru'
  have f230 : hV v' 230 = hV u 230 := ok'.V 230 (by decide)
  have f233 : hV v' 233 = hV u 233 := ok'.V 233 (by decide)
  have f25 : hV v' 220 25 = c := by rw [ok'.V 220 (by decide)]; exact h25
  have ky := y_keepsAct hs' (by obtain ⟨f, _, _, h, _⟩ := ru; exact h) f25
  rw [f230, f233] at ky
  have hs2 : shp (hsetV (hput v' 233 (qKeep (hV u 233) c (hV u 230))) 220 25 (qKeepN c : Int)) := hs'
  have f2 : hV (hsetV (hput v' 233 (qKeep (hV u 233) c (hV u 230))) 220 25 (qKeepN c : Int)) 230 = hV u 230 := by rw [hV_ne (by decide), hV_put_n (by decide), f230]
  have pa := y_passes hs2 (by rw [f2]; exact ws) (by rw [f2]; exact wv) (by rw [f2]; exact h9)
  rw [f2] at pa
  have n9 : hV u 230 6 ≠ 999 := by omega
  refine ⟨qDayR (hV u 230), v', _, ?_, ?_, ok', af.1, af.2⟩
  · simp only [m_X9_day_L20, m_X9_day, hgI_k, hgR_k, hpI_k, hpR_k, hpZ_k, haI_k, haR_k, hsI_k, hsZ_k, hlen_k, hlet_e, hret_e, hretZ_0, hretZ_1, hif_e, okk_setV, okk_setF, nV, nF, fV, vF, hcallV_b, hbind_s, x_hasTown hs r.1, kk_1 hs, kk_30 hs, rf_1_3 hs, r.1.v6, if_neg h0, if_neg n10, if_pos h9, hv, kk_1 hsv, rf_1_3 hsv, kk_30 hsv, hv']
  · simp only [m_X10_day_L20, m_X10_day, hgI_k, hgR_k, hpI_k, hpR_k, hpZ_k, haI_k, haR_k, hsI_k, hsZ_k, hlen_k, hlet_e, hret_e, hretZ_0, hretZ_1, hif_e, okk_setV, okk_setF, nV, nF, fV, vF, hcallV_b, hbind_s, y_isTown hs', haI_6, f230, kk_220 hs', kk_230 hs', rf_220_20 hs', ln_230 hs', lt_c 6 160 rfl, if_neg h0, if_neg n10, if_pos n9, ky, kk_220 hs2, pa]
    rfl
