theorem a_back {u : hS} (hs : shp u) (ai : actInv u) (rx : RepX u) (ri : RepI u) (n : Int) : ∃ r u1 u2, m_X9_back 1 n u = some (r, u1) ∧ m_X10_back 220 n u1 = some (r, u2) ∧ shp u1 ∧ ext u u2 ∧ shp u2 ∧ (∀ a, ¬ (a = 1 ∨ 30 ≤ a ∧ a ≤ 34 ∨ a = 220 ∨ a = 230) → agr u u2 a) ∧ (∀ i, i ≠ 6 → i ≠ 7 → i ≠ 9 → hV u2 1 i = hV u 1 i) ∧ (∀ i, i ≠ 21 → i ≠ 25 → hV u2 220 i = hV u 220 i) ∧ actInv u2 ∧ RepX u2 := by
  have n1 : (1 : Int) ≠ 0 := by decide
  have n10 : ¬ (1 : Int) = 0 := by decide
  by_cases hn : 0 ≤ n ∧ n ≤ 3
  case neg =>
    refine ⟨-1, u, u, ?_, ?_, hs, ext.rf u, hs, fun _ _ _ => ⟨rfl, rfl⟩, fun _ _ _ _ => rfl, fun _ _ _ => rfl, ai, rx⟩
    · simp only [m_X9_back_L21, m_X9_back, hgI_k, hgR_k, hpI_k, hpR_k, hpZ_k, haI_k, haR_k, hsI_k, hsZ_k, hlen_k, hlet_e, hret_e, hretZ_0, hretZ_1, hif_e, okk_setV, okk_setF, nV, nF, fV, vF]
      by_cases h0 : n < 0
      · rw [if_pos h0]
      · rw [if_neg h0, if_pos (by omega)]
    · simp only [m_X10_back, m_X10_back_L21, hgI_k, hgR_k, hpI_k, hpR_k, hpZ_k, haI_k, haR_k, hsI_k, hsZ_k, hlen_k, hlet_e, hret_e, hretZ_0, hretZ_1, hif_e, okk_setV, okk_setF, nV, nF, fV, vF, hcall_b, hbind_s, y_in, if_neg hn, if_true]
  obtain ⟨k, rfl⟩ : ∃ k : Nat, n = k := ⟨n.toNat, by omega⟩
  have hk : k < 4 := by omega
  obtain ⟨im, ib, ic⟩ := ri k hk
  have h0 : ¬ (k : Int) < 0 := by omega
  have h4 : ¬ (k : Int) ≥ 4 := by omega
  rcases ib with ib | ib
  · refine ⟨-1, u, u, ?_, ?_, hs, ext.rf u, hs, fun _ _ _ => ⟨rfl, rfl⟩, fun _ _ _ _ => rfl, fun _ _ _ => rfl, ai, rx⟩
    · simp only [m_X9_back_L21, m_X9_back, hgI_k, hgR_k, hpI_k, hpR_k, hpZ_k, haI_k, haR_k, hsI_k, hsZ_k, hlen_k, hlet_e, hret_e, hretZ_0, hretZ_1, hif_e, okk_setV, okk_setF, nV, nF, fV, vF, haR_n, kk_1 hs, kk_6 hs, rf_1_8 hs, ln_6 hs, hk, rf_imgs hs k hk, kk_img hs k hk, im, ib, if_neg h0, if_neg h4, ne_eq, not_true_eq_false, if_false]
    · simp only [m_X10_back, m_X10_back_L21, hgI_k, hgR_k, hpI_k, hpR_k, hpZ_k, haI_k, haR_k, hsI_k, hsZ_k, hlen_k, hlet_e, hret_e, hretZ_0, hretZ_1, hif_e, okk_setV, okk_setF, nV, nF, fV, vF, haI_n, hcall_b, hbind_s, y_in, kk_220 hs, kk_242 hs, rf_220_42 hs, ln_242 hs, hk, if_pos hn, if_neg n10, ib, ne_eq, not_true_eq_false, if_false]
  obtain ⟨c1, c2, t, c3⟩ := ic ib
  obtain ⟨v, hv, cf⟩ := x_copy hs stp_30 (stp_img k hk) (by omega)
  have hsv : shp v := cf.2.2.2.2.2.2.2.2
  have g : ∀ a, a < 30 ∨ 34 < a → agr u v a := fun a h => cf.2.1 a (by omega)
  have tz := c3.2.1
  have rv := c3.cp cf stp_30
  have v2 : hV v (196 + 6 * k) 2 = hV u 241 k := (g (196 + 6 * k) (by omega) 2).1.trans c1
  have hs1 : shp (hsetV (hsetV (hsetV v 1 9 (hV u 241 k)) 1 6 0) 1 7 0) := hsv
  have g1 : ∀ a, a ≠ 1 → a < 30 ∨ 34 < a → agr u (hsetV (hsetV (hsetV v 1 9 (hV u 241 k)) 1 6 0) 1 7 0) a := fun a h1 h2 => (((g a h2).tr (agr.setV h1)).tr (agr.setV h1)).tr (agr.setV h1)
  have gV : ∀ a, 220 ≤ a → hV (hsetV (hsetV (hsetV v 1 9 (hV u 241 k)) 1 6 0) 1 7 0) a = hV u a := fun a ha => by
    funext i
    exact (g1 a (by omega) (by omega) i).1
  have hs2 : shp (hsetV (hsetV (hsetV (hsetV (hsetV v 1 9 (hV u 241 k)) 1 6 0) 1 7 0) 220 21 (hV u 241 k)) 220 25 0) := hsv
  have yl := y_backL hs2 hk (hV u 230) 160 1000000000 0 (by omega) (by omega)
  have k230 : hV (hsetV (hsetV (hsetV (hsetV (hsetV v 1 9 (hV u 241 k)) 1 6 0) 1 7 0) 220 21 (hV u 241 k)) 220 25 0) 230 = hV u 230 := by rw [hV_ne (by decide), hV_ne (by decide), gV 230 (by decide)]
  have k240 : hV (hsetV (hsetV (hsetV (hsetV (hsetV v 1 9 (hV u 241 k)) 1 6 0) 1 7 0) 220 21 (hV u 241 k)) 220 25 0) 240 = hV u 240 := by rw [hV_ne (by decide), hV_ne (by decide), gV 240 (by decide)]
  have q0 : bkW (hV u 240) (hV u 230) k 0 = hV (hsetV (hsetV (hsetV (hsetV (hsetV v 1 9 (hV u 241 k)) 1 6 0) 1 7 0) 220 21 (hV u 241 k)) 220 25 0) 230 := by
    rw [k230]
    funext j
    exact if_neg (by omega)
  rw [k240, q0, hput_self] at yl
  have es : eqS (iS (hV u 240) k) (bkW (hV u 240) (hV u 230) k 160) := fun j hj => if_pos hj
  have rb : RepF v 30 t (bkW (hV u 240) (hV u 230) k 160) := rv.cg es
  have e2 : ext v (hput (hsetV (hsetV (hsetV (hsetV (hsetV v 1 9 (hV u 241 k)) 1 6 0) 1 7 0) 220 21 (hV u 241 k)) 220 25 0) 230 (bkW (hV u 240) (hV u 230) k 160)) := ⟨Nat.le_refl _, fun _ _ => ⟨rfl, rfl⟩⟩
  have g2 : ∀ a, a ≠ 1 → a ≠ 220 → a ≠ 230 → agr v (hput (hsetV (hsetV (hsetV (hsetV (hsetV v 1 9 (hV u 241 k)) 1 6 0) 1 7 0) 220 21 (hV u 241 k)) 220 25 0) 230 (bkW (hV u 240) (hV u 230) k 160)) a := fun a h1 h2 h3 => (((((agr.setV h1).tr (agr.setV h1)).tr (agr.setV h1)).tr (agr.setV h2)).tr (agr.setV h2)).tr (agr.put h3)
  refine ⟨bkW (hV u 240) (hV u 230) k 160 6, hsetV (hsetV (hsetV v 1 9 (hV u 241 k)) 1 6 0) 1 7 0, hput (hsetV (hsetV (hsetV (hsetV (hsetV v 1 9 (hV u 241 k)) 1 6 0) 1 7 0) 220 21 (hV u 241 k)) 220 25 0) 230 (bkW (hV u 240) (hV u 230) k 160), ?_, ?_, hs1, cf.1.tr e2, hsv, ?_, ?_, ?_, ?_, ?_⟩
  · simp only [m_X9_back_L21, m_X9_back, m_X9_forgetActs, hgI_k, hgR_k, hpI_k, hpR_k, hpZ_k, haI_k, haR_k, hsI_k, hsZ_k, hlen_k, hlet_e, hret_e, hretZ_0, hretZ_1, hif_e, okk_setV, okk_setF, nV, nF, fV, vF, haR_n, hcallV_b, hbind_s, kk_1 hs, kk_6 hs, kk_30 hs, rf_1_8 hs, rf_1_3 hs, ln_6 hs, hk, rf_imgs hs k hk, kk_img hs k hk, rf_img hs k hk, im, ib, if_neg h0, if_neg h4, if_pos n1, hv, kk_1 hsv, rf_1_8 hsv, rf_1_3 hsv, kk_6 hsv, ln_6 hsv, rf_imgs hsv k hk, kk_img hsv k hk, v2, kk_30 hsv, hV_setV_a (show 30 ≠ 1 by decide), rb.1.v6]
  · simp only [m_X10_back, m_X10_back_L21, hgI_k, hgR_k, hpI_k, hpR_k, hpZ_k, haI_k, haR_k, hsI_k, hsZ_k, hlen_k, hlet_e, hret_e, hretZ_0, hretZ_1, hif_e, okk_setV, okk_setF, nV, nF, fV, vF, haI_n, hcall_b, hbind_s, y_in, kk_220 hs1, kk_242 hs1, kk_241 hs1, rf_220_42 hs1, rf_220_41 hs1, ln_242 hs1, ln_241 hs1, hk, if_pos hn, if_neg n10, gV 242 (by decide), gV 241 (by decide), ib, if_pos n1]
    exact yl
  · intro a ha
    exact (g a (by omega)).tr (g2 a (by omega) (by omega) (by omega))
  · intro i h6 h7 h9
    rw [hV_put_n (by decide), hV_setV_a (by decide), hV_setV_a (by decide), hV_setV_i h7, hV_setV_i h6, hV_setV_i h9]
    exact (g 1 (by omega) i).1
  · intro i h21 h25
    rw [hV_put_n (by decide), hV_setV_i h25, hV_setV_i h21, gV 220 (by decide)]
  · refine ⟨t, 0, ?_, ⟨0, by decide, ?_, by decide, ?_, fun j hj => absurd hj (by omega)⟩, ?_⟩
    · rw [hV_put_s]
      exact rb.fr e2 (fun a _ _ => g2 a (by omega) (by omega) (by omega)) (fun a _ _ => g2 a (by omega) (by omega) (by omega))
    · rw [hV_put_n (by decide), hV_setV_a (by decide), hV_setV_a (by decide), hV_setV_i (by decide), hV_setV_s]
      rfl
    · rw [hV_put_n (by decide), hV_setV_a (by decide), hV_setV_a (by decide), hV_setV_s]
      rfl
    · rw [hV_put_n (by decide), hV_setV_s]
      rfl
  · refine ⟨?_, ?_, fun b hb => ?_⟩
    · rw [hV_put_n (by decide), hV_setV_a (by decide), hV_setV_a (by decide), hV_setV_i (by decide), hV_setV_i (by decide), hV_setV_s, hV_put_n (by decide), hV_setV_i (by decide), hV_setV_s]
    · rw [hV_put_n (by decide), hV_setV_i (by decide), hV_setV_s]
      exact c2
    · rw [hV_put_n (by decide), hV_setV_a (by decide), hV_setV_a (by decide), gV 231 (by decide)]
      exact rx.2.2 b hb
