def okRef (u v : hS) : Prop := ext u v ∧ shp v ∧ (∀ a, a ≠ 220 → a ≠ 230 → a ≠ 233 → agr u v a) ∧ (∀ i, i ≠ 25 → hV v 220 i = hV u 220 i) ∧ ∀ a i, hF v a i = hF u a i
theorem okRef.rf {u : hS} (hs : shp u) : okRef u u := ⟨ext.rf u, hs, fun _ _ _ _ _ => ⟨rfl, rfl⟩, fun _ _ => rfl, fun _ _ => rfl⟩
def actInv (u : hS) : Prop := ∃ t c : Nat, RepF u 30 t (hV u 230) ∧ RepU u t (hV u 230) (hV u 233) c ∧ hV u 220 25 = (c : Int)
def actAgree (g1 g2 : hM) (u : hS) : Prop := ∃ r u1 u2, g1 u = some (r, u1) ∧ g2 u1 = some (r, u2) ∧ okAct u u1 ∧ okRef u1 u2 ∧ actInv u2
theorem actAgree_same {g1 g2 : hM} {u : hS} {r : Int} (hs : shp u) (ai : actInv u) (hx : g1 u = some (r, u)) (hy : g2 u = some (r, u)) : actAgree g1 g2 u := ⟨r, u, u, hx, hy, okAct.rf hs, okRef.rf hs, ai⟩
theorem RepU.fr {u v : hS} {t c : Nat} {T T' W : Nat → Int} (h : RepU u t T W c) (tz : t = 12 ∨ 243 ≤ t) (e : ext u v) (g6 : hV v 1 6 = hV u 1 6) (g7 : hV v 1 7 = hV u 1 7) (g : ∀ a, 96 ≤ a → a ≤ 195 → agr u v a) (gt : ∀ a, t ≤ a → a ≤ t + 17 → agr u v a) (hT : ∀ k, 94 ≤ k → T' k = T k) : RepU v t T' W c := by
  obtain ⟨f, hf, h6, hc, h7, hp⟩ := h
  refine ⟨f, hf, g6.trans h6, hc, g7.trans h7, fun j hj => ?_⟩
  have e2 : wS T' W j = wS T W j := by
    funext k
    unfold wS
    by_cases h1 : k < 94
    · rw [if_pos h1, if_pos h1]
    · rw [if_neg h1, if_neg h1, hT k (by omega)]
  rw [e2]
  have z : 96 ≤ pst f j ∧ pst f j + 4 ≤ 195 := by unfold pst; omega
  exact (hp j hj).fr e (fun a _ _ => g a (by omega) (by omega)) gt
/-- after the act was kept, the standing changes -/
theorem act_x {u v v' : hS} {t c : Nat} {S S' W : Nat → Int} (ok : okAct u v) (r : RepF v 30 t S) (ru : RepU v t S W c) (e : ext v v') (hs : shp v') (g : ∀ a, a < 30 ∨ 34 < a → agr v v' a) (r' : RepS v' 30 t S') (q : twn S' = twn S ∧ WS S' ∧ WV S' ∧ ∀ k, 94 ≤ k → S' k = S k) : okAct u v' ∧ RepF v' 30 t S' ∧ RepU v' t S' W c := by
  have tz := r.2.1
  have gt : ∀ a, t ≤ a → a ≤ t + 17 → agr v v' a := fun a _ _ => g a (by omega)
  refine ⟨⟨ok.1.tr e, hs, fun a ha => (ok.2.2.1 a ha).tr (g a (by omega)), fun i h6 h7 => ((g 1 (by omega) i).1).trans (ok.2.2.2.1 i h6 h7), fun i => ((g 1 (by omega) i).2).trans (ok.2.2.2.2 i)⟩, ⟨r', tz, ?_, q.2.1, q.2.2.1⟩, ru.fr tz e (g 1 (by omega) 6).1 (g 1 (by omega) 7).1 (fun a _ _ => g a (by omega)) gt q.2.2.2⟩
  rw [q.1]
  exact r.2.2.1.fr gt
theorem act_fin {v : hS} {t c : Nat} {S W : Nat → Int} (hs : shp v) (r : RepF v 30 t S) (ru : RepU v t S W c) : okRef v (hput (hsetV (hput v 233 W) 220 25 (c : Int)) 230 S) ∧ actInv (hput (hsetV (hput v 233 W) 220 25 (c : Int)) 230 S) := by
  have tz := r.2.1
  have e : ext v (hput (hsetV (hput v 233 W) 220 25 (c : Int)) 230 S) := ⟨Nat.le_refl _, fun _ _ => ⟨rfl, rfl⟩⟩
  have g : ∀ a, a ≠ 220 → a ≠ 230 → a ≠ 233 → agr v (hput (hsetV (hput v 233 W) 220 25 (c : Int)) 230 S) a := fun a h1 h2 h3 => ((agr.put h3).tr (agr.setV h1)).tr (agr.put h2)
  have k230 : hV (hput (hsetV (hput v 233 W) 220 25 (c : Int)) 230 S) 230 = S := hV_put_s _ _ _
  have k233 : hV (hput (hsetV (hput v 233 W) 220 25 (c : Int)) 230 S) 233 = W := by rw [hV_put_n (by decide), hV_ne (by decide), hV_put_s]
  have k25 : hV (hput (hsetV (hput v 233 W) 220 25 (c : Int)) 230 S) 220 25 = c := by rw [hV_put_n (by decide), hV_setV_s]
  refine ⟨⟨e, hs, g, fun i hi => ?_, fun _ _ => rfl⟩, ⟨t, c, ?_, ?_, k25⟩⟩
  · rw [hV_put_n (by decide), hV_setV_i hi, hV_put_n (by decide)]
  · rw [k230]
    exact r.fr e (fun a _ _ => g a (by omega) (by omega) (by omega)) (fun a _ _ => g a (by omega) (by omega) (by omega))
  · rw [k230, k233]
    exact ru.fr tz e (g 1 (by decide) (by decide) (by decide) 6).1 (g 1 (by decide) (by decide) (by decide) 7).1 (fun a _ _ => g a (by omega) (by omega) (by omega)) (fun a _ _ => g a (by omega) (by omega) (by omega)) (fun _ _ => rfl)
theorem okAct.V {u v : hS} (h : okAct u v) (a : Nat) (ha : 220 ≤ a) : hV v a = hV u a := by
  funext i
  exact (h.2.2.1 a (by omega) i).1
theorem qEnd_pos {S : Nat → Int} (v : WV S) {b : Nat} (hb : (b : Int) < S 2) (q : Int) (h : qEnd S (94 + 2 * b) q ≠ -1) : 0 ≤ qEnd S (94 + 2 * b) q := by
  have h1 := v.1 b hb
  rcases qEnd_in h with h | h <;> rw [h] <;> omega
theorem a_cross {u : hS} (hs : shp u) (ai : actInv u) (ex : ∀ b, b < 9 → hV u 231 b = 0) (p b : Int) : actAgree (m_X9_cross 1 p b) (m_X10_cross 220 p b) u := by
  obtain ⟨t, c, r, ru, h25⟩ := id ai
  have ws := r.2.2.2.1
  have wv := r.2.2.2.2
  have w2 := ws.2.2.1
  have w4 := ws.2.2.2.2.1
  by_cases hp : 0 ≤ p ∧ p < hV u 230 4
  case neg =>
    refine actAgree_same (r := -1) hs ai ?_ ?_
    · simp only [m_X9_cross_L28, m_X9_cross, hgI_k, hgR_k, hpI_k, hpR_k, hpZ_k, haI_k, haR_k, hsI_k, hsZ_k, hlen_k, hlet_e, hret_e, hretZ_0, hretZ_1, hif_e, okk_setV, okk_setF, nV, nF, fV, vF, hcallV_b, hbind_s, x_isPerson hs r.1, kk_1 hs, if_neg hp, if_true]
    · simp only [m_X10_cross_L25, m_X10_cross, hgI_k, hgR_k, hpI_k, hpR_k, hpZ_k, haI_k, haR_k, hsI_k, hsZ_k, hlen_k, hlet_e, hret_e, hretZ_0, hretZ_1, hif_e, okk_setV, okk_setF, nV, nF, fV, vF, hcallV_b, hbind_s, y_isPerson hs, kk_220 hs, if_neg hp, if_true]
  by_cases hb : 0 ≤ b ∧ b < hV u 230 2
  case neg =>
    refine actAgree_same (r := -1) hs ai ?_ ?_
    · simp only [m_X9_cross_L28, m_X9_cross, hgI_k, hgR_k, hpI_k, hpR_k, hpZ_k, haI_k, haR_k, hsI_k, hsZ_k, hlen_k, hlet_e, hret_e, hretZ_0, hretZ_1, hif_e, okk_setV, okk_setF, nV, nF, fV, vF, hcallV_b, hbind_s, x_isPerson hs r.1, x_isBridge hs r.1, kk_1 hs, if_pos hp, if_neg hb, if_true, if_neg (show ¬ (1 : Int) = 0 by decide)]
    · simp only [m_X10_cross_L25, m_X10_cross, hgI_k, hgR_k, hpI_k, hpR_k, hpZ_k, haI_k, haR_k, hsI_k, hsZ_k, hlen_k, hlet_e, hret_e, hretZ_0, hretZ_1, hif_e, okk_setV, okk_setF, nV, nF, fV, vF, hcallV_b, hbind_s, y_isPerson hs, y_isBridge hs, kk_220 hs, if_pos hp, if_neg hb, if_true, if_neg (show ¬ (1 : Int) = 0 by decide)]
  obtain ⟨p, rfl⟩ : ∃ n : Nat, p = n := ⟨p.toNat, by omega⟩
  obtain ⟨b, rfl⟩ : ∃ n : Nat, b = n := ⟨b.toNat, by omega⟩
  have cx := x_canCross r.1 ws hp.2 hb.2 (qEnd_pos wv hb.2)
  have n10 : ¬ (1 : Int) = 0 := by decide
  have n11 : (1 : Int) ≠ 0 := by decide
  by_cases hc : qCan (hV u 230) p b
  case neg =>
    have cy := (y_canCross hs ex (p := p) (b := b) (by omega) (by omega)).2 hc
    refine actAgree_same (r := -1) hs ai ?_ ?_
    · simp only [m_X9_cross_L28, m_X9_cross, hgI_k, hgR_k, hpI_k, hpR_k, hpZ_k, haI_k, haR_k, hsI_k, hsZ_k, hlen_k, hlet_e, hret_e, hretZ_0, hretZ_1, hif_e, okk_setV, okk_setF, nV, nF, fV, vF, hcallV_b, hbind_s, x_isPerson hs r.1, x_isBridge hs r.1, kk_1 hs, kk_30 hs, rf_1_3 hs, if_pos hp, if_pos hb, if_neg n10, cx.2 hc, ne_eq, not_true_eq_false, if_false]
    · simp only [m_X10_cross_L25, m_X10_cross, hgI_k, hgR_k, hpI_k, hpR_k, hpZ_k, haI_k, haR_k, hsI_k, hsZ_k, hlen_k, hlet_e, hret_e, hretZ_0, hretZ_1, hif_e, okk_setV, okk_setF, nV, nF, fV, vF, hcallV_b, hbind_s, y_isPerson hs, y_isBridge hs, kk_220 hs, if_pos hp, if_pos hb, if_neg n10, cy, ne_eq, not_true_eq_false, if_false]
  obtain ⟨v, hv, ok, rv, rvu, _⟩ := x_keepAct hs r ru
  obtain ⟨v', hv', rs', e', s', g'⟩ := x_goOver rv.1 ws (by have := r.2.1; omega) hp.2 hb.2
  obtain ⟨ok', rf', ru'⟩ := act_x ok rv rvu e' (s' ok.2.1) g' rs' (qCross_ok ws wv hp.2 hb.2 hc)
  have hs' := ok'.2.1
  have hsv := ok.2.1
  have q4 : qCross (hV u 230) p b 4 = hV u 230 4 := by
    unfold qCross
    rw [sup_n (by omega), sup_n (by omega), sup_n (by omega)]
  have i1 : p < 4 := by omega
  have ha := rf'.1.ha
  have er := rf'.1.at p (by rw [q4]; exact hp.2)
  have af := act_fin hs' rf' ru'
  have f230 : hV v' 230 = hV u 230 := ok'.V 230 (by decide)
  have f233 : hV v' 233 = hV u 233 := ok'.V 233 (by decide)
  have f25 : hV v' 220 25 = c := by rw [ok'.V 220 (by decide)]; exact h25
  have ex' : ∀ b, b < 9 → hV v' 231 b = 0 := by rw [ok'.V 231 (by decide)]; exact ex
  have cy := (y_canCross hs' ex' (p := p) (b := b) (by omega) (by omega)).1 (by rw [f230]; exact hc)
  have ky := y_keepsAct hs' (by obtain ⟨f, _, _, h, _⟩ := ru; exact h) f25
  rw [f230, f233] at ky
  have hs2 : shp (hsetV (hput v' 233 (qKeep (hV u 233) c (hV u 230))) 220 25 (qKeepN c : Int)) := hs'
  have f2 : hV (hsetV (hput v' 233 (qKeep (hV u 233) c (hV u 230))) 220 25 (qKeepN c : Int)) 230 = hV u 230 := by rw [hV_ne (by decide), hV_put_n (by decide), f230]
  have cr := y_crosses hs2 (p := p) (b := b) (by omega) (by omega)
  rw [f2] at cr
  have hs3 := af.1.2.1
  have po := y_personOf0 hs3 (p := p) (by omega)
  rw [hV_put_s] at po
  refine ⟨qCross (hV u 230) p b (10 + 3 * p), v', _, ?_, ?_, ok', af.1, af.2⟩
  · simp only [m_X9_cross_L28, m_X9_cross, hgI_k, hgR_k, hpI_k, hpR_k, hpZ_k, haI_k, haR_k, hsI_k, hsZ_k, hlen_k, hlet_e, hret_e, hretZ_0, hretZ_1, hif_e, okk_setV, okk_setF, nV, nF, fV, vF, haI_n, hcallV_b, hbind_s, x_isPerson hs r.1, x_isBridge hs r.1, kk_1 hs, kk_30 hs, rf_1_3 hs, if_pos hp, if_pos hb, if_neg n10, if_pos n11, cx.1 hc, hv, kk_1 hsv, rf_1_3 hsv, kk_30 hsv, hv', kk_1 hs', rf_1_3 hs', StA.k0 ha, StA.k1 ha, StA.k2 ha, StA.k3 ha, StA.k4 ha, StA.n1 ha, StA.n2 ha, StA.n3 ha, StA.n4 ha, StA.f2 ha, StA.f3 ha, StA.f4 ha, StA.f5 ha, i1, er]
  · simp only [m_X10_cross_L25, m_X10_cross, hgI_k, hgR_k, hpI_k, hpR_k, hpZ_k, haI_k, haR_k, hsI_k, hsZ_k, hlen_k, hlet_e, hret_e, hretZ_0, hretZ_1, hif_e, okk_setV, okk_setF, nV, nF, fV, vF, hcallV_b, hbind_s, y_isPerson hs', y_isBridge hs', f230, kk_220 hs', if_pos hp, if_pos hb, if_neg n10, if_pos n11, cy, ky, kk_220 hs2, cr, kk_220 hs3, po]
