/-! the call rule -/
theorem RX_self (v : hS) (r : Nat) : RX v r (hV v 222) (hV v 223 r) (hV v 227) (hV v 220 12) (hV v 220 13) (hV v 220 16) = v := by
  have e : rQ (hV v 220) (hV v 220 12) (hV v 220 13) (hV v 220 16) = hV v 220 := by
    funext i
    unfold rQ
    by_cases h1 : i = 12
    · rw [if_pos h1, h1]
    · rw [if_neg h1]
      by_cases h2 : i = 13
      · rw [if_pos h2, h2]
      · rw [if_neg h2]
        by_cases h3 : i = 16
        · rw [if_pos h3, h3]
        · rw [if_neg h3]
  unfold RX
  rw [e, sup_self, hput_self, hput_self, hput_self, hput_self]
theorem RepR1.fr {u v : hS} {r : Nat} (h : RepR1 u r) (g : ∀ a, 54 + 7 * r ≤ a → a ≤ 54 + 7 * r + 5 → hV v a = hV u a) (s2 : ∀ j, j < 400 → hV v 222 (400 * r + j) = hV u 222 (400 * r + j)) (s4 : ∀ i, i < 48 → hV v 224 (48 * r + i) = hV u 224 (48 * r + i)) (s5 : hV v 225 r = hV u 225 r) : RepR1 v r := by
  obtain ⟨C, M, a, b, e, h1, h2, h3, h4, h5, h6⟩ := h
  refine ⟨C, M, a, b, e, ?_, s5.trans h2, h3, h4, fun j hj => ?_, fun c hc => ?_⟩
  · rw [g _ (by omega) (by omega)]
    exact h1
  · rw [g (54 + 7 * r + 1) (by omega) (by omega), g (54 + 7 * r + 2) (by omega) (by omega), s2 j (by omega)]
    exact h5 j hj
  · rw [g (54 + 7 * r + 1) (by omega) (by omega), g (54 + 7 * r + 3) (by omega) (by omega), g (54 + 7 * r + 4) (by omega) (by omega), g (54 + 7 * r + 5) (by omega) (by omega), show 48 * r + 4 * c + 1 = 48 * r + (4 * c + 1) by omega, show 48 * r + 4 * c + 2 = 48 * r + (4 * c + 2) by omega, show 48 * r + 4 * c + 3 = 48 * r + (4 * c + 3) by omega, s4 (4 * c) (by omega), s4 (4 * c + 1) (by omega), s4 (4 * c + 2) (by omega), s4 (4 * c + 3) (by omega)]
    exact h6 c hc
/-- what rule leaves in the class -/
def okUc (Q : Nat) (u v : hS) : Prop := (hB v = hB u ∧ hK v = hK u ∧ hN v = hN u ∧ hF v = hF u) ∧ shp v ∧ (∀ a, a ≠ 1 → a ≠ 2 → (a < Q ∨ Q + 5 < a) → hV v a = hV u a) ∧ (∀ i, i ≠ 2 → hV v 1 i = hV u 1 i) ∧ hV v 2 1 = 0
theorem x_rule {u : hS} (hs : shp u) {n : Nat} (n4 : n ≤ 400) (hn : hV u 2 1 = (n : Int)) (hBy : byB (hV u 3) n) {r : Nat} (r6 : r < 6) (hr : hV u 1 2 = (r : Int)) : ∃ (u1 : hS) (f C M' : Nat) (A' B' E' : Nat → Nat), m_X9_rule 1 u = some (if f = 0 then (r : Int) else w32 (-2 - (f : Int)), u1) ∧ okUc (54 + 7 * r) u u1 ∧ (f ≠ 0 → hV u1 1 2 = (r : Int)) ∧ (f = 0 → hV u1 1 2 = ((r + 1 : Nat) : Int) ∧ C ≤ 12 ∧ M' ≤ 400 ∧ CI (54 + 7 * r) u1 C A' B' E' ∧ TI (hV u1 (54 + 7 * r + 1)) (hV u1 (54 + 7 * r + 2)) M' A' B' E' C) ∧ ∀ (v : hS) (Z O : Nat → Int) (dp oc m : Int) (G : Nat), rTp n (hV u 3) v → hV v 220 11 = (r : Int) → RI r v 0 (fun _ => 0) (fun _ => 0) (fun _ => 0) → 14 ≤ G → ∃ (v' : hS) (Z' O' : Nat → Int) (m' p'' k'' M'' dp'' oc'' : Int), hbind (m_X10_clauseHere 220 (rS (RX v r Z 0 O 0 dp oc) 0 0 m)) (fun w => m_X10_readsAll_L35 G 220 w) = m_X10_readsAll_L88 220 (rS (RX v' r Z' M'' O' k'' dp'' oc'') p'' (f : Int) m') ∧ frR r v v' ∧ zF r Z Z' ∧ (f = 0 → RI r v' C A' B' E' ∧ zk r Z' (hV u1 (54 + 7 * r + 1)) (hV u1 (54 + 7 * r + 2)) M') := by
  obtain ⟨ru, hq⟩ := rul_at hs r6
  generalize hQ : 54 + 7 * r = Q at *
  have q54 : 54 ≤ Q := by omega
  have Q95 : Q + 6 ≤ 95 := by omega
  have h : cTp n (hV u 3) u := ⟨hs, hn, rfl, n4⟩
  have h1 : cTp n (hV u 3) (hsetV u Q 7 0) := h.set (by omega) (by omega)
  have ru1 : RuA (hsetV u Q 7 0) Q := ru
  obtain ⟨u', cd', op', M', k', p', f, C, s', A', B', E', E1, fr, gd, rf⟩ := rlines hBy q54 r6 12 0 rfl (hsetV u Q 7 0) (hV u (Q + 1)) (hV u (Q + 2)) 0 0 0 0 (fun _ => 0) (fun _ => 0) (fun _ => 0) h1 ru1 ⟨hV_setV_s _ _ _ _, fun i hi => by omega⟩ ⟨fun j hj => by omega, fun i hi => by omega⟩ (by omega) (by omega) (by omega) 1000000000 (by omega)
  have E1 : m_X3_read_L23 1000000000 Q 2 1 0 (tS (RM (hsetV u Q 7 0) Q (hV u (Q + 1)) (hV u (Q + 2)) 0 0) 0 0 0) = some (0, tS (RM u' Q cd' op' M' k') (p' : Int) s' (f : Int)) := E1
  have Bg : m_X6_begin 2 u = some (0, tS u 0 0 0) := by
    have := x_begin hs (hV u 2 2) (hV u 2 3) (hV u 2 4)
    rwa [tS_self] at this
  have hsT : shp (tS u 0 0 0) := by rw [tS_shp]; exact hs
  have st : hsetV (hsetV (hsetV (tS u 0 0 0) Q 6 0) Q 7 0) Q 8 0 = tS (RM (hsetV u Q 7 0) Q (hV u (Q + 1)) (hV u (Q + 2)) 0 0) 0 0 0 := by
    rw [tS_set (by omega), tS_set (by omega), tS_set (by omega)]
    have e : hsetV (hsetV (hsetV u Q 6 0) Q 7 0) Q 8 0 = RM (hsetV u Q 7 0) Q (hV u (Q + 1)) (hV u (Q + 2)) 0 0 := by
      have e0 := RM_self u Q
      have e1 : hsetV (hsetV (hsetV (RM u Q (hV u (Q + 1)) (hV u (Q + 2)) (hV u Q 6) (hV u Q 8)) Q 6 0) Q 7 0) Q 8 0 = RM (hsetV u Q 7 0) Q (hV u (Q + 1)) (hV u (Q + 2)) 0 0 := by rw [RM_w6, RM_w7, RM_w8]
      rw [e0] at e1
      exact e1
    rw [e]
  have kQ : ∀ X, RuA X Q → okk X Q 3 := fun X hX => hX.k0
  have ruT : RuA (tS u 0 0 0) Q := ru
  have Rd : m_X3_read Q 2 u = some (0, tS (RM u' Q cd' op' M' k') (p' : Int) s' (f : Int)) := by
    unfold m_X3_read
    rw [hcallV_b (kk_2 hs), Bg, hbind_p, hpI_k (kQ _ ruT), hpI_k (kQ _ (show RuA (hsetV (tS u 0 0 0) Q 6 0) Q from ru)), hpI_k (kQ _ (show RuA (hsetV (hsetV (tS u 0 0 0) Q 6 0) Q 7 0) Q from ru)), st, hlet_p, hlet_p, E1]
  have hs1 : shp u' := fr.shp hs
  have hsX : shp (tS (RM u' Q cd' op' M' k') (p' : Int) s' (f : Int)) := by rw [tS_shp, RM_shp]; exact hs1
  have hsY : shp (hsetV (tS (RM u' Q cd' op' M' k') (p' : Int) s' (f : Int)) 2 1 0) := hsX
  have sF : hF (hsetV (tS (RM u' Q cd' op' M' k') (p' : Int) s' (f : Int)) 2 1 0) = hF u := by
    rw [sV_F, tS_F, RM_F, fr.1.2.2.2]
    rfl
  have sN' : hN (hsetV (tS (RM u' Q cd' op' M' k') (p' : Int) s' (f : Int)) 2 1 0) = hN u := by
    rw [sV_N, tS_N, RM_N, fr.1.2.2.1]
    rfl
  have sK : hK (hsetV (tS (RM u' Q cd' op' M' k') (p' : Int) s' (f : Int)) 2 1 0) = hK u := fr.1.2.1
  have sB' : hB (hsetV (tS (RM u' Q cd' op' M' k') (p' : Int) s' (f : Int)) 2 1 0) = hB u := fr.1.1
  have vO : ∀ a, a ≠ 2 → (a < Q ∨ Q + 5 < a) → hV (hsetV (tS (RM u' Q cd' op' M' k') (p' : Int) s' (f : Int)) 2 1 0) a = hV u a := fun a h1 h2 => by rw [hV_ne h1, tS_o h1, RM_o (by omega), fr.2 a h2, hV_ne (by omega)]
  have vQ : ∀ i, i ≠ 6 → i ≠ 8 → hV (hsetV (tS (RM u' Q cd' op' M' k') (p' : Int) s' (f : Int)) 2 1 0) Q i = hV u' Q i := fun i h1 h2 => by rw [hV_setV_a (by omega), tS_o (by omega), RM_i ⟨h1, h2⟩]
  have v1 : hV (hsetV (tS (RM u' Q cd' op' M' k') (p' : Int) s' (f : Int)) 2 1 0) (Q + 1) = cd' := by rw [hV_ne (by omega), tS_o (by omega), RM_1]
  have v2 : hV (hsetV (tS (RM u' Q cd' op' M' k') (p' : Int) s' (f : Int)) 2 1 0) (Q + 2) = op' := by rw [hV_ne (by omega), tS_o (by omega), RM_2]
  have v345 : ∀ a, Q + 3 ≤ a → a ≤ Q + 5 → hV (hsetV (tS (RM u' Q cd' op' M' k') (p' : Int) s' (f : Int)) 2 1 0) a = hV u' a := fun a h1 h2 => by rw [hV_ne (by omega), tS_o (by omega), RM_o (by omega)]
  have v24 : hV (hsetV (tS (RM u' Q cd' op' M' k') (p' : Int) s' (f : Int)) 2 1 0) 2 4 = (f : Int) := by rw [hV_setV_i (by decide), tS_4]
  have v21 : hV (hsetV (tS (RM u' Q cd' op' M' k') (p' : Int) s' (f : Int)) 2 1 0) 2 1 = 0 := hV_setV_s _ _ _ _
  have T : m_X9_rule 1 u = (hif (hV (hsetV (tS (RM u' Q cd' op' M' k') (p' : Int) s' (f : Int)) 2 1 0) 2 4 = 0) (hgI 9 1 2 fun v9 => hpI 9 1 2 (w32 (v9 + 1)) <| hgI 9 1 2 fun v10 => hret (w32 (v10 - 1))) (hgR 9 1 0 fun v11 => hgI 6 v11 4 fun v12 => hret (w32 (-2 - v12)))) (hsetV (tS (RM u' Q cd' op' M' k') (p' : Int) s' (f : Int)) 2 1 0) := by
    unfold m_X9_rule
    rw [hgI_k (kk_1 hs), hr, hif_p, if_pos (by omega), hgR_k (kk_1 hs), rf_1_1 hs, hgI_k (kk_1 hs), hr, haR_n (kk_4 hs) (by rw [ln_4 hs]; exact r6), hq, hgR_k (kk_1 hs), rf_1_0 hs, hcallV_b (kQ u ru), Rd, hbind_p, hgR_k (kk_1 hsX), rf_1_0 hsX, hpI_k (kk_2 hsX), hgR_k (kk_1 hsY), rf_1_0 hsY, hgI_k (kk_2 hsY)]
  generalize hsetV (tS (RM u' Q cd' op' M' k') (p' : Int) s' (f : Int)) 2 1 0 = w at *
  have w12 : hV w 1 2 = (r : Int) := by rw [vO 1 (by decide) (by omega)]; exact hr
  by_cases z : f = 0
  · obtain ⟨g1, g2, g3, g4⟩ := gd z
    have hs9 : shp (hsetV w 1 2 ((r + 1 : Nat) : Int)) := hsY
    refine ⟨hsetV w 1 2 ((r + 1 : Nat) : Int), f, C, M', A', B', E', ?_, ⟨⟨sB', sK, sN', sF⟩, hs9, fun a h1 h2 h3 => by rw [hV_ne h1]; exact vO a h2 h3, fun i hi => by rw [hV_setV_i hi, vO 1 (by decide) (by omega)], by rw [hV_setV_a (by decide)]; exact v21⟩, fun y => absurd z y, fun _ => ⟨hV_setV_s _ _ _ _, g1, g2, ?_, ?_⟩, ?_⟩
    · rw [T, v24, hif_p, if_pos (by omega), hgI_k (kk_1 hsY), w12, hpI_k (kk_1 hsY), ix_s (by omega), hgI_k (kk_1 hs9), hV_setV_s, hret_p, if_pos z]
      have : w32 (((r + 1 : Nat) : Int) - 1) = (r : Int) := w32_n (by omega) (by omega)
      rw [this]
    · refine ⟨?_, fun i hi => ?_⟩
      · rw [hV_setV_a (by omega), vQ 7 (by decide) (by decide)]
        exact g3.1
      · rw [hV_setV_a (by omega), hV_setV_a (by omega), hV_setV_a (by omega), v345 _ (by omega) (by omega), v345 _ (by omega) (by omega), v345 _ (by omega) (by omega)]
        exact g3.2 i hi
    · rw [hV_ne (by omega), hV_ne (by omega), v1, v2]
      exact g4
    · intro v Z O dp oc m G hv h11 ri hG
      rw [hV_ne (by omega), hV_ne (by omega), v1, v2]
      exact rf v Z O dp oc m G hv h11 ri (fun j hj => by omega) (by omega)
  · refine ⟨w, f, C, M', A', B', E', ?_, ⟨⟨sB', sK, sN', sF⟩, hsY, fun a h1 h2 h3 => vO a h2 h3, fun i hi => by rw [vO 1 (by decide) (by omega)], v21⟩, fun _ => w12, fun y => absurd y z, ?_⟩
    · rw [T, v24, hif_p, if_neg (by omega), hgR_k (kk_1 hsY), rf_1_0 hsY, hgI_k (kk_2 hsY), v24, hret_p, if_neg z]
    · intro v Z O dp oc m G hv h11 ri hG
      rw [v1, v2]
      exact rf v Z O dp oc m G hv h11 ri (fun j hj => by omega) (by omega)
/-- what the reference's rule may change -/
def okUr (r : Nat) (u v : hS) : Prop := ext u v ∧ shp v ∧ (∀ a i, hF v a i = hF u a i) ∧ (∀ a, a ≠ 220 → a ≠ 222 → a ≠ 223 → a ≠ 224 → a ≠ 225 → a ≠ 227 → hV v a = hV u a) ∧ (∀ i, i ≠ 1 → i ≠ 2 → ¬ (8 ≤ i ∧ i ≤ 16) → hV v 220 i = hV u 220 i) ∧ hV v 220 1 = 0 ∧ (∀ i, i < 400 * r ∨ 400 * r + 400 ≤ i → hV v 222 i = hV u 222 i) ∧ (∀ i, i < 48 * r ∨ 48 * r + 48 ≤ i → hV v 224 i = hV u 224 i) ∧ ∀ i, i ≠ r → hV v 225 i = hV u 225 i
theorem y_rule {u : hS} (hs : shp u) {r : Nat} (r6 : r < 6) (h2 : hV u 220 2 = (r : Int)) (f C M' : Nat) (A' B' E' : Nat → Nat) (cd op : Nat → Int) (hr : ∀ (v : hS) (Z O : Nat → Int) (dp oc m : Int) (G : Nat), shp v → hV v 220 1 = hV u 220 1 → hV v 221 = hV u 221 → hV v 220 11 = (r : Int) → RI r v 0 (fun _ => 0) (fun _ => 0) (fun _ => 0) → 14 ≤ G → ∃ (v' : hS) (Z' O' : Nat → Int) (m' p'' k'' M'' dp'' oc'' : Int), hbind (m_X10_clauseHere 220 (rS (RX v r Z 0 O 0 dp oc) 0 0 m)) (fun w => m_X10_readsAll_L35 G 220 w) = m_X10_readsAll_L88 220 (rS (RX v' r Z' M'' O' k'' dp'' oc'') p'' (f : Int) m') ∧ frR r v v' ∧ zF r Z Z' ∧ (f = 0 → RI r v' C A' B' E' ∧ zk r Z' cd op M')) : ∃ u2, m_X10_rule 220 u = some (if f = 0 then (r : Int) else w32 (-2 - (f : Int)), u2) ∧ okUr r u u2 ∧ (f ≠ 0 → hV u2 220 2 = (r : Int)) ∧ (f = 0 → hV u2 220 2 = ((r + 1 : Nat) : Int) ∧ RI r (hsetV u2 220 14 (C : Int)) C A' B' E' ∧ zk r (hV u2 222) cd op M') := by
  -- before the reading
  generalize hw0 : hsetV (hsetV u 220 11 (r : Int)) 225 r 0 = w0
  have hs0 : shp w0 := by rw [← hw0]; exact hs
  have w11 : hV w0 220 11 = (r : Int) := by rw [← hw0, hV_setV_a (by decide), hV_setV_s]
  have wo : ∀ a, a ≠ 220 → a ≠ 225 → hV w0 a = hV u a := fun a k1 k2 => by rw [← hw0, hV_ne k2, hV_ne k1]
  have wi : ∀ i, i ≠ 11 → hV w0 220 i = hV u 220 i := fun i hi => by rw [← hw0, hV_setV_a (by decide), hV_setV_i hi]
  have w5 : hV w0 225 r = 0 := by rw [← hw0, hV_setV_s]
  have w5i : ∀ i, i ≠ r → hV w0 225 i = hV u 225 i := fun i hi => by rw [← hw0, hV_setV_i hi, hV_setV_a (by decide)]
  have wF : hF w0 = hF u := by rw [← hw0]; rfl
  have wE : hB w0 = hB u ∧ hK w0 = hK u ∧ hN w0 = hN u := by rw [← hw0]; exact ⟨rfl, rfl, rfl⟩
  generalize hv : hsetV w0 220 14 0 = v
  have hsv : shp v := by rw [← hv]; exact hs0
  have v1 : hV v 220 1 = hV u 220 1 := by rw [← hv, hV_setV_i (by decide), wi 1 (by decide)]
  have v21 : hV v 221 = hV u 221 := by rw [← hv, hV_ne (by decide), wo 221 (by decide) (by decide)]
  have v11 : hV v 220 11 = (r : Int) := by rw [← hv, hV_setV_i (by decide)]; exact w11
  have ri : RI r v 0 (fun _ => 0) (fun _ => 0) (fun _ => 0) := ⟨by rw [← hv, hV_setV_s]; rfl, by rw [← hv, hV_setV_a (by decide), w5]; rfl, fun i hi => by omega⟩
  obtain ⟨v', Z', O', m', p'', k'', M'', dp'', oc'', x1, x2, x3, x4⟩ := hr v (hV w0 222) (hV w0 227) (hV w0 220 13) (hV w0 220 16) (hV w0 220 10) 1000000000 hsv v1 v21 v11 ri (by decide)
  have st : hsetV (hsetV (hsetV (hsetV (hsetV w0 223 r 0) 220 14 0) 220 8 0) 220 9 0) 220 12 0 = rS (RX v r (hV w0 222) 0 (hV w0 227) 0 (hV w0 220 13) (hV w0 220 16)) 0 0 (hV w0 220 10) := by
    have e1 : hsetV (hsetV (hsetV (hsetV (hsetV (rS (RX w0 r (hV w0 222) (hV w0 223 r) (hV w0 227) (hV w0 220 12) (hV w0 220 13) (hV w0 220 16)) (hV w0 220 8) (hV w0 220 9) (hV w0 220 10)) 223 r 0) 220 14 0) 220 8 0) 220 9 0) 220 12 0 = rS (RX v r (hV w0 222) 0 (hV w0 227) 0 (hV w0 220 13) (hV w0 220 16)) 0 0 (hV w0 220 10) := by
      rw [rS_set (show 223 ≠ 220 by decide), RX_w223, rS_seti (by decide), RX_w14, rS_w8, rS_w9, rS_seti (by decide), RX_w12, hv]
    rw [RX_self, rS_self] at e1
    exact e1
  have k : ∀ {w : hS} {i : Nat} {x : Int} {f : hM}, shp w → hpI 10 220 i x f w = f (hsetV w 220 i x) := fun h => hpI_k (kk_220 h)
  have Rd : m_X10_readsAll 220 w0 = m_X10_readsAll_L88 220 (rS (RX v' r Z' M'' O' k'' dp'' oc'') p'' (f : Int) m') := by
    have s0 : shp (hsetV w0 223 r 0) := hs0
    have s1 : shp (hsetV (hsetV w0 223 r 0) 220 14 0) := hs0
    have s2 : shp (hsetV (hsetV (hsetV w0 223 r 0) 220 14 0) 220 8 0) := hs0
    have s3 : shp (hsetV (hsetV (hsetV (hsetV w0 223 r 0) 220 14 0) 220 8 0) 220 9 0) := hs0
    have s4 : shp (hsetV (hsetV (hsetV (hsetV (hsetV w0 223 r 0) 220 14 0) 220 8 0) 220 9 0) 220 12 0) := hs0
    unfold m_X10_readsAll
    rw [hgR_k (kk_220 hs0), rf_220_4 hs0, hgI_k (kk_220 hs0), w11, hsI_n (kk_223 hs0) (by rw [ln_223 hs0]; omega), k s0, k s1, k s2, k s3, hcallV_b (kk_220 s4), st]
    exact x1
  have hsv' : shp v' := x2.shp hsv
  have hsY : shp (rS (RX v' r Z' M'' O' k'' dp'' oc'') p'' (f : Int) m') := by
    rw [rS_shp, RX_shp]
    exact hsv'
  have hsZ : shp (hsetV (rS (RX v' r Z' M'' O' k'' dp'' oc'') p'' (f : Int) m') 220 1 0) := hsY
  have f9 : hV (hsetV (rS (RX v' r Z' M'' O' k'' dp'' oc'') p'' (f : Int) m') 220 1 0) 220 9 = (f : Int) := by rw [hV_setV_i (by decide), rS_9]
  have L88 : m_X10_readsAll_L88 220 (rS (RX v' r Z' M'' O' k'' dp'' oc'') p'' (f : Int) m') = some (if f = 0 then 1 else 0, hsetV (rS (RX v' r Z' M'' O' k'' dp'' oc'') p'' (f : Int) m') 220 1 0) := by
    unfold m_X10_readsAll_L88 m_X10_readsAll_L105
    rw [hpI_k (kk_220 hsY), hgI_k (kk_220 hsZ), f9, hif_p]
    by_cases z : f = 0
    · rw [if_neg (by omega), if_pos z, hretZ_1]
    · rw [if_pos (by omega), if_neg z, hretZ_0]
  -- what has changed
  have yO : ∀ a, a ≠ 220 → a ≠ 222 → a ≠ 223 → a ≠ 224 → a ≠ 225 → a ≠ 227 → hV (hsetV (rS (RX v' r Z' M'' O' k'' dp'' oc'') p'' (f : Int) m') 220 1 0) a = hV u a := fun a k1 k2 k3 k4 k5 k6 => by rw [hV_ne k1, rS_o k1, RX_o ⟨k1, k2, k3, k6⟩, x2.2.1 a k1 k4 k5, ← hv, hV_ne k1, wo a k1 k5]
  have yI : ∀ i, i ≠ 1 → ¬ (8 ≤ i ∧ i ≤ 16) → hV (hsetV (rS (RX v' r Z' M'' O' k'' dp'' oc'') p'' (f : Int) m') 220 1 0) 220 i = hV u 220 i := fun i k1 k2 => by rw [hV_setV_i k1, rS_i (by omega), RX_i (by omega), x2.2.2.1 i (by omega), ← hv, hV_setV_i (by omega), wi i (by omega)]
  have y222 : hV (hsetV (rS (RX v' r Z' M'' O' k'' dp'' oc'') p'' (f : Int) m') 220 1 0) 222 = Z' := by rw [hV_ne (by decide), rS_o (by decide), RX_222]
  have y224 : hV (hsetV (rS (RX v' r Z' M'' O' k'' dp'' oc'') p'' (f : Int) m') 220 1 0) 224 = hV v' 224 := by rw [hV_ne (by decide), rS_o (by decide), RX_o (by decide)]
  have y225 : hV (hsetV (rS (RX v' r Z' M'' O' k'' dp'' oc'') p'' (f : Int) m') 220 1 0) 225 = hV v' 225 := by rw [hV_ne (by decide), rS_o (by decide), RX_o (by decide)]
  have y1 : hV (hsetV (rS (RX v' r Z' M'' O' k'' dp'' oc'') p'' (f : Int) m') 220 1 0) 220 1 = 0 := hV_setV_s _ _ _ _
  have yF : ∀ a i, hF (hsetV (rS (RX v' r Z' M'' O' k'' dp'' oc'') p'' (f : Int) m') 220 1 0) a i = hF u a i := fun a i => by
    rw [sV_F, rS_F, RX_F, x2.1.2.2.2, ← hv, sV_F, wF]
  have yE : ext u (hsetV (rS (RX v' r Z' M'' O' k'' dp'' oc'') p'' (f : Int) m') 220 1 0) := by
    have e1 : hB v' = hB u := by rw [x2.1.1, ← hv, sV_B, wE.1]
    have e2 : hK v' = hK u := by rw [x2.1.2.1, ← hv, sV_K, wE.2.1]
    have e3 : hN v' = hN u := by rw [x2.1.2.2.1, ← hv, sV_N, wE.2.2]
    refine ⟨?_, fun a _ => ⟨?_, ?_⟩⟩
    · show hB u ≤ hB v'
      rw [e1]
      exact Nat.le_refl _
    · show hK v' a = hK u a
      rw [e2]
    · show hN v' a = hN u a
      rw [e3]
  have z4 : ∀ i, i < 48 * r ∨ 48 * r + 48 ≤ i → hV v' 224 i = hV u 224 i := fun i hi => by rw [x2.2.2.2.1 i hi, ← hv, hV_setV_a (by decide), wo 224 (by decide) (by decide)]
  have z5 : ∀ i, i ≠ r → hV v' 225 i = hV u 225 i := fun i hi => by rw [x2.2.2.2.2 i hi, ← hv, hV_setV_a (by decide), w5i i hi]
  have z2 : ∀ i, i < 400 * r ∨ 400 * r + 400 ≤ i → Z' i = hV u 222 i := fun i hi => by rw [x3 i hi, wo 222 (by decide) (by decide)]
  have T : m_X10_rule 220 u = (hif ((if f = 0 then (1 : Int) else 0) ≠ 0) (hgI 10 220 2 fun v6 => hpI 10 220 2 (w32 (v6 + 1)) <| hgI 10 220 2 fun v7 => hret (w32 (v7 - 1))) (hgI 10 220 9 fun v8 => hret (w32 (-2 - v8)))) (hsetV (rS (RX v' r Z' M'' O' k'' dp'' oc'') p'' (f : Int) m') 220 1 0) := by
    have s1 : shp (hsetV u 220 11 (r : Int)) := hs
    unfold m_X10_rule
    rw [hgI_k (kk_220 hs), h2, hif_p, if_pos (by omega), hgI_k (kk_220 hs), h2, hpI_k (kk_220 hs), hgR_k (kk_220 s1), rf_220_6 s1, hgI_k (kk_220 s1), hV_setV_s, hsI_n (kk_225 s1) (by rw [ln_225 s1]; omega), hw0, hcallV_b (kk_220 hs0), Rd, L88, hbind_p]
  generalize hsetV (rS (RX v' r Z' M'' O' k'' dp'' oc'') p'' (f : Int) m') 220 1 0 = y at *
  have y2 : hV y 220 2 = (r : Int) := by rw [yI 2 (by decide) (by decide)]; exact h2
  by_cases z : f = 0
  · obtain ⟨q1, q2⟩ := x4 z
    have hs9 : shp (hsetV y 220 2 ((r + 1 : Nat) : Int)) := hsZ
    refine ⟨hsetV y 220 2 ((r + 1 : Nat) : Int), ?_, ⟨yE, hs9, yF, fun a k1 k2 k3 k4 k5 k6 => by rw [hV_ne k1]; exact yO a k1 k2 k3 k4 k5 k6, fun i k1 k2 k3 => by rw [hV_setV_i k2]; exact yI i k1 k3, by rw [hV_setV_i (by decide)]; exact y1, fun i hi => by rw [hV_setV_a (by decide), y222]; exact z2 i hi, fun i hi => by rw [hV_setV_a (by decide), y224]; exact z4 i hi, fun i hi => by rw [hV_setV_a (by decide), y225]; exact z5 i hi⟩, fun k => absurd z k, fun _ => ⟨hV_setV_s _ _ _ _, ⟨hV_setV_s _ _ _ _, ?_, fun i hi => ?_⟩, ?_⟩⟩
    · rw [T, if_pos z, hif_p, if_pos (by decide), hgI_k (kk_220 hsZ), y2, hpI_k (kk_220 hsZ), ix_s (by omega), hgI_k (kk_220 hs9), hV_setV_s, hret_p, if_pos z]
      have : w32 (((r + 1 : Nat) : Int) - 1) = (r : Int) := w32_n (by omega) (by omega)
      rw [this]
    · rw [hV_setV_a (by decide), hV_setV_a (by decide), y225]
      exact q1.2.1
    · rw [hV_setV_a (by decide), hV_setV_a (by decide), hV_setV_a (by decide), hV_setV_a (by decide), hV_setV_a (by decide), hV_setV_a (by decide), hV_setV_a (by decide), hV_setV_a (by decide), y224]
      exact q1.2.2 i hi
    · rw [hV_ne (by decide), y222]
      exact q2
  · refine ⟨y, ?_, ⟨yE, hsZ, yF, yO, fun i k1 k2 k3 => yI i k1 k3, y1, fun i hi => by rw [y222]; exact z2 i hi, fun i hi => by rw [y224]; exact z4 i hi, fun i hi => by rw [y225]; exact z5 i hi⟩, fun _ => y2, fun k => absurd k z⟩
    rw [T, if_neg z, hif_p, if_neg (fun q => q rfl), hgI_k (kk_220 hsZ), f9, hret_p, if_neg z]
theorem a_rule {u : hS} (iv : Inv u) : agree Inv (m_X9_rule 1) (m_X10_rule 220) u := by
  obtain ⟨hs, ai, ri, rp, rr, rx⟩ := id iv
  obtain ⟨n, n4, hn, hn', hb⟩ := id rp
  obtain ⟨N, N6, c1, c2, c3⟩ := id rr
  by_cases NN : N < 6
  case neg =>
    refine ⟨-1, u, u, ?_, ?_, hs, iv⟩
    · unfold m_X9_rule
      rw [hgI_k (kk_1 hs), c1, hif_p, if_neg (by omega)]
      rfl
    · unfold m_X10_rule
      rw [hgI_k (kk_220 hs), c2, hif_p, if_neg (by omega)]
      rfl
  obtain ⟨u1, f, C, M', A', B', E', e1, ⟨⟨sB, sK, sN, sF⟩, hs1, vO, f1, z1⟩, bad, good, rf⟩ := x_rule hs n4 hn (fun i hi => (hb i hi).2) NN c1
  have b3 := hs.1
  obtain ⟨u2, e2, ⟨yE, hs2, yF, yO, yI, y1, y2, y4, y5⟩, bd2, gd2⟩ := y_rule hs1 NN (by rw [vO 220 (by decide) (by decide) (by omega)]; exact c2) f C M' A' B' E' (hV u1 (54 + 7 * N + 1)) (hV u1 (54 + 7 * N + 2)) (fun v Z O dp oc m G hv h1 h2 h11 rI hG => by
    refine rf v Z O dp oc m G ⟨hv, ?_, fun i hi => ?_, n4⟩ h11 rI hG
    · rw [h1, vO 220 (by decide) (by decide) (by omega)]
      exact hn'
    · rw [h2, vO 221 (by decide) (by decide) (by omega)]
      exact (hb i hi).1.symm)
  have ex : ext u u2 := by
    refine ⟨?_, fun a ha => ?_⟩
    · have := yE.1
      rw [sB] at this
      exact this
    · have := yE.2 a (by rw [sB]; exact ha)
      rw [sK, sN] at this
      exact this
  have V : ∀ a, a ≠ 1 → a ≠ 2 → (a < 54 + 7 * N ∨ 54 + 7 * N + 5 < a) → a ≠ 220 → a ≠ 222 → a ≠ 223 → a ≠ 224 → a ≠ 225 → a ≠ 227 → hV u2 a = hV u a := fun a k1 k2 k3 k4 k5 k6 k7 k8 k9 => by rw [yO a k4 k5 k6 k7 k8 k9, vO a k1 k2 k3]
  have ag : ∀ a, a ≠ 1 → a ≠ 2 → (a < 54 + 7 * N ∨ 54 + 7 * N + 5 < a) → a ≠ 220 → a ≠ 222 → a ≠ 223 → a ≠ 224 → a ≠ 225 → a ≠ 227 → agr u u2 a := fun a k1 k2 k3 k4 k5 k6 k7 k8 k9 i => ⟨by rw [V a k1 k2 k3 k4 k5 k6 k7 k8 k9], by rw [yF, sF]⟩
  have V1 : ∀ i, i ≠ 2 → hV u2 1 i = hV u 1 i := fun i hi => by rw [yO 1 (by decide) (by decide) (by decide) (by decide) (by decide) (by decide)]; exact f1 i hi
  have V220 : ∀ i, i ≠ 1 → i ≠ 2 → ¬ (8 ≤ i ∧ i ≤ 16) → hV u2 220 i = hV u 220 i := fun i k1 k2 k3 => by rw [yI i k1 k2 k3, vO 220 (by decide) (by decide) (by omega)]
  -- the rules that were
  have old : ∀ r, r < N → RepR1 u2 r := fun r hr => by
    refine (c3 r hr).fr (fun a k1 k2 => V a (by omega) (by omega) (by omega) (by omega) (by omega) (by omega) (by omega) (by omega) (by omega)) (fun j hj => ?_) (fun i hi => ?_) ?_
    · rw [y2 _ (by omega), vO 222 (by decide) (by decide) (by omega)]
    · rw [y4 _ (by omega), vO 224 (by decide) (by decide) (by omega)]
    · rw [y5 r (by omega), vO 225 (by decide) (by decide) (by omega)]
  refine ⟨_, u1, u2, e1, e2, hs1, hs2, ?_, ?_, ?_, ?_, ?_⟩
  · exact ai.fr ex (fun a h1 h2 => ag a (by omega) (by omega) (by omega) (by omega) (by omega) (by omega) (by omega) (by omega) (by omega)) (fun a h1 h2 => ag a (by omega) (by omega) (by omega) (by omega) (by omega) (by omega) (by omega) (by omega) (by omega)) (fun a h1 h2 => ag a (by omega) (by omega) (by omega) (by omega) (by omega) (by omega) (by omega) (by omega) (by omega)) (V1 6 (by decide)) (V1 7 (by decide)) (V 230 (by decide) (by decide) (by omega) (by decide) (by decide) (by decide) (by decide) (by decide) (by decide)) (V 233 (by decide) (by decide) (by omega) (by decide) (by decide) (by decide) (by decide) (by decide) (by decide)) (V220 25 (by decide) (by decide) (by decide))
  · exact ri.fr' ex (fun a h1 h2 => ag a (by omega) (by omega) (by omega) (by omega) (by omega) (by omega) (by omega) (by omega) (by omega)) (fun a h1 h2 => ag a (by omega) (by omega) (by omega) (by omega) (by omega) (by omega) (by omega) (by omega) (by omega)) (V 242 (by decide) (by decide) (by omega) (by decide) (by decide) (by decide) (by decide) (by decide) (by decide)) (V 241 (by decide) (by decide) (by omega) (by decide) (by decide) (by decide) (by decide) (by decide) (by decide)) (V 240 (by decide) (by decide) (by omega) (by decide) (by decide) (by decide) (by decide) (by decide) (by decide))
  · refine ⟨0, by decide, ?_, y1, fun i hi => by omega⟩
    rw [yO 2 (by decide) (by decide) (by decide) (by decide) (by decide) (by decide)]
    exact z1
  · by_cases z : f = 0
    · obtain ⟨g1, g2, g3, g4, g5⟩ := good z
      obtain ⟨q1, q2, q3⟩ := gd2 z
      refine ⟨N + 1, by omega, ?_, q1, fun r hr => ?_⟩
      · rw [yO 1 (by decide) (by decide) (by decide) (by decide) (by decide) (by decide)]
        exact g1
      · by_cases y : r = N
        · subst y
          have W : ∀ a, 54 + 7 * r ≤ a → a ≤ 54 + 7 * r + 5 → hV u2 a = hV u1 a := fun a k1 k2 => yO a (by omega) (by omega) (by omega) (by omega) (by omega) (by omega)
          refine ⟨C, M', A', B', E', ?_, ?_, g2, g3, fun j hj => ⟨?_, ?_⟩, fun c hc => ⟨?_, ?_, ?_⟩⟩
          · rw [W _ (by omega) (by omega)]
            exact g4.1
          · have := q2.2.1
            rw [hV_setV_a (by decide)] at this
            exact this
          · rw [W _ (by omega) (by omega), W _ (by omega) (by omega)]
            exact g5.1 j hj
          · rw [W (54 + 7 * r + 1) (by omega) (by omega), W (54 + 7 * r + 2) (by omega) (by omega)]
            exact q3 j hj
          · rw [W _ (by omega) (by omega)]
            exact g5.2 c hc
          · rw [W (54 + 7 * r + 3) (by omega) (by omega), W (54 + 7 * r + 4) (by omega) (by omega), W (54 + 7 * r + 5) (by omega) (by omega)]
            exact g4.2 c hc
          · have := q2.2.2 c hc
            rw [hV_setV_a (by decide), hV_setV_a (by decide), hV_setV_a (by decide), hV_setV_a (by decide)] at this
            exact this
        · exact old r (by omega)
    · refine ⟨N, N6, ?_, bd2 z, old⟩
      rw [yO 1 (by decide) (by decide) (by decide) (by decide) (by decide) (by decide)]
      exact bad z
  · exact rx.fr (V1 9 (by decide)) (V220 21 (by decide) (by decide) (by decide)) (V 231 (by decide) (by decide) (by omega) (by decide) (by decide) (by decide) (by decide) (by decide) (by decide))
