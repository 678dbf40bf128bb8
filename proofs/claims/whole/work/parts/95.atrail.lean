theorem qLeft_ok {S : Nat → Int} (ws : WS S) (wv : WV S) {p b : Nat} (hp : (p : Int) < S 4) (hb : (b : Int) < S 2) : 0 ≤ qLeft S p b ∧ qLeft S p b ≤ 9 := by
  have z := wv.2.2.2.1 p b hp hb
  have w1 := ws.2.1
  rw [qLeft_id ws wv hp hb]
  omega
theorem RepF.ne {u : hS} {s t : Nat} {S : Nat → Int} (r : RepF u s t S) {b : Nat} (h : (b : Int) < S 2) : S (94 + 2 * b) ≠ S (95 + 2 * b) := by
  have w2 := r.2.2.2.1.2.2.1
  have t2 : twn S 2 = S 2 := if_pos (by omega)
  have z := r.2.2.1.2.2.2 b (by rw [t2]; exact h)
  rw [show twn S (94 + 2 * b) = S (94 + 2 * b) from if_pos (by omega), show twn S (95 + 2 * b) = S (95 + 2 * b) from if_pos (by omega)] at z
  exact z
theorem tR_0 {S X : Nat → Int} (ws : WS S) (wv : WV S) {p B : Nat} {D : Nat → Int} (hp : (p : Int) < S 4) (hB : S 2 = (B : Int)) (hX : ∀ b, b < 9 → 0 ≤ X b ∧ X b ≤ 1) (hD : ∀ b, b < B → D b = qLeft S p b + X b) : tR S X p B S (S (10 + 3 * p)) D := by
  have w1 := ws.2.1
  have w2 := ws.2.2.1
  have w4 := ws.2.2.2.2.1
  refine ⟨rfl, fun b hb => ?_, fun _ _ => rfl, w1, fun b hb => hX b (by omega), by omega, by omega⟩
  have z := wv.2.2.2.1 p b hp (by omega)
  have q := qLeft_ok ws wv hp (b := b) (by omega)
  have x := hX b (by omega)
  refine ⟨?_, by omega, by omega⟩
  rw [hD b hb]
  exact w32_id ⟨by omega, by omega⟩
theorem a_trail {u : hS} (hs : shp u) (ai : actInv u) (ex : ∀ b, b < 9 → hV u 231 b = 0) (p w : Int) : ∃ r u1 u2, m_X9_trail 1 p w u = some (r, u1) ∧ m_X10_trail 220 p w u1 = some (r, u2) ∧ shp u1 ∧ ext u u2 ∧ shp u2 ∧ (∀ a, a ≠ 46 → a ≠ 47 → a ≠ 220 → a ≠ 234 → agr u u2 a) ∧ ∀ j, j ≠ 28 → j ≠ 37 → hV u2 220 j = hV u 220 j := by
  obtain ⟨t, c, rf, ru, h25⟩ := id ai
  obtain ⟨rs, tz, rw0, ws, wv⟩ := id rf
  have w2 := ws.2.2.1
  have w4 := ws.2.2.2.2.1
  have n10 : ¬ (1 : Int) = 0 := by decide
  have n11 : (1 : Int) ≠ 0 := by decide
  have same : ∀ v : Int, m_X9_trail 1 p w u = some (v, u) → m_X10_trail 220 p w u = some (v, u) → ∃ r u1 u2, m_X9_trail 1 p w u = some (r, u1) ∧ m_X10_trail 220 p w u1 = some (r, u2) ∧ shp u1 ∧ ext u u2 ∧ shp u2 ∧ (∀ a, a ≠ 46 → a ≠ 47 → a ≠ 220 → a ≠ 234 → agr u u2 a) ∧ ∀ j, j ≠ 28 → j ≠ 37 → hV u2 220 j = hV u 220 j := fun v h1 h2 => ⟨v, u, u, h1, h2, hs, ext.rf u, hs, fun _ _ _ _ _ _ => ⟨rfl, rfl⟩, fun _ _ _ => rfl⟩
  by_cases hp : 0 ≤ p ∧ p < hV u 230 4
  case neg =>
    refine same (-1) ?_ ?_
    · simp only [m_X9_trail, m_X9_trail_L17, hgI_k, hgR_k, hpI_k, hpR_k, hpZ_k, haI_k, haR_k, hsI_k, hsZ_k, hlen_k, hlet_p, hret_p, hretZ_0, hretZ_1, hif_p, okk_setV, okk_setF, nV, nF, fV, vF, hcallV_b, hbind_p, x_isPerson hs rs, kk_1 hs, if_neg hp, if_true]
    · simp only [m_X10_trail, m_X10_trail_L18, hgI_k, hgR_k, hpI_k, hpR_k, hpZ_k, haI_k, haR_k, hsI_k, hsZ_k, hlen_k, hlet_p, hret_p, hretZ_0, hretZ_1, hif_p, okk_setV, okk_setF, nV, nF, fV, vF, hcallV_b, hbind_p, y_isPerson hs, kk_220 hs, if_neg hp, if_true]
  by_cases hw : 0 ≤ w ∧ w ≤ 1
  case neg =>
    refine same (-1) ?_ ?_
    · simp only [m_X9_trail, m_X9_trail_L17, hgI_k, hgR_k, hpI_k, hpR_k, hpZ_k, haI_k, haR_k, hsI_k, hsZ_k, hlen_k, hlet_p, hret_p, hretZ_0, hretZ_1, hif_p, okk_setV, okk_setF, nV, nF, fV, vF, hcallV_b, hbind_p, x_isPerson hs rs, kk_1 hs, if_pos hp, if_neg n10]
      by_cases z : w < 0
      · rw [if_pos z]
      · rw [if_neg z, if_neg (by omega)]
    · simp only [m_X10_trail, m_X10_trail_L18, hgI_k, hgR_k, hpI_k, hpR_k, hpZ_k, haI_k, haR_k, hsI_k, hsZ_k, hlen_k, hlet_p, hret_p, hretZ_0, hretZ_1, hif_p, okk_setV, okk_setF, nV, nF, fV, vF, hcallV_b, hcall_b, hbind_p, y_isPerson hs, y_in, kk_220 hs, if_pos hp, if_neg n10, if_neg hw, ne_eq, not_true_eq_false, if_false]
  have w0 : ¬ w < 0 := by omega
  obtain ⟨p, rfl⟩ : ∃ n : Nat, p = n := ⟨p.toNat, by omega⟩
  obtain ⟨B, hB⟩ : ∃ n : Nat, hV u 230 2 = n := ⟨(hV u 230 2).toNat, by omega⟩
  have p4 : p < 4 := by omega
  obtain ⟨u0, hu0⟩ : ∃ u0, u0 = hsetF u 46 1 (t + 1) := ⟨_, rfl⟩
  have hs0 : shp u0 := by
    rw [hu0]
    exact shp_set46 hs
  have e0 : ext u u0 := by
    rw [hu0]
    exact ⟨Nat.le_refl _, fun _ _ => ⟨rfl, rfl⟩⟩
  have g0 : ∀ a, a ≠ 46 → agr u u0 a := fun a ha i => by
    rw [hu0]
    refine ⟨rfl, ?_⟩
    show (if a = 46 ∧ i = 1 then t + 1 else hF u a i) = hF u a i
    rw [if_neg (fun z => ha z.1)]
  have f1 : hF u0 46 1 = t + 1 := by
    rw [hu0]
    show (if 46 = 46 ∧ 1 = 1 then t + 1 else hF u 46 1) = t + 1
    rw [if_pos (by decide)]
  have rf0 : RepF u0 30 t (hV u 230) := rf.fr e0 (fun a _ _ => g0 a (by omega)) (fun a _ _ => g0 a (by omega))
  have rsD : ∀ D, RepS (hput u0 47 D) 30 t (hV u 230) := fun D => rf0.1.fr (ext.put u0 47 D) (fun a _ _ => agr.put (by omega)) (fun a _ _ => agr.put (by omega))
  obtain ⟨D, d1, d2, d3⟩ := x_teL rsD ws wv (kk_47 hs0) (ln_47 hs0) (p := p) hp.2 B 1000000000 0 (hV u0 47) (by omega) (by omega)
  rw [hput_self] at d1
  have dq : ∀ b, b < B → D b = qLeft (hV u 230) p b := fun b hb => d3 b (by omega) (by omega)
  have dL : ∀ b, b < B → 0 ≤ D b ∧ D b ≤ 9 := fun b hb => by
    rw [dq b hb]
    exact qLeft_ok ws wv hp.2 (by omega)
  have fo := x_follow hs0 rf0 f1 hB 8 12 0 (hV u 230 (10 + 3 * p)) D (0, hV u 230 (10 + 3 * p)) (by decide) (by decide) (by decide) dL (show (0 : Int) ≤ 8 by decide) (show (0 : Int) ≤ 0 + 1 by decide)
  have up0 : upT 0 (hV u 230 (10 + 3 * p)) (0, hV u 230 (10 + 3 * p)) = (0, hV u 230 (10 + 3 * p)) := by
    unfold upT
    rw [if_neg (show ¬ (0 : Int) < 0 by decide)]
  rw [up0, trN_tw (g := fsO (hV u 230)) (fun L b _ h => fsO_1 L b h) (fun L b hb o h => fsO_2 wv (by omega) (rf.ne (by omega)) o h) 8 0 _ _ _ (by decide) (show (0 : Int) ≤ 8 by decide) (show (0 : Int) ≤ 0 by decide)] at fo
  obtain ⟨z, hz⟩ : ∃ z, z = trN (hV u 230) opF B 8 0 (hV u 230 (10 + 3 * p)) D (0, hV u 230 (10 + 3 * p)) := ⟨_, rfl⟩
  rw [← hz] at fo
  have hs1 : shp (FW u0 D z) := hs0
  have q : ∀ a, a ≠ 46 → a ≠ 47 → hV (FW u0 D z) a = hV u a := fun a h1 h2 => funext fun i => ((g0 a h1).tr (FW_agr h1 h2) i).1
  have tr0 : tR (hV u 230) (hV u 231) p B (hV u 230) (hV u 230 (10 + 3 * p)) D := tR_0 ws wv hp.2 hB (fun b hb => by rw [ex b hb]; omega) (fun b hb => by rw [dq b hb, ex b (by omega), Int.add_zero])
  obtain ⟨W, Y⟩ := y_findsTrail hs1 (S := hV u 230) (X := hV u 231) (p := p) (B := B) (q 230 (by decide) (by decide)) (q 231 (by decide) (by decide)) hB (by omega) tr0
  rw [← hz] at Y
  have hs2 : shp (TS (FW u0 D z) (hV u 230) W z) := hs0
  refine ⟨if w ≠ 0 then z.2 else z.1, FW u0 D z, TS (FW u0 D z) (hV u 230) W z, ?_, ?_, hs1, ?_, hs2, ?_, ?_⟩
  · have rD := rsD D
    have hsD : shp (hput u0 47 D) := hs0
    have at1 := rD.at p hp.2
    have ha := rD.ha
    have sz : hsetV (hsetV (hput u0 47 D) 46 2 0) 46 3 (hV u 230 (10 + 3 * p)) = FW u0 D (0, hV u 230 (10 + 3 * p)) := by
      unfold FW
      rw [setV_put1 (hput u0 47 D), setV_put, hV_put_n (show 46 ≠ 47 by decide)]
    have tl : m_X4_tellLeft 30 p 47 u0 = some (0, hput u0 47 D) := by
      simp only [m_X4_tellLeft, hlet_p]
      exact d1
    have at2 : ∀ x, hV (hsetV (hput u0 47 D) 46 2 x) (30 + 1) p = hV u 230 (10 + 3 * p) := fun x => by
      rw [hV_setV_a (by decide)]
      exact at1
    have ht := rs.ht
    have hsF : shp (FW u0 D (0, hV u 230 (10 + 3 * p))) := hs0
    have st : m_X8_start 46 30 p u = some (0, FW u0 D z) := by
      simp only [m_X8_start, hgI_k, hgR_k, hpI_k, hpR_k, hpZ_k, haI_k, haR_k, hsI_k, hsZ_k, hlen_k, hlet_p, hret_p, hretZ_0, hretZ_1, hif_p, okk_setV, okk_setF, nV, nF, fV, vF, hcallV_b, hbind_p, haI_n, kk_30 hs, kk_46 hs, rs.to, TwA.k0 ht, TwA.k1 ht, TwA.k2 ht, TwA.k3 ht, TwA.k4 ht, TwA.k5 ht, TwA.k6 ht, TwA.k7 ht, TwA.k8 ht, TwA.k9 ht, TwA.k10 ht, TwA.k11 ht, TwA.k12 ht, TwA.k13 ht, TwA.k14 ht, TwA.k15 ht, TwA.k16 ht, TwA.k17 ht, TwA.n2 ht, TwA.n3 ht, TwA.n4 ht, TwA.n6 ht, TwA.n7 ht, TwA.n8 ht, TwA.n9 ht, TwA.n10 ht, TwA.n11 ht, TwA.n12 ht, TwA.n13 ht, TwA.n14 ht, TwA.n15 ht, TwA.n16 ht, TwA.n17 ht, TwA.f2 ht, TwA.f3 ht, TwA.f5 ht, TwA.f6 ht, TwA.f8 ht, TwA.f9 ht, TwA.f11 ht, TwA.f12 ht, TwA.f13 ht, TwA.f14 ht, TwA.f15 ht, TwA.b0 ht, TwA.b1 ht, TwA.b2 ht, TwA.g0 ht, TwA.g1 ht, TwA.g2 ht]
      rw [← hu0]
      simp only [hgI_k, hgR_k, hpI_k, hpR_k, hpZ_k, haI_k, haR_k, hsI_k, hsZ_k, hlen_k, hlet_p, hret_p, hretZ_0, hretZ_1, hif_p, okk_setV, okk_setF, nV, nF, fV, vF, okk_put, nP, fP, hcallV_b, hbind_p, haI_n, kk_46 hs0, kk_30 hs0, rf_46_0 hs0, tl, StA.k0 ha, StA.k1 ha, StA.k2 ha, StA.k3 ha, StA.k4 ha, StA.n1 ha, StA.n2 ha, StA.n3 ha, StA.n4 ha, StA.f2 ha, StA.f3 ha, StA.f4 ha, StA.f5 ha, p4, at2, hV_setV_s, sz, kk_46 hsF, FW_3, fo]
    simp only [m_X9_trail, m_X9_trail_L52, hgI_k, hgR_k, hpI_k, hpR_k, hpZ_k, haI_k, haR_k, hsI_k, hsZ_k, hlen_k, hlet_p, hret_p, hretZ_0, hretZ_1, hif_p, okk_setV, okk_setF, nV, nF, fV, vF, hcallV_b, hbind_p, x_isPerson hs rs, kk_1 hs, kk_46 hs, rf_1_3 hs, rf_1_11 hs, if_pos hp, if_neg n10, if_neg w0, if_pos hw.2, st, kk_1 hs1, rf_1_11 hs1, kk_46 hs1, FW_2, FW_3]
    by_cases y : w = 0
    · rw [if_neg (fun z => z y), if_neg (fun z => z y)]
    · rw [if_pos y, if_pos y]
  · have q4 := q 230 (by decide) (by decide)
    simp only [m_X10_trail, m_X10_trail_L40, hgI_k, hgR_k, hpI_k, hpR_k, hpZ_k, haI_k, haR_k, hsI_k, hsZ_k, hlen_k, hlet_p, hret_p, hretZ_0, hretZ_1, hif_p, okk_setV, okk_setF, nV, nF, fV, vF, hcallV_b, hcall_b, hbind_p, y_isPerson hs1, y_in, kk_220 hs1, q4, if_pos hp, if_neg n10, if_pos hw, if_pos n11, Y, kk_220 hs2, TS_28, TS_37]
    by_cases y : w = 0
    · rw [if_neg (fun z => z y), if_neg (fun z => z y)]
    · rw [if_pos y, if_pos y]
  · exact (e0.tr (FW_ext _ _ _)).tr ((ext.put _ _ _).tr ((ext.put _ _ _).tr (ext.put _ _ _)))
  · intro a h1 h2 h3 h4 i
    have k := (g0 a h1).tr (FW_agr (L := D) (z := z) h1 h2) i
    refine ⟨?_, k.2⟩
    by_cases e : a = 230
    · subst e
      rw [TS_230]
    · rw [TS_n e h4 h3]
      exact k.1
  · intro j h1 h2
    show hV (TS (FW u0 D z) (hV u 230) W z) 220 j = _
    unfold TS
    rw [hV_put_s, sup_n h2, sup_n h1, q 220 (by decide) (by decide)]
