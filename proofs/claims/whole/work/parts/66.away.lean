theorem fstB_no {P : Nat → Bool} (h : ∀ b, P b = false) : ∀ k i, fstB P k i = -1 := by
  intro k
  induction k with
  | zero =>
    intro i
    rfl
  | succ k ih =>
    intro i
    rw [fstB_s, h i, if_neg (by decide), ih]
theorem y_w0 {u : hS} (hs : shp u) (p i : Int) (n : Nat) : m_X10_way_L57 (n + 1) 220 p 0 i u = some (-1, u) := by
  simp only [m_X10_way_L57, m_X10_way_L116, hgI_k, hgR_k, hpI_k, hpR_k, hpZ_k, haI_k, haR_k, hsI_k, hsZ_k, hlen_k, hlet_p, hret_p, hretZ_0, hretZ_1, hif_p, okk_setV, okk_setF, nV, nF, fV, vF, haI_2, kk_220 hs, kk_230 hs, rf_220_20 hs, ln_230 hs, lt_c 2 160 rfl]
  split
  · rfl
  · rw [if_pos (by decide)]
theorem a_way {u : hS} (hs : shp u) (ai : actInv u) (ex : ∀ b, b < 9 → hV u 231 b = 0) (p g f : Int) : ∃ (r : Int) (E D : Nat → Int), m_X9_way 1 p g f u = some (r, hput u 8 E) ∧ m_X10_way 220 p g f (hput u 8 E) = some (r, hput (hput u 8 E) 232 D) := by
  obtain ⟨t, c, r, ru, h25⟩ := id ai
  have ws := r.2.2.2.1
  have wv := r.2.2.2.2
  have w0 := ws.1
  have w2 := ws.2.2.1
  have w4 := ws.2.2.2.2.1
  have tz := r.2.1
  have ht := r.1.ht
  have n10 : ¬ (1 : Int) = 0 := by decide
  have n11 : (1 : Int) ≠ 0 := by decide
  by_cases hp : 0 ≤ p ∧ p < hV u 230 4
  case neg =>
    refine ⟨-3, hV u 8, hV u 232, ?_, ?_⟩
    · rw [hput_self]
      simp only [m_X9_way_L35, m_X9_way_L98, m_X9_way, hgI_k, hgR_k, hpI_k, hpR_k, hpZ_k, haI_k, haR_k, hsI_k, hsZ_k, hlen_k, hlet_p, hret_p, hretZ_0, hretZ_1, hif_p, okk_setV, okk_setF, nV, nF, fV, vF, hcallV_b, hbind_s, x_isPerson hs r.1, kk_1 hs, if_neg hp, if_true]
    · rw [hput_self, hput_self]
      simp only [m_X10_way, m_X10_way_L26, hgI_k, hgR_k, hpI_k, hpR_k, hpZ_k, haI_k, haR_k, hsI_k, hsZ_k, hlen_k, hlet_p, hret_p, hretZ_0, hretZ_1, hif_p, okk_setV, okk_setF, nV, nF, fV, vF, hcallV_b, hbind_s, y_isPerson hs, kk_220 hs, if_neg hp, if_true]
  by_cases hg : 0 ≤ g ∧ g < hV u 230 0
  case neg =>
    refine ⟨-3, hV u 8, hV u 232, ?_, ?_⟩
    · rw [hput_self]
      simp only [m_X9_way_L35, m_X9_way_L98, m_X9_way, hgI_k, hgR_k, hpI_k, hpR_k, hpZ_k, haI_k, haR_k, hsI_k, hsZ_k, hlen_k, hlet_p, hret_p, hretZ_0, hretZ_1, hif_p, okk_setV, okk_setF, nV, nF, fV, vF, hcallV_b, hbind_s, x_isPerson hs r.1, kk_1 hs, kk_30 hs, rf_1_3 hs, r.1.to, TwA.k0 ht, TwA.k1 ht, TwA.k2 ht, TwA.k3 ht, TwA.k4 ht, TwA.k5 ht, TwA.k6 ht, TwA.k7 ht, TwA.k8 ht, TwA.k9 ht, TwA.k10 ht, TwA.k11 ht, TwA.k12 ht, TwA.k13 ht, TwA.k14 ht, TwA.k15 ht, TwA.k16 ht, TwA.k17 ht, TwA.n2 ht, TwA.n3 ht, TwA.n4 ht, TwA.n6 ht, TwA.n7 ht, TwA.n8 ht, TwA.n9 ht, TwA.n10 ht, TwA.n11 ht, TwA.n12 ht, TwA.n13 ht, TwA.n14 ht, TwA.n15 ht, TwA.n16 ht, TwA.n17 ht, TwA.f2 ht, TwA.f3 ht, TwA.f5 ht, TwA.f6 ht, TwA.f8 ht, TwA.f9 ht, TwA.f11 ht, TwA.f12 ht, TwA.f13 ht, TwA.f14 ht, TwA.f15 ht, TwA.b0 ht, TwA.b1 ht, TwA.b2 ht, TwA.g0 ht, TwA.g1 ht, TwA.g2 ht, r.1.v0, if_pos hp, if_neg n10]
      by_cases h0 : g < 0
      · rw [if_pos h0]
      · rw [if_neg h0, if_pos (by omega)]
    · rw [hput_self, hput_self]
      simp only [m_X10_way, m_X10_way_L26, hgI_k, hgR_k, hpI_k, hpR_k, hpZ_k, haI_k, haR_k, hsI_k, hsZ_k, hlen_k, hlet_p, hret_p, hretZ_0, hretZ_1, hif_p, okk_setV, okk_setF, nV, nF, fV, vF, hcallV_b, hbind_s, y_isPerson hs, y_isQuarter hs, kk_220 hs, if_pos hp, if_neg n10, if_neg hg, if_true]
  have g0 : ¬ g < 0 := by omega
  have g1 : ¬ g ≥ hV u 230 0 := by omega
  by_cases hf : 0 ≤ f ∧ f ≤ 1
  case neg =>
    refine ⟨-3, hV u 8, hV u 232, ?_, ?_⟩
    · rw [hput_self]
      simp only [m_X9_way_L35, m_X9_way_L98, m_X9_way, hgI_k, hgR_k, hpI_k, hpR_k, hpZ_k, haI_k, haR_k, hsI_k, hsZ_k, hlen_k, hlet_p, hret_p, hretZ_0, hretZ_1, hif_p, okk_setV, okk_setF, nV, nF, fV, vF, hcallV_b, hbind_s, x_isPerson hs r.1, kk_1 hs, kk_30 hs, rf_1_3 hs, r.1.to, TwA.k0 ht, TwA.k1 ht, TwA.k2 ht, TwA.k3 ht, TwA.k4 ht, TwA.k5 ht, TwA.k6 ht, TwA.k7 ht, TwA.k8 ht, TwA.k9 ht, TwA.k10 ht, TwA.k11 ht, TwA.k12 ht, TwA.k13 ht, TwA.k14 ht, TwA.k15 ht, TwA.k16 ht, TwA.k17 ht, TwA.n2 ht, TwA.n3 ht, TwA.n4 ht, TwA.n6 ht, TwA.n7 ht, TwA.n8 ht, TwA.n9 ht, TwA.n10 ht, TwA.n11 ht, TwA.n12 ht, TwA.n13 ht, TwA.n14 ht, TwA.n15 ht, TwA.n16 ht, TwA.n17 ht, TwA.f2 ht, TwA.f3 ht, TwA.f5 ht, TwA.f6 ht, TwA.f8 ht, TwA.f9 ht, TwA.f11 ht, TwA.f12 ht, TwA.f13 ht, TwA.f14 ht, TwA.f15 ht, TwA.b0 ht, TwA.b1 ht, TwA.b2 ht, TwA.g0 ht, TwA.g1 ht, TwA.g2 ht, r.1.v0, if_pos hp, if_neg n10, if_neg g0, if_neg g1]
      by_cases h0 : f < 0
      · rw [if_pos h0]
      · rw [if_neg h0, if_neg (by omega)]
    · rw [hput_self, hput_self]
      simp only [m_X10_way, m_X10_way_L26, hgI_k, hgR_k, hpI_k, hpR_k, hpZ_k, haI_k, haR_k, hsI_k, hsZ_k, hlen_k, hlet_p, hret_p, hretZ_0, hretZ_1, hif_p, okk_setV, okk_setF, nV, nF, fV, vF, hcall_b, hcallV_b, hbind_s, y_isPerson hs, y_isQuarter hs, y_in, kk_220 hs, if_pos hp, if_neg n10, if_pos hg, if_neg hf, ne_eq, not_true_eq_false, if_false]
  have f0 : ¬ f < 0 := by omega
  have f1 : f ≤ 1 := hf.2
  obtain ⟨p, rfl⟩ : ∃ n : Nat, p = n := ⟨p.toNat, by omega⟩
  obtain ⟨a, rfl⟩ : ∃ n : Nat, g = n := ⟨g.toNat, by omega⟩
  have zq := (wv.2.2.1 p hp.2).1
  obtain ⟨q, hq⟩ : ∃ q : Nat, hV u 230 (10 + 3 * p) = q := ⟨(hV u 230 (10 + 3 * p)).toNat, by omega⟩
  have q8 : q < 8 := by omega
  have ip : p < 4 := by omega
  obtain ⟨E, e1, e2, e3⟩ := x_measure hs r.1 (kk_8 hs) (ln_8 hs) (Or.inl rfl) (by omega) tz ws wv hp.2 hg.2
  have hs1 : shp (hput u 8 E) := hs
  have k230 : hV (hput u 8 E) 230 = hV u 230 := hV_put_n (by decide)
  have k231 : hV (hput u 8 E) 231 = hV u 231 := hV_put_n (by decide)
  obtain ⟨D, d1, d2⟩ := y_wayOf hs1 (by rw [k230]; exact ws) (by rw [k230]; exact wv) (p := p) (a := a) (by rw [k230]; exact hp.2) (by rw [k230]; exact hg.2)
  rw [k230, hq, Int.toNat_natCast] at d1
  rw [k230, k231] at d2
  have d3 := isRow_cg (opn_opnX ws wv hp.2 (e := -1) (fun k hk => by rw [ex k hk, if_neg (by omega)])) d2
  have ed := pre_row w0.1 wv hg.2 d3 e2 e3
  have eq := ed q (by omega)
  have bq := (d3.2.1 q (by omega)).1
  have r1 := r.1.fr (ext.put u 8 E) (fun a _ _ => agr.put (by omega)) (fun a _ _ => agr.put (by omega))
  have ha := r1.ha
  have hP : ∀ b, (fun b : Nat => decide ((0 ≤ qEnd (hV u 230) (94 + 2 * b) q ∧ 0 < qLeft (hV u 230) p b) ∧ E (qEnd (hV u 230) (94 + 2 * b) q).toNat = E q - 1)) b = true ↔ stp (hV u 230) E p q b := fun b => by
    unfold stp qCan
    rw [hq]
    exact decide_eq_true_iff
  have fx := x_fsL hs r.1 (by omega) tz ws wv hp.2 hq (by omega) _ hP (hV u 230 2).toNat 1000000000 0 (by omega) (by omega)
  refine ⟨if D q = 99 then -2 else if f = 0 then D q else fstB (fun b : Nat => decide ((0 ≤ qEnd (hV u 230) (94 + 2 * b) q ∧ 0 < qLeft (hV u 230) p b) ∧ E (qEnd (hV u 230) (94 + 2 * b) q).toNat = E q - 1)) (hV u 230 2).toNat 0, E, D, ?_, ?_⟩
  · have at1 := r1.at p hp.2
    have fs : m_X4_firstStep 30 p 8 (hput u 8 E) = some (fstB (fun b : Nat => decide ((0 ≤ qEnd (hV u 230) (94 + 2 * b) q ∧ 0 < qLeft (hV u 230) p b) ∧ E (qEnd (hV u 230) (94 + 2 * b) q).toNat = E q - 1)) (hV u 230 2).toNat 0, hput u 8 E) := by
      simp only [m_X4_firstStep, hgI_k, hgR_k, hpI_k, hpR_k, hpZ_k, haI_k, haR_k, hsI_k, hsZ_k, hlen_k, hlet_p, hret_p, hretZ_0, hretZ_1, hif_p, okk_setV, okk_setF, nV, nF, fV, vF, haI_n, StA.k0 ha, StA.k1 ha, StA.k2 ha, StA.k3 ha, StA.k4 ha, StA.n1 ha, StA.n2 ha, StA.n3 ha, StA.n4 ha, StA.f2 ha, StA.f3 ha, StA.f4 ha, StA.f5 ha, ip, at1, hq]
      exact fx
    simp only [m_X9_way_L35, m_X9_way_L98, m_X9_way, hgI_k, hgR_k, hpI_k, hpR_k, hpZ_k, haI_k, haR_k, hsI_k, hsZ_k, hlen_k, hlet_p, hret_p, hretZ_0, hretZ_1, hif_p, okk_setV, okk_setF, nV, nF, fV, vF, okk_put, nP, fP, haI_n, hcallV_b, hbind_s, x_isPerson hs r.1, kk_1 hs, kk_30 hs, rf_1_3 hs, rf_1_14 hs, r.1.to, TwA.k0 ht, TwA.k1 ht, TwA.k2 ht, TwA.k3 ht, TwA.k4 ht, TwA.k5 ht, TwA.k6 ht, TwA.k7 ht, TwA.k8 ht, TwA.k9 ht, TwA.k10 ht, TwA.k11 ht, TwA.k12 ht, TwA.k13 ht, TwA.k14 ht, TwA.k15 ht, TwA.k16 ht, TwA.k17 ht, TwA.n2 ht, TwA.n3 ht, TwA.n4 ht, TwA.n6 ht, TwA.n7 ht, TwA.n8 ht, TwA.n9 ht, TwA.n10 ht, TwA.n11 ht, TwA.n12 ht, TwA.n13 ht, TwA.n14 ht, TwA.n15 ht, TwA.n16 ht, TwA.n17 ht, TwA.f2 ht, TwA.f3 ht, TwA.f5 ht, TwA.f6 ht, TwA.f8 ht, TwA.f9 ht, TwA.f11 ht, TwA.f12 ht, TwA.f13 ht, TwA.f14 ht, TwA.f15 ht, TwA.b0 ht, TwA.b1 ht, TwA.b2 ht, TwA.g0 ht, TwA.g1 ht, TwA.g2 ht, r.1.v0, if_pos hp, if_neg n10, if_neg g0, if_neg g1, if_neg f0, if_pos f1, e1, kk_1 hs1, rf_1_3 hs1, rf_1_14 hs1, kk_8 hs1, ln_8 hs1, StA.k0 ha, StA.k1 ha, StA.k2 ha, StA.k3 ha, StA.k4 ha, StA.n1 ha, StA.n2 ha, StA.n3 ha, StA.n4 ha, StA.f2 ha, StA.f3 ha, StA.f4 ha, StA.f5 ha, ip, at1, hq, q8, hV_put_s, eq, fs, kk_30 hs1]
    by_cases h9 : D q = 99
    · rw [if_neg (fun z => z h9), if_pos h9]
    · rw [if_pos h9, if_neg h9]
      by_cases hz : f = 0
      · rw [if_neg (fun z => z hz), if_pos hz]
      · rw [if_pos hz, if_neg hz]
  · have hs2 : shp (hput (hput u 8 E) 232 D) := hs
    have j230 : hV (hput (hput u 8 E) 232 D) 230 = hV u 230 := by rw [hV_put_n (by decide), k230]
    have j231 : hV (hput (hput u 8 E) 232 D) 231 = hV u 231 := by rw [hV_put_n (by decide), k231]
    have j232 : hV (hput (hput u 8 E) 232 D) 232 = D := hV_put_s _ _ _
    simp only [m_X10_way, m_X10_way_L26, hgI_k, hgR_k, hpI_k, hpR_k, hpZ_k, haI_k, haR_k, hsI_k, hsZ_k, hlen_k, hlet_p, hret_p, hretZ_0, hretZ_1, hif_p, okk_setV, okk_setF, nV, nF, fV, vF, hcall_b, hcallV_b, hbind_s, y_isPerson hs1, y_isQuarter hs1, y_in, kk_220 hs1, k230, if_pos hp, if_neg n10, if_pos hg, if_pos hf, if_pos n11, d1]
    by_cases h9 : D q = 99
    · rw [if_neg (fun z => z h9), if_pos h9]
    · rw [if_pos h9, if_neg h9]
      by_cases hz : f = 0
      · rw [if_neg (fun z => z hz), if_pos hz]
      · rw [if_pos hz, if_neg hz]
        have PQ : ∀ b : Nat, b < (hV u 230 2).toNat → (0 ≤ qEnd (hV u 230) (94 + 2 * b) q) → E (qEnd (hV u 230) (94 + 2 * b) q).toNat = D (qEnd (hV u 230) (94 + 2 * b) q).toNat := by
          intro b hb h0
          have z := wv.1 b (by omega)
          refine ed _ ?_
          rcases qEnd_in (S := hV u 230) (a := 94 + 2 * b) (q := q) (by omega) with h | h <;> omega
        by_cases hd : D q = 0
        · have no : fstB (fun b : Nat => decide ((0 ≤ qEnd (hV u 230) (94 + 2 * b) q ∧ 0 < qLeft (hV u 230) p b) ∧ E (qEnd (hV u 230) (94 + 2 * b) q).toNat = E q - 1)) (hV u 230 2).toNat 0 = fstB (fun _ => false) (hV u 230 2).toNat 0 := fstB_cg _ _ (fun b _ hb => decide_eq_false (fun z => by
            have y := PQ b (by omega) z.1.1
            have h0 := z.1.1
            have zb := wv.1 b (by omega)
            have rg : (((qEnd (hV u 230) (94 + 2 * b) q).toNat : Nat) : Int) < hV u 230 0 := by
              rcases qEnd_in (S := hV u 230) (a := 94 + 2 * b) (q := q) (by omega) with h | h <;> omega
            have pos := (d3.2.1 _ rg).1
            have z2 := z.2
            omega))
          rw [no, fstB_no (fun _ => rfl), show (1000000000 : Nat) = 999999999 + 1 from rfl, hd]
          exact y_w0 hs2 _ _ _
        · have yl := y_wsL hs2 (by rw [j230]; exact ws) (by rw [j230]; exact wv) (by rw [j231]; exact ex) (p := p) (q := q) (by rw [j230]; exact hp.2) (by rw [j230]; exact hq) (by rw [j232]; omega) (fun b : Nat => decide ((0 ≤ qEnd (hV u 230) (94 + 2 * b) q ∧ 0 < qLeft (hV u 230) p b) ∧ D (qEnd (hV u 230) (94 + 2 * b) q).toNat = D q - 1)) (fun b => by
            unfold stp qCan
            rw [j230, j232, hq]
            exact decide_eq_true_iff) (hV u 230 2).toNat 1000000000 0 (by omega) (by rw [j230]; omega)
          rw [j232] at yl
          have sameB : fstB (fun b : Nat => decide ((0 ≤ qEnd (hV u 230) (94 + 2 * b) q ∧ 0 < qLeft (hV u 230) p b) ∧ D (qEnd (hV u 230) (94 + 2 * b) q).toNat = D q - 1)) (hV u 230 2).toNat 0 = fstB (fun b : Nat => decide ((0 ≤ qEnd (hV u 230) (94 + 2 * b) q ∧ 0 < qLeft (hV u 230) p b) ∧ E (qEnd (hV u 230) (94 + 2 * b) q).toNat = E q - 1)) (hV u 230 2).toNat 0 := fstB_cg _ _ (fun b _ hb => decide_eq_decide.mpr ⟨fun z => ⟨z.1, by rw [PQ b (by omega) z.1.1, eq]; exact z.2⟩, fun z => ⟨z.1, by rw [← PQ b (by omega) z.1.1, ← eq]; exact z.2⟩⟩)
          rw [← sameB]
          exact yl
