/-! calls that only tell -/
def rdAgree (g1 g2 : hM) (u : hS) : Prop := ∃ r, g1 u = some (r, u) ∧ g2 u = some (r, u)
theorem a_left {u : hS} (hs : shp u) (ai : actInv u) (ex : ∀ b, b < 9 → hV u 231 b = 0) (p b : Int) : rdAgree (m_X9_left 1 p b) (m_X10_left 220 p b) u := by
  obtain ⟨t, c, r, ru, h25⟩ := id ai
  have ws := r.2.2.2.1
  have w2 := ws.2.2.1
  have w4 := ws.2.2.2.2.1
  have n10 : ¬ (1 : Int) = 0 := by decide
  have n11 : (1 : Int) ≠ 0 := by decide
  by_cases hp : 0 ≤ p ∧ p < hV u 230 4
  case neg =>
    refine ⟨-1, ?_, ?_⟩
    · simp only [m_X9_left_L16, m_X9_left, hgI_k, hgR_k, hpI_k, hpR_k, hpZ_k, haI_k, haR_k, hsI_k, hsZ_k, hlen_k, hlet_e, hret_e, hretZ_0, hretZ_1, hif_e, okk_setV, okk_setF, nV, nF, fV, vF, hcallV_b, hbind_s, x_isPerson hs r.1, kk_1 hs, if_neg hp, if_true]
    · simp only [m_X10_left_L26, m_X10_left_L25, m_X10_left, hgI_k, hgR_k, hpI_k, hpR_k, hpZ_k, haI_k, haR_k, hsI_k, hsZ_k, hlen_k, hlet_e, hret_e, hretZ_0, hretZ_1, hif_e, okk_setV, okk_setF, nV, nF, fV, vF, hcallV_b, hbind_s, y_isPerson hs, kk_220 hs, if_neg hp, if_true]
  by_cases hb : 0 ≤ b ∧ b < hV u 230 2
  case neg =>
    refine ⟨-1, ?_, ?_⟩
    · simp only [m_X9_left_L16, m_X9_left, hgI_k, hgR_k, hpI_k, hpR_k, hpZ_k, haI_k, haR_k, hsI_k, hsZ_k, hlen_k, hlet_e, hret_e, hretZ_0, hretZ_1, hif_e, okk_setV, okk_setF, nV, nF, fV, vF, hcallV_b, hbind_s, x_isPerson hs r.1, x_isBridge hs r.1, kk_1 hs, if_pos hp, if_neg n10, if_neg hb, ne_eq, not_true_eq_false, if_false]
    · simp only [m_X10_left_L26, m_X10_left_L25, m_X10_left, hgI_k, hgR_k, hpI_k, hpR_k, hpZ_k, haI_k, haR_k, hsI_k, hsZ_k, hlen_k, hlet_e, hret_e, hretZ_0, hretZ_1, hif_e, okk_setV, okk_setF, nV, nF, fV, vF, hcallV_b, hbind_s, y_isPerson hs, y_isBridge hs, kk_220 hs, if_pos hp, if_neg n10, if_neg hb, if_true]
  obtain ⟨p, rfl⟩ : ∃ n : Nat, p = n := ⟨p.toNat, by omega⟩
  obtain ⟨b, rfl⟩ : ∃ n : Nat, b = n := ⟨b.toNat, by omega⟩
  refine ⟨qLeft (hV u 230) p b, ?_, ?_⟩
  · simp only [m_X9_left_L16, m_X9_left, hgI_k, hgR_k, hpI_k, hpR_k, hpZ_k, haI_k, haR_k, hsI_k, hsZ_k, hlen_k, hlet_e, hret_e, hretZ_0, hretZ_1, hif_e, okk_setV, okk_setF, nV, nF, fV, vF, hcallV_b, hbind_s, x_isPerson hs r.1, x_isBridge hs r.1, x_leftTo r.1 ws hp.2 hb.2, kk_1 hs, kk_30 hs, rf_1_3 hs, if_pos hp, if_neg n10, if_pos hb, if_pos n11]
  · simp only [m_X10_left_L26, m_X10_left_L25, m_X10_left, hgI_k, hgR_k, hpI_k, hpR_k, hpZ_k, haI_k, haR_k, hsI_k, hsZ_k, hlen_k, hlet_e, hret_e, hretZ_0, hretZ_1, hif_e, okk_setV, okk_setF, nV, nF, fV, vF, hcallV_b, hbind_s, y_isPerson hs, y_isBridge hs, y_leftOf hs ex (show p < 4 by omega) (show b < 9 by omega), kk_220 hs, if_pos hp, if_neg n10, if_pos hb]
theorem lcmp_lt (x y : Int) : (lcmpZ x y < 0) = (x < y) := by
  unfold lcmpZ
  apply propext
  split
  · constructor <;> intro h <;> omega
  · split
    · constructor <;> intro h <;> omega
    · constructor <;> intro h <;> omega
theorem lcmp_gt (x y : Int) : (lcmpZ x y > 0) = (y < x) := by
  unfold lcmpZ
  apply propext
  split
  · constructor <;> intro h <;> omega
  · split
    · constructor <;> intro h <;> omega
    · constructor <;> intro h <;> omega
theorem y_in {u : hS} (x a b : Int) : m_X10_in x a b u = some (if a ≤ x ∧ x ≤ b then 1 else 0, u) := by
  simp only [m_X10_in_L18, m_X10_in_L17, m_X10_in, hgI_k, hgR_k, hpI_k, hpR_k, hpZ_k, haI_k, haR_k, hsI_k, hsZ_k, hlen_k, hlet_e, hret_e, hretZ_0, hretZ_1, hif_e, okk_setV, okk_setF, nV, nF, fV, vF, lcmp_lt, lcmp_gt]
  repeat' split
  all_goals first | rfl | omega
theorem a_bridge {u : hS} (hs : shp u) (ai : actInv u) (b f : Int) : rdAgree (m_X9_bridge 1 b f) (m_X10_bridge 220 b f) u := by
  obtain ⟨t, c, r, ru, h25⟩ := id ai
  have ws := r.2.2.2.1
  have w2 := ws.2.2.1
  have ht := r.1.ht
  have n10 : ¬ (1 : Int) = 0 := by decide
  have n11 : (1 : Int) ≠ 0 := by decide
  by_cases hb : 0 ≤ b ∧ b < hV u 230 2
  case neg =>
    refine ⟨-1, ?_, ?_⟩
    · simp only [m_X9_bridge, hgI_k, hgR_k, hpI_k, hpR_k, hpZ_k, haI_k, haR_k, hsI_k, hsZ_k, hlen_k, hlet_e, hret_e, hretZ_0, hretZ_1, hif_e, okk_setV, okk_setF, nV, nF, fV, vF, hcallV_b, hbind_s, x_isBridge hs r.1, kk_1 hs, if_neg hb, ne_eq, not_true_eq_false, if_false]
    · simp only [m_X10_bridge_L20, m_X10_bridge_L48, m_X10_bridge, hgI_k, hgR_k, hpI_k, hpR_k, hpZ_k, haI_k, haR_k, hsI_k, hsZ_k, hlen_k, hlet_e, hret_e, hretZ_0, hretZ_1, hif_e, okk_setV, okk_setF, nV, nF, fV, vF, hcallV_b, hbind_s, y_isBridge hs, kk_220 hs, if_neg hb, if_true]
  obtain ⟨b, rfl⟩ : ∃ n : Nat, b = n := ⟨b.toNat, by omega⟩
  have ib : b < 9 := by omega
  have k0 : 94 + 2 * b < 160 := by omega
  have k1 : 94 + 2 * b + 1 < 160 := by omega
  have k2 : 94 + 2 * b < 1000000 := by omega
  by_cases f0 : f = 0
  · subst f0
    refine ⟨hV u 230 (94 + 2 * b), ?_, ?_⟩
    · simp only [m_X9_bridge, hgI_k, hgR_k, hpI_k, hpR_k, hpZ_k, haI_k, haR_k, hsI_k, hsZ_k, hlen_k, hlet_e, hret_e, hretZ_0, hretZ_1, hif_e, okk_setV, okk_setF, nV, nF, fV, vF, haI_n, hcallV_b, hbind_s, x_isBridge hs r.1, kk_1 hs, kk_30 hs, rf_1_3 hs, r.1.to, TwA.k0 ht, TwA.k1 ht, TwA.k2 ht, TwA.k3 ht, TwA.k4 ht, TwA.k5 ht, TwA.k6 ht, TwA.k7 ht, TwA.k8 ht, TwA.k9 ht, TwA.k10 ht, TwA.k11 ht, TwA.k12 ht, TwA.k13 ht, TwA.k14 ht, TwA.k15 ht, TwA.k16 ht, TwA.k17 ht, TwA.n2 ht, TwA.n3 ht, TwA.n4 ht, TwA.n6 ht, TwA.n7 ht, TwA.n8 ht, TwA.n9 ht, TwA.n10 ht, TwA.n11 ht, TwA.n12 ht, TwA.n13 ht, TwA.n14 ht, TwA.n15 ht, TwA.n16 ht, TwA.n17 ht, TwA.f2 ht, TwA.f3 ht, TwA.f5 ht, TwA.f6 ht, TwA.f8 ht, TwA.f9 ht, TwA.f11 ht, TwA.f12 ht, TwA.f13 ht, TwA.f14 ht, TwA.f15 ht, TwA.b0 ht, TwA.b1 ht, TwA.b2 ht, TwA.g0 ht, TwA.g1 ht, TwA.g2 ht, ib, r.1.br0 b hb.2, if_pos hb, if_pos n11, if_true]
    · simp only [m_X10_bridge_L20, m_X10_bridge_L48, m_X10_bridge, hgI_k, hgR_k, hpI_k, hpR_k, hpZ_k, haI_k, haR_k, hsI_k, hsZ_k, hlen_k, hlet_e, hret_e, hretZ_0, hretZ_1, hif_e, okk_setV, okk_setF, nV, nF, fV, vF, haI_n, hcall_b, hcallV_b, hbind_s, y_isBridge hs, y_in, kk_220 hs, kk_230 hs, rf_220_20 hs, ln_230 hs, ix_94 ib, ix_0 k2, k0, if_pos hb, if_neg n10, if_pos (show (0 : Int) ≤ 0 ∧ (0 : Int) ≤ 2 by decide), if_pos n11, if_neg (show ¬ (0 : Int) ≥ 2 by decide)]
  by_cases f1 : f = 1
  · subst f1
    refine ⟨hV u 230 (94 + 2 * b + 1), ?_, ?_⟩
    · simp only [m_X9_bridge, hgI_k, hgR_k, hpI_k, hpR_k, hpZ_k, haI_k, haR_k, hsI_k, hsZ_k, hlen_k, hlet_e, hret_e, hretZ_0, hretZ_1, hif_e, okk_setV, okk_setF, nV, nF, fV, vF, haI_n, hcallV_b, hbind_s, x_isBridge hs r.1, kk_1 hs, kk_30 hs, rf_1_3 hs, r.1.to, TwA.k0 ht, TwA.k1 ht, TwA.k2 ht, TwA.k3 ht, TwA.k4 ht, TwA.k5 ht, TwA.k6 ht, TwA.k7 ht, TwA.k8 ht, TwA.k9 ht, TwA.k10 ht, TwA.k11 ht, TwA.k12 ht, TwA.k13 ht, TwA.k14 ht, TwA.k15 ht, TwA.k16 ht, TwA.k17 ht, TwA.n2 ht, TwA.n3 ht, TwA.n4 ht, TwA.n6 ht, TwA.n7 ht, TwA.n8 ht, TwA.n9 ht, TwA.n10 ht, TwA.n11 ht, TwA.n12 ht, TwA.n13 ht, TwA.n14 ht, TwA.n15 ht, TwA.n16 ht, TwA.n17 ht, TwA.f2 ht, TwA.f3 ht, TwA.f5 ht, TwA.f6 ht, TwA.f8 ht, TwA.f9 ht, TwA.f11 ht, TwA.f12 ht, TwA.f13 ht, TwA.f14 ht, TwA.f15 ht, TwA.b0 ht, TwA.b1 ht, TwA.b2 ht, TwA.g0 ht, TwA.g1 ht, TwA.g2 ht, ib, r.1.br1 b hb.2, if_pos hb, if_pos n11, if_true, if_neg n10]
    · simp only [m_X10_bridge_L20, m_X10_bridge_L48, m_X10_bridge, hgI_k, hgR_k, hpI_k, hpR_k, hpZ_k, haI_k, haR_k, hsI_k, hsZ_k, hlen_k, hlet_e, hret_e, hretZ_0, hretZ_1, hif_e, okk_setV, okk_setF, nV, nF, fV, vF, haI_n, hcall_b, hcallV_b, hbind_s, y_isBridge hs, y_in, kk_220 hs, kk_230 hs, rf_220_20 hs, ln_230 hs, ix_94 ib, ix_s k2, k1, if_pos hb, if_neg n10, if_pos (show (0 : Int) ≤ 1 ∧ (1 : Int) ≤ 2 by decide), if_pos n11, if_neg (show ¬ (1 : Int) ≥ 2 by decide)]
  by_cases f2 : f = 2
  · subst f2
    refine ⟨qAll (hV u 230) b, ?_, ?_⟩
    · simp only [m_X9_bridge, hgI_k, hgR_k, hpI_k, hpR_k, hpZ_k, haI_k, haR_k, hsI_k, hsZ_k, hlen_k, hlet_e, hret_e, hretZ_0, hretZ_1, hif_e, okk_setV, okk_setF, nV, nF, fV, vF, hcallV_b, hbind_s, x_isBridge hs r.1, x_crossedByAll r.1 ws hb.2, kk_1 hs, kk_30 hs, rf_1_3 hs, if_pos hb, if_pos n11, if_neg f0, if_neg f1, if_true]
    · simp only [m_X10_bridge_L20, m_X10_bridge_L48, m_X10_bridge, hgI_k, hgR_k, hpI_k, hpR_k, hpZ_k, haI_k, haR_k, hsI_k, hsZ_k, hlen_k, hlet_e, hret_e, hretZ_0, hretZ_1, hif_e, okk_setV, okk_setF, nV, nF, fV, vF, hcall_b, hcallV_b, hbind_s, y_isBridge hs, y_in, y_crossedByAll hs ws ib, kk_220 hs, if_pos hb, if_neg n10, if_pos (show (0 : Int) ≤ 2 ∧ (2 : Int) ≤ 2 by decide), if_pos n11, if_pos (show (2 : Int) ≥ 2 by decide)]
  · refine ⟨-1, ?_, ?_⟩
    · simp only [m_X9_bridge, hgI_k, hgR_k, hpI_k, hpR_k, hpZ_k, haI_k, haR_k, hsI_k, hsZ_k, hlen_k, hlet_e, hret_e, hretZ_0, hretZ_1, hif_e, okk_setV, okk_setF, nV, nF, fV, vF, hcallV_b, hbind_s, x_isBridge hs r.1, kk_1 hs, if_pos hb, if_pos n11, if_neg f0, if_neg f1, if_neg f2]
    · simp only [m_X10_bridge_L20, m_X10_bridge_L48, m_X10_bridge, hgI_k, hgR_k, hpI_k, hpR_k, hpZ_k, haI_k, haR_k, hsI_k, hsZ_k, hlen_k, hlet_e, hret_e, hretZ_0, hretZ_1, hif_e, okk_setV, okk_setF, nV, nF, fV, vF, hcall_b, hcallV_b, hbind_s, y_isBridge hs, y_in, kk_220 hs, if_pos hb, if_neg n10, if_neg (show ¬ (0 ≤ f ∧ f ≤ 2) by omega), ne_eq, not_true_eq_false, if_false]
theorem a_count {u : hS} (hs : shp u) (ai : actInv u) (h2 : hV u 1 2 = hV u 220 2) (h9 : hV u 1 9 = hV u 220 21) (hx : inI (hV u 220 21)) (hl : hV u 2 1 = hV u 220 1) (n : Int) : rdAgree (m_X9_count 1 n) (m_X10_count 220 n) u := by
  obtain ⟨t, c, r, ru, h25⟩ := id ai
  obtain ⟨f, hf, h6, hc, h7, hp⟩ := id ru
  have ws := r.2.2.2.1
  have w4 := ws.2.2.2.2.1
  have ht := r.1.ht
  have hw : w32 (hV u 220 21) = hV u 220 21 := w32_id hx
  have pd := y_paidL hs w4.2 (hV u 230 4).toNat 1000000000 0 0 (by omega) (by omega)
  have hm := y_homeL hs w4.2 (hV u 230 4).toNat 1000000000 0 0 (by omega) (by omega)
  have fr := frost_01 (hV u 230)
  have X : ∃ x, m_X9_count 1 n u = some (x, u) ∧ x = (if n = 0 then hV u 230 0 else if n = 1 then hV u 230 1 else if n = 2 then hV u 230 2 else if n = 3 then hV u 230 3 else if n = 4 then hV u 230 4 else if n = 5 then hV u 230 5 else if n = 6 then hV u 220 2 else if n = 7 then hV u 230 6 else if n = 8 then qFrost (hV u 230) else if n = 9 then qPaid (hV u 230) else if n = 10 then qHome (hV u 230) else if n = 11 then hV u 220 25 else if n = 12 then hV u 220 21 else if n = 13 then hV u 220 1 else -1) := by
    refine ⟨_, ?_, rfl⟩
    simp only [m_X9_count_L144, m_X9_count, hgI_k, hgR_k, hpI_k, hpR_k, hpZ_k, haI_k, haR_k, hsI_k, hsZ_k, hlen_k, hlet_e, hret_e, hretZ_0, hretZ_1, hif_e, okk_setV, okk_setF, nV, nF, fV, vF, hcallV_b, hbind_s, kk_1 hs, kk_2 hs, kk_30 hs, rf_1_3 hs, rf_1_0 hs, r.1.to, TwA.k0 ht, TwA.k1 ht, TwA.k2 ht, TwA.k3 ht, TwA.k4 ht, TwA.k5 ht, TwA.k6 ht, TwA.k7 ht, TwA.k8 ht, TwA.k9 ht, TwA.k10 ht, TwA.k11 ht, TwA.k12 ht, TwA.k13 ht, TwA.k14 ht, TwA.k15 ht, TwA.k16 ht, TwA.k17 ht, TwA.n2 ht, TwA.n3 ht, TwA.n4 ht, TwA.n6 ht, TwA.n7 ht, TwA.n8 ht, TwA.n9 ht, TwA.n10 ht, TwA.n11 ht, TwA.n12 ht, TwA.n13 ht, TwA.n14 ht, TwA.n15 ht, TwA.n16 ht, TwA.n17 ht, TwA.f2 ht, TwA.f3 ht, TwA.f5 ht, TwA.f6 ht, TwA.f8 ht, TwA.f9 ht, TwA.f11 ht, TwA.f12 ht, TwA.f13 ht, TwA.f14 ht, TwA.f15 ht, TwA.b0 ht, TwA.b1 ht, TwA.b2 ht, TwA.g0 ht, TwA.g1 ht, TwA.g2 ht, r.1.v0, r.1.v1, r.1.v2, r.1.v3, r.1.v4, r.1.v5, r.1.v6, x_isFrosty r.1 ws, x_paidToAll r.1 ws, x_whoIsHome r.1 ws, h2, h7, h9, hw, hl, h25]
    by_cases n0 : n = 0
    · subst n0
      rfl
    by_cases n1 : n = 1
    · subst n1
      rfl
    by_cases n2 : n = 2
    · subst n2
      rfl
    by_cases n3 : n = 3
    · subst n3
      rfl
    by_cases n4 : n = 4
    · subst n4
      rfl
    by_cases n5 : n = 5
    · subst n5
      rfl
    by_cases n6 : n = 6
    · subst n6
      rfl
    by_cases n7 : n = 7
    · subst n7
      rfl
    by_cases n8 : n = 8
    · subst n8
      rcases fr with e | e <;> rw [e] <;> rfl
    by_cases n9 : n = 9
    · subst n9
      rfl
    by_cases n10 : n = 10
    · subst n10
      rfl
    by_cases n11 : n = 11
    · subst n11
      rfl
    by_cases n12 : n = 12
    · subst n12
      rfl
    by_cases n13 : n = 13
    · subst n13
      rfl
    simp only [if_neg n0, if_neg n1, if_neg n2, if_neg n3, if_neg n4, if_neg n5, if_neg n6, if_neg n7, if_neg n8, if_neg n9, if_neg n10, if_neg n11, if_neg n12, if_neg n13]
  have Y : m_X10_count 220 n u = some ((if n = 0 then hV u 230 0 else if n = 1 then hV u 230 1 else if n = 2 then hV u 230 2 else if n = 3 then hV u 230 3 else if n = 4 then hV u 230 4 else if n = 5 then hV u 230 5 else if n = 6 then hV u 220 2 else if n = 7 then hV u 230 6 else if n = 8 then qFrost (hV u 230) else if n = 9 then qPaid (hV u 230) else if n = 10 then qHome (hV u 230) else if n = 11 then hV u 220 25 else if n = 12 then hV u 220 21 else if n = 13 then hV u 220 1 else -1), u) := by
    simp only [m_X10_count, m_X10_count_L72, m_X10_count_L104, hgI_k, hgR_k, hpI_k, hpR_k, hpZ_k, haI_k, haR_k, hsI_k, hsZ_k, hlen_k, hlet_e, hret_e, hretZ_0, hretZ_1, hif_e, okk_setV, okk_setF, nV, nF, fV, vF, hcallV_b, hbind_s, haI_6, kk_220 hs, kk_230 hs, rf_220_20 hs, ln_230 hs, lt_c 6 160 rfl, y_isFrost hs ws]
    by_cases n0 : n = 0
    · subst n0
      rw [if_pos rfl, if_pos rfl, haI_0 (kk_230 hs) (by rw [ln_230 hs]; decide)]
      rfl
    by_cases n1 : n = 1
    · subst n1
      rw [if_neg n0, if_neg n0, if_pos rfl, if_pos rfl, haI_1 (kk_230 hs) (by rw [ln_230 hs]; decide)]
      rfl
    by_cases n2 : n = 2
    · subst n2
      rw [if_neg n0, if_neg n0, if_neg n1, if_neg n1, if_pos rfl, if_pos rfl, haI_2 (kk_230 hs) (by rw [ln_230 hs]; decide)]
      rfl
    by_cases n3 : n = 3
    · subst n3
      rw [if_neg n0, if_neg n0, if_neg n1, if_neg n1, if_neg n2, if_neg n2, if_pos rfl, if_pos rfl, haI_3 (kk_230 hs) (by rw [ln_230 hs]; decide)]
      rfl
    by_cases n4 : n = 4
    · subst n4
      rw [if_neg n0, if_neg n0, if_neg n1, if_neg n1, if_neg n2, if_neg n2, if_neg n3, if_neg n3, if_pos rfl, if_pos rfl, haI_4 (kk_230 hs) (by rw [ln_230 hs]; decide)]
      rfl
    by_cases n5 : n = 5
    · subst n5
      rw [if_neg n0, if_neg n0, if_neg n1, if_neg n1, if_neg n2, if_neg n2, if_neg n3, if_neg n3, if_neg n4, if_neg n4, if_pos rfl, if_pos rfl, haI_5 (kk_230 hs) (by rw [ln_230 hs]; decide)]
      rfl
    rw [if_neg n0, if_neg n0, if_neg n1, if_neg n1, if_neg n2, if_neg n2, if_neg n3, if_neg n3, if_neg n4, if_neg n4, if_neg n5, if_neg n5]
    have pd' : m_X10_count_L107 1000000000 220 0 0 u = some (qPaid (hV u 230), u) := pd
    have hm' : m_X10_count_L136 1000000000 220 0 0 u = some (qHome (hV u 230), u) := hm
    rw [pd', hm']
    by_cases n6 : n = 6
    · subst n6
      rfl
    by_cases n7 : n = 7
    · subst n7
      rfl
    by_cases n8 : n = 8
    · subst n8
      rcases fr with e | e <;> rw [e] <;> rfl
    by_cases n9 : n = 9
    · subst n9
      rfl
    by_cases n10 : n = 10
    · subst n10
      rfl
    by_cases n11 : n = 11
    · subst n11
      rfl
    by_cases n12 : n = 12
    · subst n12
      rfl
    by_cases n13 : n = 13
    · subst n13
      rfl
    simp only [if_neg n6, if_neg n7, if_neg n8, if_neg n9, if_neg n10, if_neg n11, if_neg n12, if_neg n13]
  obtain ⟨x, h, rfl⟩ := X
  exact ⟨_, h, Y⟩
