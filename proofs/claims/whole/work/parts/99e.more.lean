/-! one crossing more for all -/
def onesB (X : Nat → Int) (i : Nat) (v : Int) : Nat → Int := fun j => if j < i then v else X j
theorem y_mo1 {u : hS} (hs : shp u) (l1 l2 l3 : Int) (X : Nat → Int) : ∀ (m fl i : Nat), m < fl → i + m = 9 → m_X10_more_L32 (fl) 220 l1 l2 l3 i (hput u 231 (onesB X i 1)) = m_X10_more_L32 1 220 l1 l2 l3 9 (hput u 231 (onesB X 9 1)) := by
  intro m
  induction m with
  | zero =>
    intro fl i hf hi
    obtain ⟨fl, rfl⟩ : ∃ x, fl = x + 1 := ⟨fl - 1, by omega⟩
    obtain rfl : i = 9 := by omega
    show m_X10_more_L32 (fl + 1) 220 l1 l2 l3 ((9 : Nat) : Int) _ = m_X10_more_L32 (0 + 1) 220 l1 l2 l3 9 _
    simp only [m_X10_more_L32, hif_p]
    rw [if_pos (by decide), if_pos (by decide)]
  | succ m ih =>
    intro fl i hf hi
    obtain ⟨fl, rfl⟩ : ∃ x, fl = x + 1 := ⟨fl - 1, by omega⟩
    have i9 : i < 9 := by omega
    rw [← ih fl (i + 1) (by omega) (by omega)]
    have e : sup (onesB X i 1) i 1 = onesB X (i + 1) 1 := by
      funext j
      unfold sup onesB
      by_cases x : j = i
      · rw [if_pos x, if_pos (by omega)]
      · rw [if_neg x]
        by_cases y : j < i
        · rw [if_pos y, if_pos (by omega)]
        · rw [if_neg y, if_neg (by omega)]
    simp only [m_X10_more_L32, hgI_k, hgR_k, hpI_k, hpR_k, hpZ_k, haI_k, haR_k, hsI_k, hsZ_k, hlen_k, hlet_p, hret_p, hretZ_0, hretZ_1, hif_p, okk_setV, okk_setF, nV, nF, fV, vF, okk_put, nP, fP, hsI_n, kk_220 hs, kk_231 hs, rf_220_22 hs, ln_231 hs, i9, setV_put, e, ix_s (show i < 1000000 by omega)]
    rw [if_neg (by omega)]
theorem y_mo2 {u : hS} (hs : shp u) (l3 l4 : Int) (X : Nat → Int) : ∀ (m fl i : Nat), m < fl → i + m = 9 → m_X10_more_L64 fl 220 l3 l4 i (hput u 231 (onesB X i 0)) = some (w32 (l4 - l3), hput u 231 (onesB X 9 0)) := by
  intro m
  induction m with
  | zero =>
    intro fl i hf hi
    obtain ⟨fl, rfl⟩ : ∃ x, fl = x + 1 := ⟨fl - 1, by omega⟩
    obtain rfl : i = 9 := by omega
    simp only [m_X10_more_L64, hgI_k, hgR_k, hpI_k, hpR_k, hpZ_k, haI_k, haR_k, hsI_k, hsZ_k, hlen_k, hlet_p, hret_p, hretZ_0, hretZ_1, hif_p, okk_setV, okk_setF, nV, nF, fV, vF]
    rw [if_pos (by decide)]
  | succ m ih =>
    intro fl i hf hi
    obtain ⟨fl, rfl⟩ : ∃ x, fl = x + 1 := ⟨fl - 1, by omega⟩
    have i9 : i < 9 := by omega
    rw [← ih fl (i + 1) (by omega) (by omega)]
    have e : sup (onesB X i 0) i 0 = onesB X (i + 1) 0 := by
      funext j
      unfold sup onesB
      by_cases x : j = i
      · rw [if_pos x, if_pos (by omega)]
      · rw [if_neg x]
        by_cases y : j < i
        · rw [if_pos y, if_pos (by omega)]
        · rw [if_neg y, if_neg (by omega)]
    simp only [m_X10_more_L64, hgI_k, hgR_k, hpI_k, hpR_k, hpZ_k, haI_k, haR_k, hsI_k, hsZ_k, hlen_k, hlet_p, hret_p, hretZ_0, hretZ_1, hif_p, okk_setV, okk_setF, nV, nF, fV, vF, okk_put, nP, fP, hsI_n, kk_220 hs, kk_231 hs, rf_220_22 hs, ln_231 hs, i9, setV_put, e, ix_s (show i < 1000000 by omega)]
    rw [if_neg (by omega)]
theorem onesB_0 (X : Nat → Int) (v : Int) : onesB X 0 v = X := by
  funext j
  exact if_neg (by omega)
theorem all_bits : ∀ B : Nat, B < 10 → w32 (ishlZ 1 (B : Int) - 1) = ((2 ^ B - 1 : Nat) : Int) ∧ 2 ^ B - 1 < 512 ∧ ∀ b, b < B → (2 ^ B - 1).testBit b = true := by decide +kernel
theorem a_more {u : hS} (hs : shp u) (ai : actInv u) (ex : ∀ b, b < 9 → hV u 231 b = 0) (p n : Int) : ∃ r u1 u2, m_X9_more 1 p n u = some (r, u1) ∧ m_X10_more 220 p n u1 = some (r, u2) ∧ shp u1 ∧ ext u u2 ∧ shp u2 ∧ (∀ a, (a < 40 ∨ 45 < a) → a ≠ 220 → a ≠ 231 → a ≠ 234 → a ≠ 235 → agr u u2 a) ∧ (∀ j, j ≠ 28 → hV u2 220 j = hV u 220 j) ∧ ∀ b, b < 9 → hV u2 231 b = 0 := by
  obtain ⟨t, c, rf, ru, h25⟩ := id ai
  obtain ⟨rs, tz, rw0, ws, wv⟩ := id rf
  have w2 := ws.2.2.1
  have w4 := ws.2.2.2.2.1
  have n10 : ¬ (1 : Int) = 0 := by decide
  have n11 : (1 : Int) ≠ 0 := by decide
  by_cases hpn : (0 ≤ p ∧ p < hV u 230 4) ∧ 1 ≤ n ∧ n ≤ 6
  case neg =>
    refine ⟨-1, u, u, ?_, ?_, hs, ext.rf u, hs, fun _ _ _ _ _ _ _ => ⟨rfl, rfl⟩, fun _ _ => rfl, ex⟩
    · simp only [m_X9_more, hgI_k, hgR_k, hpI_k, hpR_k, hpZ_k, haI_k, haR_k, hsI_k, hsZ_k, hlen_k, hlet_p, hret_p, hretZ_0, hretZ_1, hif_p, okk_setV, okk_setF, nV, nF, fV, vF, hcallV_b, hbind_p, x_canPlan hs rs, kk_1 hs, if_neg hpn, ne_eq, not_true_eq_false, if_false]
    · simp only [m_X10_more, m_X10_more_L20, hgI_k, hgR_k, hpI_k, hpR_k, hpZ_k, haI_k, haR_k, hsI_k, hsZ_k, hlen_k, hlet_p, hret_p, hretZ_0, hretZ_1, hif_p, okk_setV, okk_setF, nV, nF, fV, vF, hcallV_b, hcall_b, hbind_p, y_isPerson hs, y_in, kk_220 hs]
      by_cases h1 : 0 ≤ p ∧ p < hV u 230 4
      · rw [if_pos h1, if_neg n10, if_neg (show ¬ (1 ≤ n ∧ n ≤ 6) from fun z => hpn ⟨h1, z⟩), if_neg (fun y => y rfl)]
      · rw [if_neg h1, if_pos rfl]
  obtain ⟨p, rfl⟩ : ∃ x : Nat, p = x := ⟨p.toNat, by omega⟩
  obtain ⟨n, rfl⟩ : ∃ x : Nat, n = x := ⟨n.toNat, by omega⟩
  obtain ⟨B, hB⟩ : ∃ x : Nat, hV u 230 2 = x := ⟨(hV u 230 2).toNat, by omega⟩
  have hp := hpn.1.2
  have hn : 1 ≤ n ∧ n ≤ 6 := by omega
  have ab := all_bits B (by omega)
  obtain ⟨v1, L1, x1, f1, l1⟩ := x_earned hs rf hp hn hB (m0 := 0) (by decide)
  obtain ⟨v2, L2, x2, f2, l2⟩ := x_earned f1.2.1 (f1.F rf) hp hn hB (m0 := 2 ^ B - 1) ab.2.1
  have hs1 := f1.2.1
  have hs2 := f2.2.1
  have ff := f1.tr f2
  have q : ∀ a, (a < 40 ∨ 45 < a) → hV v2 a = hV u a := fun a ha => funext fun i => (ff.2.2 a ha i).1
  obtain ⟨y1, z1, g1⟩ := y_lifeOf hs2 (S := hV u 230) (X := hV u 231) (p := p) (B := B) (n := n) (L := L1) (q 230 (by omega)) (q 231 (by omega)) ws wv hp hn hB (fun b hb => by rw [ex b hb]; omega) (fun c hc => by rw [l1 c hc, ex c (by omega), Nat.zero_testBit, if_neg (by decide)])
  have hy1 := g1.2.1
  have k : ∀ a, (a < 40 ∨ 45 < a) → a ≠ 220 → a ≠ 234 → a ≠ 235 → hV y1 a = hV u a := fun a h1 h2 h3 h4 => by
    rw [← q a h1]
    exact funext fun i => (g1.2.2.1 a h2 h3 h4 i).1
  have hy2 : shp (hput y1 231 (onesB (hV u 231) 9 1)) := hy1
  obtain ⟨y3, z3, g3⟩ := y_lifeOf hy2 (S := hV u 230) (X := onesB (hV u 231) 9 1) (p := p) (B := B) (n := n) (L := L2) (by rw [hV_put_n (by decide), k 230 (by omega) (by decide) (by decide) (by decide)]) (hV_put_s _ _ _) ws wv hp hn hB (fun c hc => by
    show 0 ≤ (if c < 9 then (1 : Int) else hV u 231 c) ∧ (if c < 9 then (1 : Int) else hV u 231 c) ≤ 1
    rw [if_pos hc]
    omega) (fun c hc => by
    rw [l2 c hc, if_pos (ab.2.2 c hc)]
    show _ = qLeft (hV u 230) p c + (if c < 9 then (1 : Int) else hV u 231 c)
    rw [if_pos (by omega)])
  have hy3 := g3.2.1
  have k3 : hV y3 231 = onesB (hV u 231) 9 1 := by
    have z : hV y3 231 = hV (hput y1 231 (onesB (hV u 231) 9 1)) 231 := funext fun i => (g3.2.2.1 231 (by decide) (by decide) (by decide) i).1
    rw [z, hV_put_s]
  obtain ⟨A1, hA1⟩ : ∃ A, A = (if (liN (hV u 230) B (gaS (hV u 230) p) (hV u 230 (11 + 3 * p)) opF ctT n 0 (hV u 230 (10 + 3 * p)) L1 0 (fun _ => 0) (-1, fun _ => 0)).1 < 0 then 0 else (liN (hV u 230) B (gaS (hV u 230) p) (hV u 230 (11 + 3 * p)) opF ctT n 0 (hV u 230 (10 + 3 * p)) L1 0 (fun _ => 0) (-1, fun _ => 0)).1) := ⟨_, rfl⟩
  obtain ⟨A2, hA2⟩ : ∃ A, A = (if (liN (hV u 230) B (gaS (hV u 230) p) (hV u 230 (11 + 3 * p)) opF ctT n 0 (hV u 230 (10 + 3 * p)) L2 0 (fun _ => 0) (-1, fun _ => 0)).1 < 0 then 0 else (liN (hV u 230) B (gaS (hV u 230) p) (hV u 230 (11 + 3 * p)) opF ctT n 0 (hV u 230 (10 + 3 * p)) L2 0 (fun _ => 0) (-1, fun _ => 0)).1) := ⟨_, rfl⟩
  rw [← hA1] at x1 z1
  rw [← hA2] at x2 z3
  refine ⟨w32 (A2 - A1), v2, hput y3 231 (onesB (onesB (hV u 231) 9 1) 9 0), ?_, ?_, hs2, ?_, hy3, ?_, ?_, ?_⟩
  · have x1' : m_X9_earnedWithExtra 1 p n 0 u = some (A1, v1) := x1
    have r1 := (f1.F rf).1
    have ht := r1.ht
    simp only [m_X9_more, hgI_k, hgR_k, hpI_k, hpR_k, hpZ_k, haI_k, haR_k, hsI_k, hsZ_k, hlen_k, hlet_p, hret_p, hretZ_0, hretZ_1, hif_p, okk_setV, okk_setF, nV, nF, fV, vF, hcallV_b, hbind_p, x_canPlan hs rs, kk_1 hs, if_pos hpn, if_pos n11, x1', kk_1 hs1, rf_1_3 hs1, kk_30 hs1, r1.to, TwA.k0 ht, TwA.k1 ht, TwA.k2 ht, TwA.k3 ht, TwA.k4 ht, TwA.k5 ht, TwA.k6 ht, TwA.k7 ht, TwA.k8 ht, TwA.k9 ht, TwA.k10 ht, TwA.k11 ht, TwA.k12 ht, TwA.k13 ht, TwA.k14 ht, TwA.k15 ht, TwA.k16 ht, TwA.k17 ht, TwA.n2 ht, TwA.n3 ht, TwA.n4 ht, TwA.n6 ht, TwA.n7 ht, TwA.n8 ht, TwA.n9 ht, TwA.n10 ht, TwA.n11 ht, TwA.n12 ht, TwA.n13 ht, TwA.n14 ht, TwA.n15 ht, TwA.n16 ht, TwA.n17 ht, TwA.f2 ht, TwA.f3 ht, TwA.f5 ht, TwA.f6 ht, TwA.f8 ht, TwA.f9 ht, TwA.f11 ht, TwA.f12 ht, TwA.f13 ht, TwA.f14 ht, TwA.f15 ht, TwA.b0 ht, TwA.b1 ht, TwA.b2 ht, TwA.g0 ht, TwA.g1 ht, TwA.g2 ht, r1.v2, hB, ab.1, x2]
  · have q4 := q 230 (by omega)
    have m1 := y_mo1 hy1 p n A1 (hV u 231) 9 1000000000 0 (by omega) (by omega)
    rw [onesB_0] at m1
    have s1 : hput y1 231 (hV u 231) = y1 := by
      rw [← k 231 (by omega) (by decide) (by decide) (by decide), hput_self]
    rw [s1] at m1
    have m2 := y_mo2 hy3 A1 A2 (onesB (hV u 231) 9 1) 9 1000000000 0 (by omega) (by omega)
    rw [onesB_0] at m2
    have s3 : hput y3 231 (onesB (hV u 231) 9 1) = y3 := by
      rw [← k3, hput_self]
    rw [s3] at m2
    have m1' : m_X10_more_L32 1000000000 220 p n A1 0 y1 = m_X10_more_L32 (0 + 1) 220 p n A1 9 (hput y1 231 (onesB (hV u 231) 9 1)) := m1
    have m2' : m_X10_more_L64 1000000000 220 A1 A2 0 y3 = _ := m2
    have step : m_X10_more_L32 (0 + 1) 220 p n A1 9 (hput y1 231 (onesB (hV u 231) 9 1)) = m_X10_more_L64 1000000000 220 A1 A2 0 y3 := by
      simp only [m_X10_more_L32, hif_p, hlet_p, hcallV_b, hbind_p, kk_220 hy2, z3]
      rw [if_pos (by decide)]
    simp only [m_X10_more, hgI_k, hgR_k, hpI_k, hpR_k, hpZ_k, haI_k, haR_k, hsI_k, hsZ_k, hlen_k, hlet_p, hret_p, hretZ_0, hretZ_1, hif_p, okk_setV, okk_setF, nV, nF, fV, vF, hcallV_b, hcall_b, hbind_p, y_isPerson hs2, y_in, kk_220 hs2, q4, if_pos hpn.1, if_pos hpn.2, if_neg n10, if_pos n11, z1]
    rw [m1', step, m2']
  · exact (ff.1.tr g1.1).tr ((ext.put _ _ _).tr (g3.1.tr (ext.put _ _ _)))
  · intro a h1 h2 h3 h4 h5
    exact ((ff.2.2 a h1).tr (g1.2.2.1 a h2 h4 h5)).tr ((agr.put h3).tr ((g3.2.2.1 a h2 h4 h5).tr (agr.put h3)))
  · intro j hj
    rw [hV_put_n (by decide), g3.2.2.2 j hj, hV_put_n (by decide), g1.2.2.2 j hj, q 220 (by omega)]
  · intro c hc
    rw [hV_put_s]
    show (if c < 9 then (0 : Int) else onesB (hV u 231) 9 1 c) = 0
    rw [if_pos hc]
