/-! worth and more -/
theorem bit_at9 : ∀ m : Nat, m < 512 → ∀ a : Nat, a < 9 → iandZ (ishrZ (m : Int) (a : Int)) 1 = if m.testBit a = true then 1 else 0 := by decide +kernel
theorem x_gmL {w : hS} {t B m0 : Nat} {S : Nat → Int} (hs : shp w) (rs : ∀ D, RepS (hput w 41 D) 30 t S) (f5 : hF w 40 5 = t) (hB : S 2 = (B : Int)) (B9 : B ≤ 9) (m5 : m0 < 512) : ∀ (m fl i : Nat) (D : Nat → Int), m < fl → i + m = B → (∀ b, i ≤ b → b < B → 0 ≤ D b ∧ D b ≤ 10) → ∃ D', m_X2_giveMore_L2 fl 40 m0 i (hput w 41 D) = some (0, hput w 41 D') ∧ (∀ b, b < i → D' b = D b) ∧ ∀ b, i ≤ b → b < B → D' b = D b + (if m0.testBit b = true then 1 else 0) := by
  intro m
  induction m with
  | zero =>
    intro fl i D hf hi hD
    obtain ⟨fl, rfl⟩ : ∃ x, fl = x + 1 := ⟨fl - 1, by omega⟩
    have h1 : shp (hput w 41 D) := hs
    have r := rs D
    have ht := r.ht
    have v2 := r.v2
    have f5' : hF (hput w 41 D) 40 5 = t := f5
    refine ⟨D, ?_, fun _ _ => rfl, fun b h1 h2 => by omega⟩
    simp only [m_X2_giveMore_L2, hgI_k, hgR_k, hpI_k, hpR_k, hpZ_k, haI_k, haR_k, hsI_k, hsZ_k, hlen_k, hlet_p, hret_p, hretZ_0, hretZ_1, hif_p, okk_setV, okk_setF, nV, nF, fV, vF, kk_40 h1, f5', TwA.k0 ht, TwA.k1 ht, TwA.k2 ht, TwA.k3 ht, TwA.k4 ht, TwA.k5 ht, TwA.k6 ht, TwA.k7 ht, TwA.k8 ht, TwA.k9 ht, TwA.k10 ht, TwA.k11 ht, TwA.k12 ht, TwA.k13 ht, TwA.k14 ht, TwA.k15 ht, TwA.k16 ht, TwA.k17 ht, TwA.n2 ht, TwA.n3 ht, TwA.n4 ht, TwA.n6 ht, TwA.n7 ht, TwA.n8 ht, TwA.n9 ht, TwA.n10 ht, TwA.n11 ht, TwA.n12 ht, TwA.n13 ht, TwA.n14 ht, TwA.n15 ht, TwA.n16 ht, TwA.n17 ht, TwA.f2 ht, TwA.f3 ht, TwA.f5 ht, TwA.f6 ht, TwA.f8 ht, TwA.f9 ht, TwA.f11 ht, TwA.f12 ht, TwA.f13 ht, TwA.f14 ht, TwA.f15 ht, TwA.b0 ht, TwA.b1 ht, TwA.b2 ht, TwA.g0 ht, TwA.g1 ht, TwA.g2 ht, v2, hB]
    rw [if_pos (by omega)]
  | succ m ih =>
    intro fl i D hf hi hD
    obtain ⟨fl, rfl⟩ : ∃ x, fl = x + 1 := ⟨fl - 1, by omega⟩
    have h1 : shp (hput w 41 D) := hs
    have r := rs D
    have ht := r.ht
    have v2 := r.v2
    have f5' : hF (hput w 41 D) 40 5 = t := f5
    have i9 : i < 9 := by omega
    have dj := hD i (Nat.le_refl _) (by omega)
    have bt := bit_at9 m0 m5 i i9
    have w1 : w32 (D i + (if m0.testBit i = true then 1 else 0)) = D i + (if m0.testBit i = true then 1 else 0) := by
      split <;> exact w32_id ⟨by omega, by omega⟩
    obtain ⟨D', d1, d2, d3⟩ := ih fl (i + 1) (sup D i (D i + (if m0.testBit i = true then 1 else 0))) (by omega) (by omega) (fun b h1 h2 => by
      rw [sup_n (by omega)]
      exact hD b (by omega) h2)
    refine ⟨D', ?_, fun b hb => by rw [d2 b (by omega), sup_n (by omega)], fun b h1 h2 => ?_⟩
    · rw [← d1]
      simp only [m_X2_giveMore_L2, hgI_k, hgR_k, hpI_k, hpR_k, hpZ_k, haI_k, haR_k, hsI_k, hsZ_k, hlen_k, hlet_p, hret_p, hretZ_0, hretZ_1, hif_p, okk_setV, okk_setF, nV, nF, fV, vF, haI_n, hsI_n, kk_40 h1, f5', TwA.k0 ht, TwA.k1 ht, TwA.k2 ht, TwA.k3 ht, TwA.k4 ht, TwA.k5 ht, TwA.k6 ht, TwA.k7 ht, TwA.k8 ht, TwA.k9 ht, TwA.k10 ht, TwA.k11 ht, TwA.k12 ht, TwA.k13 ht, TwA.k14 ht, TwA.k15 ht, TwA.k16 ht, TwA.k17 ht, TwA.n2 ht, TwA.n3 ht, TwA.n4 ht, TwA.n6 ht, TwA.n7 ht, TwA.n8 ht, TwA.n9 ht, TwA.n10 ht, TwA.n11 ht, TwA.n12 ht, TwA.n13 ht, TwA.n14 ht, TwA.n15 ht, TwA.n16 ht, TwA.n17 ht, TwA.f2 ht, TwA.f3 ht, TwA.f5 ht, TwA.f6 ht, TwA.f8 ht, TwA.f9 ht, TwA.f11 ht, TwA.f12 ht, TwA.f13 ht, TwA.f14 ht, TwA.f15 ht, TwA.b0 ht, TwA.b1 ht, TwA.b2 ht, TwA.g0 ht, TwA.g1 ht, TwA.g2 ht, v2, hB, rf_40_0 h1, kk_41 h1, ln_41 h1, i9, hV_put_s, bt, w1, setV_put, ix_s (show i < 1000000 by omega)]
      rw [if_neg (by omega)]
    · by_cases e : b = i
      · subst e
        rw [d2 b (by omega), sup_s]
      · rw [d3 b (by omega) h2, sup_n e]
/-- what a plan with some crossings more earns, at least nothing -/
theorem x_earned {u : hS} (hs : shp u) {t p n B m0 : Nat} {S : Nat → Int} (rf : RepF u 30 t S) (hp : (p : Int) < S 4) (hn : 1 ≤ n ∧ n ≤ 6) (hB : S 2 = (B : Int)) (m5 : m0 < 512) : ∃ w L, m_X9_earnedWithExtra 1 p n m0 u = some (if (liN S B (gaS S p) (S (11 + 3 * p)) opF ctT n 0 (S (10 + 3 * p)) L 0 (fun _ => 0) (-1, fun _ => 0)).1 < 0 then 0 else (liN S B (gaS S p) (S (11 + 3 * p)) opF ctT n 0 (S (10 + 3 * p)) L 0 (fun _ => 0) (-1, fun _ => 0)).1, w) ∧ planF u w ∧ ∀ b, b < B → L b = qLeft S p b + (if m0.testBit b = true then 1 else 0) := by
  obtain ⟨rs, tz, rw0, ws, wv⟩ := id rf
  have w2 := ws.2.2.1
  obtain ⟨F, L, G, q1, q2, q3, q4, q5, q6⟩ := x_prepare hs rf hp hn hB
  have fr := w0P_F (u := u) (t := t) (F := F) (L := L) (G := G) hs
  have hs0 := fr.2.1
  have f5 : hF (w0P u t F L G) 40 5 = t := by
    show (if 40 = 40 ∧ 5 = 5 then t else hF u 40 5) = t
    rw [if_pos (by decide)]
  have lq : ∀ b, b < B → 0 ≤ L b ∧ L b ≤ 9 := fun b hb => by
    rw [q5 b hb]
    exact qLeft_ok ws wv hp (by omega)
  have rw41 : ∀ D, hput (w0P u t F L G) 41 D = w0P u t F D G := fun D => by
    unfold w0P
    rw [put_comm (show 42 ≠ 41 by decide), hput_put]
  have h41 : hV (w0P u t F L G) 41 = L := by
    unfold w0P
    rw [hV_put_n (by decide), hV_put_s]
  obtain ⟨L', g1, g2, g3⟩ := x_gmL hs0 (t := t) (B := B) (S := S) (fun D => by
    rw [rw41]
    have f := w0P_F (u := u) (t := t) (F := F) (L := D) (G := G) hs
    exact rs.fr f.1 (fun a _ _ => f.2.2 a (by omega)) (fun a _ _ => f.2.2 a (by omega))) f5 hB (by omega) m5 B 1000000000 0 L (by omega) (by omega) (fun b _ hb => by
    have := lq b hb
    omega)
  rw [rw41, rw41] at g1
  have gm : m_X2_giveMore 40 m0 (w0P u t F L G) = some (0, w0P u t F L' G) := by
    simp only [m_X2_giveMore, hlet_p]
    exact g1
  have l' : ∀ b, b < B → L' b = qLeft S p b + (if m0.testBit b = true then 1 else 0) := fun b hb => by
    rw [g3 b (by omega) hb, q5 b hb]
  obtain ⟨w, s1, fw, s2, s3⟩ := x_slv hs rf hp hn hB q2 q3 q4 (L := L') (fun b hb => by
    rw [g3 b (by omega) hb]
    have := lq b hb
    split <;> omega) q6
  have rho := liN_V (S := S) (B := B) (G := gaS S p) (h := S (11 + 3 * p)) (f := opF) (c := ctT) n 0 (S (10 + 3 * p)) L' 0 (fun _ => 0) (-1, hV u 45) (-1, fun _ => 0) ⟨rfl, fun z => absurd (show (0 : Int) ≤ -1 from z) (by decide)⟩
  rw [rho.1] at s2
  refine ⟨w, L', ?_, fw, l'⟩
  have q1' : m_X2_prepare 40 30 p n u = some (0, w0P u t F L G) := q1
  have hs1 := (w0P_F (u := u) (t := t) (F := F) (L := L') (G := G) hs).2.1
  have hsw := fw.2.1
  simp only [m_X9_earnedWithExtra, hgI_k, hgR_k, hpI_k, hpR_k, hpZ_k, haI_k, haR_k, hsI_k, hsZ_k, hlen_k, hlet_p, hret_p, hretZ_0, hretZ_1, hif_p, okk_setV, okk_setF, nV, nF, fV, vF, hcallV_b, hcall_b, hbind_p, kk_1 hs, kk_40 hs, rf_1_3 hs, rf_1_10 hs, q1', kk_1 hs0, rf_1_10 hs0, kk_40 hs0, gm, kk_1 hs1, rf_1_10 hs1, kk_40 hs1, s1, kk_1 hsw, rf_1_10 hsw, kk_40 hsw, s2, J_max]
theorem y_lifeOf {u : hS} (hs : shp u) {S X : Nat → Int} {p B n : Nat} {L : Nat → Int} (hS : hV u 230 = S) (hX : hV u 231 = X) (ws : WS S) (wv : WV S) (hp : (p : Int) < S 4) (hn : 1 ≤ n ∧ n ≤ 6) (hB : S 2 = (B : Int)) (x01 : ∀ b, b < 9 → 0 ≤ X b ∧ X b ≤ 1) (hL : ∀ b, b < B → L b = qLeft S p b + X b) : ∃ w, m_X10_lifeOf 220 p n u = some (if (liN S B (gaS S p) (S (11 + 3 * p)) opF ctT n 0 (S (10 + 3 * p)) L 0 (fun _ => 0) (-1, fun _ => 0)).1 < 0 then 0 else (liN S B (gaS S p) (S (11 + 3 * p)) opF ctT n 0 (S (10 + 3 * p)) L 0 (fun _ => 0) (-1, fun _ => 0)).1, w) ∧ lifF u w := by
  obtain ⟨w, y1, lf, y2, y3⟩ := y_lif hs hS hX ws wv hp hn hB x01 hL (fun _ => 0)
  refine ⟨w, ?_, lf⟩
  have hsw := lf.2.1
  simp only [m_X10_lifeOf, m_X10_lifeOf_L21, hgI_k, hgR_k, hpI_k, hpR_k, hpZ_k, haI_k, haR_k, hsI_k, hsZ_k, hlen_k, hlet_p, hret_p, hretZ_0, hretZ_1, hif_p, okk_setV, okk_setF, nV, nF, fV, vF, hcallV_b, hbind_p, kk_220 hs, y1, kk_220 hsw, y2]
  by_cases z : (liN S B (gaS S p) (S (11 + 3 * p)) opF ctT n 0 (S (10 + 3 * p)) L 0 (fun _ => 0) (-1, fun _ => 0)).1 < 0
  · rw [if_neg (by omega), if_pos z]
  · rw [if_pos (by omega), if_neg z]
theorem planF.tr {u v w : hS} (h : planF u v) (k : planF v w) : planF u w := ⟨h.1.tr k.1, k.2.1, fun a z => (h.2.2 a z).tr (k.2.2 a z)⟩
theorem lifF.tr {u v w : hS} (h : lifF u v) (k : lifF v w) : lifF u w := ⟨h.1.tr k.1, k.2.1, fun a h1 h2 h3 => (h.2.2.1 a h1 h2 h3).tr (k.2.2.1 a h1 h2 h3), fun j hj => (k.2.2.2 j hj).trans (h.2.2.2 j hj)⟩
theorem planF.F {u w : hS} (f : planF u w) {t : Nat} {S : Nat → Int} (r : RepF u 30 t S) : RepF w 30 t S := by
  have tz := r.2.1
  exact r.fr f.1 (fun a _ _ => f.2.2 a (by omega)) (fun a _ _ => f.2.2 a (by omega))
theorem tb_pow {b c : Nat} : (2 ^ b).testBit c = true ↔ c = b := by
  rw [Nat.testBit_two_pow]
  constructor
  · intro h
    exact (of_decide_eq_true h).symm
  · intro h
    exact decide_eq_true h.symm
theorem a_worth {u : hS} (hs : shp u) (ai : actInv u) (ex : ∀ b, b < 9 → hV u 231 b = 0) (p b n : Int) : ∃ r u1 u2, m_X9_worth 1 p b n u = some (r, u1) ∧ m_X10_worth 220 p b n u1 = some (r, u2) ∧ shp u1 ∧ ext u u2 ∧ shp u2 ∧ (∀ a, (a < 40 ∨ 45 < a) → a ≠ 220 → a ≠ 231 → a ≠ 234 → a ≠ 235 → agr u u2 a) ∧ (∀ j, j ≠ 28 → hV u2 220 j = hV u 220 j) ∧ ∀ b, b < 9 → hV u2 231 b = 0 := by
  obtain ⟨t, c, rf, ru, h25⟩ := id ai
  obtain ⟨rs, tz, rw0, ws, wv⟩ := id rf
  have w2 := ws.2.2.1
  have w4 := ws.2.2.2.2.1
  have n10 : ¬ (1 : Int) = 0 := by decide
  have n11 : (1 : Int) ≠ 0 := by decide
  have same : ∀ v : Int, m_X9_worth 1 p b n u = some (v, u) → m_X10_worth 220 p b n u = some (v, u) → ∃ r u1 u2, m_X9_worth 1 p b n u = some (r, u1) ∧ m_X10_worth 220 p b n u1 = some (r, u2) ∧ shp u1 ∧ ext u u2 ∧ shp u2 ∧ (∀ a, (a < 40 ∨ 45 < a) → a ≠ 220 → a ≠ 231 → a ≠ 234 → a ≠ 235 → agr u u2 a) ∧ (∀ j, j ≠ 28 → hV u2 220 j = hV u 220 j) ∧ ∀ b, b < 9 → hV u2 231 b = 0 := fun v h1 h2 => ⟨v, u, u, h1, h2, hs, ext.rf u, hs, fun _ _ _ _ _ _ _ => ⟨rfl, rfl⟩, fun _ _ => rfl, ex⟩
  by_cases hpn : (0 ≤ p ∧ p < hV u 230 4) ∧ 1 ≤ n ∧ n ≤ 6
  case neg =>
    refine same (-1) ?_ ?_
    · simp only [m_X9_worth, m_X9_worth_L17, hgI_k, hgR_k, hpI_k, hpR_k, hpZ_k, haI_k, haR_k, hsI_k, hsZ_k, hlen_k, hlet_p, hret_p, hretZ_0, hretZ_1, hif_p, okk_setV, okk_setF, nV, nF, fV, vF, hcallV_b, hbind_p, x_canPlan hs rs, kk_1 hs, if_neg hpn, if_true]
    · simp only [m_X10_worth, m_X10_worth_L28, hgI_k, hgR_k, hpI_k, hpR_k, hpZ_k, haI_k, haR_k, hsI_k, hsZ_k, hlen_k, hlet_p, hret_p, hretZ_0, hretZ_1, hif_p, okk_setV, okk_setF, nV, nF, fV, vF, hcallV_b, hcall_b, hbind_p, y_isPerson hs, y_isBridge hs, y_in, kk_220 hs]
      by_cases h1 : 0 ≤ p ∧ p < hV u 230 4
      · rw [if_pos h1, if_neg n10]
        by_cases h2 : 0 ≤ b ∧ b < hV u 230 2
        · rw [if_pos h2, if_neg n10, if_neg (show ¬ (1 ≤ n ∧ n ≤ 6) from fun z => hpn ⟨h1, z⟩), if_neg (fun y => y rfl)]
        · rw [if_neg h2, if_pos rfl]
      · rw [if_neg h1, if_pos rfl]
  by_cases hb : 0 ≤ b ∧ b < hV u 230 2
  case neg =>
    refine same (-1) ?_ ?_
    · simp only [m_X9_worth, m_X9_worth_L17, hgI_k, hgR_k, hpI_k, hpR_k, hpZ_k, haI_k, haR_k, hsI_k, hsZ_k, hlen_k, hlet_p, hret_p, hretZ_0, hretZ_1, hif_p, okk_setV, okk_setF, nV, nF, fV, vF, hcallV_b, hbind_p, x_canPlan hs rs, x_isBridge hs rs, kk_1 hs, if_pos hpn, if_neg n10, if_neg hb, ne_eq, not_true_eq_false, if_false]
    · simp only [m_X10_worth, m_X10_worth_L28, hgI_k, hgR_k, hpI_k, hpR_k, hpZ_k, haI_k, haR_k, hsI_k, hsZ_k, hlen_k, hlet_p, hret_p, hretZ_0, hretZ_1, hif_p, okk_setV, okk_setF, nV, nF, fV, vF, hcallV_b, hcall_b, hbind_p, y_isPerson hs, y_isBridge hs, kk_220 hs, if_pos hpn.1, if_neg n10, if_neg hb, if_true]
  obtain ⟨p, rfl⟩ : ∃ x : Nat, p = x := ⟨p.toNat, by omega⟩
  obtain ⟨n, rfl⟩ : ∃ x : Nat, n = x := ⟨n.toNat, by omega⟩
  obtain ⟨b, rfl⟩ : ∃ x : Nat, b = x := ⟨b.toNat, by omega⟩
  obtain ⟨B, hB⟩ : ∃ x : Nat, hV u 230 2 = x := ⟨(hV u 230 2).toNat, by omega⟩
  have hp := hpn.1.2
  have hn : 1 ≤ n ∧ n ≤ 6 := by omega
  have b9 : b < 9 := by omega
  have p2 := p2lt b9
  obtain ⟨v1, L1, x1, f1, l1⟩ := x_earned hs rf hp hn hB (m0 := 0) (by decide)
  obtain ⟨v2, L2, x2, f2, l2⟩ := x_earned f1.2.1 (f1.F rf) hp hn hB (m0 := 2 ^ b) p2
  have hs1 := f1.2.1
  have hs2 := f2.2.1
  have ff := f1.tr f2
  have q : ∀ a, (a < 40 ∨ 45 < a) → hV v2 a = hV u a := fun a ha => funext fun i => (ff.2.2 a ha i).1
  obtain ⟨y1, z1, g1⟩ := y_lifeOf hs2 (S := hV u 230) (X := hV u 231) (p := p) (B := B) (n := n) (L := L1) (q 230 (by omega)) (q 231 (by omega)) ws wv hp hn hB (fun b hb => by rw [ex b hb]; omega) (fun c hc => by rw [l1 c hc, ex c (by omega), Nat.zero_testBit, if_neg (by decide)])
  have hy1 := g1.2.1
  have k : ∀ a, (a < 40 ∨ 45 < a) → a ≠ 220 → a ≠ 234 → a ≠ 235 → hV y1 a = hV u a := fun a h1 h2 h3 h4 => by
    rw [← q a h1]
    exact funext fun i => (g1.2.2.1 a h2 h3 h4 i).1
  have hy2 : shp (hsetV y1 231 b 1) := hy1
  have e230 : hV (hsetV y1 231 b 1) 230 = hV u 230 := by
    rw [← k 230 (by omega) (by decide) (by decide) (by decide)]
    exact funext fun i => hV_setV_a (by decide)
  have e231 : hV (hsetV y1 231 b 1) 231 = sup (hV u 231) b 1 := by
    rw [setV_put1, hV_put_s, k 231 (by omega) (by decide) (by decide) (by decide)]
  obtain ⟨y3, z3, g3⟩ := y_lifeOf hy2 (S := hV u 230) (X := sup (hV u 231) b 1) (p := p) (B := B) (n := n) (L := L2) e230 e231 ws wv hp hn hB (fun c hc => by
    by_cases e : c = b
    · rw [e, sup_s]
      omega
    · rw [sup_n e, ex c hc]
      omega) (fun c hc => by
    rw [l2 c hc]
    by_cases e : c = b
    · rw [e, sup_s, if_pos (tb_pow.mpr rfl)]
    · rw [sup_n e, ex c (by omega), if_neg (fun y => e (tb_pow.mp y))])
  have hy3 := g3.2.1
  obtain ⟨A1, hA1⟩ : ∃ A, A = (if (liN (hV u 230) B (gaS (hV u 230) p) (hV u 230 (11 + 3 * p)) opF ctT n 0 (hV u 230 (10 + 3 * p)) L1 0 (fun _ => 0) (-1, fun _ => 0)).1 < 0 then 0 else (liN (hV u 230) B (gaS (hV u 230) p) (hV u 230 (11 + 3 * p)) opF ctT n 0 (hV u 230 (10 + 3 * p)) L1 0 (fun _ => 0) (-1, fun _ => 0)).1) := ⟨_, rfl⟩
  obtain ⟨A2, hA2⟩ : ∃ A, A = (if (liN (hV u 230) B (gaS (hV u 230) p) (hV u 230 (11 + 3 * p)) opF ctT n 0 (hV u 230 (10 + 3 * p)) L2 0 (fun _ => 0) (-1, fun _ => 0)).1 < 0 then 0 else (liN (hV u 230) B (gaS (hV u 230) p) (hV u 230 (11 + 3 * p)) opF ctT n 0 (hV u 230 (10 + 3 * p)) L2 0 (fun _ => 0) (-1, fun _ => 0)).1) := ⟨_, rfl⟩
  rw [← hA1] at x1 z1
  rw [← hA2] at x2 z3
  refine ⟨w32 (A2 - A1), v2, hsetV y3 231 b 0, ?_, ?_, hs2, ?_, hy3, ?_, ?_, ?_⟩
  · have sh : ishlZ 1 (b : Int) = ((2 ^ b : Nat) : Int) := ishl_1 b b9
    have x1' : m_X9_earnedWithExtra 1 p n 0 u = some (A1, v1) := x1
    simp only [m_X9_worth, hgI_k, hgR_k, hpI_k, hpR_k, hpZ_k, haI_k, haR_k, hsI_k, hsZ_k, hlen_k, hlet_p, hret_p, hretZ_0, hretZ_1, hif_p, okk_setV, okk_setF, nV, nF, fV, vF, hcallV_b, hbind_p, x_canPlan hs rs, x_isBridge hs rs, kk_1 hs, if_pos hpn, if_neg n10, if_pos hb, if_pos n11, x1', kk_1 hs1, sh, x2]
  · have q4 := q 230 (by omega)
    simp only [m_X10_worth, hgI_k, hgR_k, hpI_k, hpR_k, hpZ_k, haI_k, haR_k, hsI_k, hsZ_k, hlen_k, hlet_p, hret_p, hretZ_0, hretZ_1, hif_p, okk_setV, okk_setF, nV, nF, fV, vF, hcallV_b, hcall_b, hbind_p, hsI_n, y_isPerson hs2, y_isBridge hs2, y_in, kk_220 hs2, q4, if_pos hpn.1, if_pos hpn.2, if_pos hb, if_neg n10, if_pos n11, z1, kk_220 hy1, rf_220_22 hy1, kk_231 hy1, ln_231 hy1, b9, kk_220 hy2, z3, kk_220 hy3, rf_220_22 hy3, kk_231 hy3, ln_231 hy3]
  · exact (ff.1.tr g1.1).tr ((ext.setV _ _ _ _).tr (g3.1.tr (ext.setV _ _ _ _)))
  · intro a h1 h2 h3 h4 h5
    exact ((ff.2.2 a h1).tr (g1.2.2.1 a h2 h4 h5)).tr ((agr.setV h3).tr ((g3.2.2.1 a h2 h4 h5).tr (agr.setV h3)))
  · intro j hj
    rw [hV_setV_a (by decide), g3.2.2.2 j hj, hV_setV_a (by decide), g1.2.2.2 j hj, q 220 (by omega)]
  · intro c hc
    by_cases e : c = b
    · rw [e, hV_setV_s]
    · rw [hV_setV_i e, (g3.2.2.1 231 (by decide) (by decide) (by decide) c).1, hV_setV_i e, k 231 (by omega) (by decide) (by decide) (by decide)]
      exact ex c hc
