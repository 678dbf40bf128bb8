/-! life, worth, more -/
def rhoL (z z' : lZ) : Prop := z.1 = z'.1 ∧ (0 ≤ z.1 → z.2 = z'.2)
theorem liN_V {S : Nat → Int} {B : Nat} {G : Nat → Int → Int} {h : Int} {f : (Nat → Int) → Nat → Bool} {c : Nat → Int → Int → Int → Bool} : ∀ (d k : Nat) (q : Int) (L : Nat → Int) (e : Int) (r : Nat → Int) (z z' : lZ), rhoL z z' → rhoL (liN S B G h f c d k q L e r z) (liN S B G h f c d k q L e r z') := by
  intro d
  induction d with
  | zero =>
    intro k q L e r z z' hr
    show rhoL (lfL h q e r z) (lfL h q e r z')
    unfold lfL
    rw [hr.1]
    split
    · exact ⟨rfl, fun _ => rfl⟩
    · exact hr
  | succ d ih =>
    intro k q L e r z z' hr
    rw [liN_s, liN_s]
    have C : ∀ m i (z z' : lZ), rhoL z z' → rhoL (liC S G f c (liN S B G h f c d (k + 1)) k q L e r m i z) (liC S G f c (liN S B G h f c d (k + 1)) k q L e r m i z') := by
      intro m
      induction m with
      | zero =>
        intro i z z' hr
        exact hr
      | succ m ihm =>
        intro i z z' hr
        rw [liC_s, liC_s]
        refine ihm (i + 1) _ _ ?_
        unfold stL
        rw [hr.1]
        split
        · exact ih _ _ _ _ _ _ _ hr
        · exact hr
    refine C B 0 _ _ ?_
    unfold stay
    rw [hr.1]
    split
    · exact ih _ _ _ _ _ _ _ hr
    · exact hr
def planF (u w : hS) : Prop := ext u w ∧ shp w ∧ ∀ a, (a < 40 ∨ 45 < a) → agr u w a
def w0P (u : hS) (t : Nat) (F L G : Nat → Int) : hS := hput (hput (hput (hsetF u 40 5 t) 40 F) 41 L) 42 G
theorem w0P_F {u : hS} {t : Nat} {F L G : Nat → Int} (hs : shp u) : planF u (w0P u t F L G) := by
  refine ⟨⟨Nat.le_refl _, fun _ _ => ⟨rfl, rfl⟩⟩, shp_set405 hs, fun a ha i => ?_⟩
  refine ⟨?_, ?_⟩
  · unfold w0P
    rw [hV_put_n (by omega), hV_put_n (by omega), hV_put_n (by omega)]
    rfl
  · show (if a = 40 ∧ i = 5 then t else hF u a i) = hF u a i
    rw [if_neg (by omega)]
theorem x_slv {u : hS} (hs : shp u) {t p n B : Nat} {S : Nat → Int} (rf : RepF u 30 t S) (hp : (p : Int) < S 4) (hn : 1 ≤ n ∧ n ≤ 6) (hB : S 2 = (B : Int)) {F L G : Nat → Int} (F6 : F 6 = (n : Int)) (F7 : F 7 = S (10 + 3 * p)) (F8 : F 8 = S (11 + 3 * p)) (hL : ∀ b, b < B → 0 ≤ L b ∧ L b ≤ 10) (hG : ∀ k q : Nat, k < n → q < 8 → G (8 * k + q) = gaS S p k q) : ∃ w, m_X2_solve 40 (w0P u t F L G) = some (0, w) ∧ planF u w ∧ hV w 40 9 = (liN S B (gaS S p) (S (11 + 3 * p)) opF ctT n 0 (S (10 + 3 * p)) L 0 (fun _ => 0) (-1, hV u 45)).1 ∧ ∀ j, j < n → hV w 45 j = (liN S B (gaS S p) (S (11 + 3 * p)) opF ctT n 0 (S (10 + 3 * p)) L 0 (fun _ => 0) (-1, hV u 45)).2 j := by
  obtain ⟨rs, tz, rw0, ws, wv⟩ := id rf
  have w0 := ws.1
  have zq := (wv.2.2.1 p hp).1
  obtain ⟨N, hN⟩ : ∃ N : Nat, S 0 = N := ⟨(S 0).toNat, by omega⟩
  obtain ⟨q0, hq0⟩ : ∃ q : Nat, S (10 + 3 * p) = q := ⟨(S (10 + 3 * p)).toNat, by omega⟩
  have fr := w0P_F (t := t) (F := F) (L := L) (G := G) hs
  have h40 : ∀ j, hV (w0P u t F L G) 40 j = F j := fun j => by
    unfold w0P
    rw [hV_put_n (by decide), hV_put_n (by decide), hV_put_s]
  have h41 : hV (w0P u t F L G) 41 = L := by
    unfold w0P
    rw [hV_put_n (by decide), hV_put_s]
  have h42 : hV (w0P u t F L G) 42 = G := by
    unfold w0P
    rw [hV_put_s]
  have h45 : hV (w0P u t F L G) 45 = hV u 45 := by
    unfold w0P
    rw [hV_put_n (by decide), hV_put_n (by decide), hV_put_n (by decide)]
    rfl
  have f5 : hF (w0P u t F L G) 40 5 = t := by
    show (if 40 = 40 ∧ 5 = 5 then t else hF u 40 5) = t
    rw [if_pos (by decide)]
  have pf : pfC (w0P u t F L G) t n B N S (gaS S p) (S (11 + 3 * p)) := ⟨fr.2.1, rf.fr fr.1 (fun a _ _ => fr.2.2 a (by omega)) (fun a _ _ => fr.2.2 a (by omega)), f5, by rw [h40, F6], hn, by rw [h40, F8], hB, hN, fun k q hk hq => by rw [h42]; exact hG k q hk (by omega), fun k q => gaS_in ws wv p k q⟩
  obtain ⟨D, W, V, s1, s2⟩ := x_solve pf (q0 := q0) (by rw [h40, F7, hq0]) (by omega) (by rw [h41]; exact hL) (fun _ => 0)
  rw [h41, h45, ← hq0] at s1 s2
  refine ⟨_, s1, ⟨fr.1.tr ((ext.put _ _ _).tr (PL_ext _ _ _ _ _)), fr.2.1, fun a ha => (fr.2.2 a ha).tr ((agr.put (by omega)).tr (PL_agr (by omega) (by omega) (by omega) (by omega)))⟩, PL_9 _ _ _ _ _, fun j hj => ?_⟩
  rw [PL_45]
  exact s2 j hj
theorem x_canPlan {u : hS} (hs : shp u) {t : Nat} {S : Nat → Int} (r : RepS u 30 t S) (p n : Int) : m_X9_canPlan 1 p n u = some (if (0 ≤ p ∧ p < S 4) ∧ 1 ≤ n ∧ n ≤ 6 then 1 else 0, u) := by
  simp only [m_X9_canPlan_L24, m_X9_canPlan_L23, m_X9_canPlan, hgI_k, hgR_k, hpI_k, hpR_k, hpZ_k, haI_k, haR_k, hsI_k, hsZ_k, hlen_k, hlet_p, hret_p, hretZ_0, hretZ_1, hif_p, okk_setV, okk_setF, nV, nF, fV, vF, hcallV_b, hbind_p, x_isPerson hs r, kk_1 hs]
  by_cases h1 : 0 ≤ p ∧ p < S 4
  · rw [if_pos h1, if_neg (by decide)]
    by_cases h2 : n < 1
    · rw [if_pos h2, if_neg (by omega)]
    · rw [if_neg h2]
      by_cases h3 : n > 6
      · rw [if_pos h3, if_neg (by omega)]
      · rw [if_neg h3, if_pos ⟨h1, by omega, by omega⟩]
  · rw [if_neg h1, if_pos rfl, if_neg (fun z => h1 z.1)]
/-- what the reference's days leave alone -/
def lifF (u w : hS) : Prop := ext u w ∧ shp w ∧ (∀ a, a ≠ 220 → a ≠ 234 → a ≠ 235 → agr u w a) ∧ ∀ j, j ≠ 28 → hV w 220 j = hV u 220 j
theorem y_lif {u : hS} (hs : shp u) {S X : Nat → Int} {p B n : Nat} {L : Nat → Int} (hS : hV u 230 = S) (hX : hV u 231 = X) (ws : WS S) (wv : WV S) (hp : (p : Int) < S 4) (hn : 1 ≤ n ∧ n ≤ 6) (hB : S 2 = (B : Int)) (x01 : ∀ b, b < 9 → 0 ≤ X b ∧ X b ≤ 1) (hL : ∀ b, b < B → L b = qLeft S p b + X b) (V0 : Nat → Int) : ∃ w, m_X10_findsLife 220 p n u = some (0, w) ∧ lifF u w ∧ hV w 220 28 = (liN S B (gaS S p) (S (11 + 3 * p)) opF ctT n 0 (S (10 + 3 * p)) L 0 (fun _ => 0) (-1, V0)).1 ∧ (0 ≤ (liN S B (gaS S p) (S (11 + 3 * p)) opF ctT n 0 (S (10 + 3 * p)) L 0 (fun _ => 0) (-1, V0)).1 → ∀ j, j < n → hV w 235 j = (liN S B (gaS S p) (S (11 + 3 * p)) opF ctT n 0 (S (10 + 3 * p)) L 0 (fun _ => 0) (-1, V0)).2 j) := by
  have w5 := ws.2.2.2.2.2.1
  have w6 := ws.2.2.2.2.2.2.1
  have l : lR S X p B n (S (11 + 3 * p)) S (S (10 + 3 * p)) L := ⟨tR_0 ws wv hp hB x01 hL, rfl, w5, w6, wv.ww, hB, hn⟩
  obtain ⟨W, V, a1, a2⟩ := y_findsLife hs hS hX (fun k q => gaS_in ws wv p k q) l (fun _ => 0) (hV u 235) (fun _ _ => rfl)
  have rho := liN_V (S := S) (B := B) (G := gaS S p) (h := S (11 + 3 * p)) (f := opF) (c := ctT) n 0 (S (10 + 3 * p)) L 0 (fun _ => 0) (-1, hV u 235) (-1, V0) ⟨rfl, fun z => absurd (show (0 : Int) ≤ -1 from z) (by decide)⟩
  refine ⟨_, a1, ⟨(ext.put _ _ _).tr ((ext.put _ _ _).tr ((ext.put _ _ _).tr (ext.put _ _ _))), hs, fun a h1 h2 h3 i => ⟨?_, rfl⟩, fun j hj => ?_⟩, ?_, fun z j hj => ?_⟩
  · by_cases e : a = 230
    · subst e
      rw [QS_230, hS]
    · rw [QS_n e h2 h3 h1]
  · unfold QS
    rw [hV_put_s, sup_n hj]
  · rw [QS_28, rho.1]
  · rw [QS_235, a2 j hj]
    have y := rho.2 (by rw [rho.1]; exact z)
    rw [y]
theorem a_life {u : hS} (hs : shp u) (ai : actInv u) (ex : ∀ b, b < 9 → hV u 231 b = 0) (p n w : Int) : ∃ r u1 u2, m_X9_life 1 p n w u = some (r, u1) ∧ m_X10_life 220 p n w u1 = some (r, u2) ∧ shp u1 ∧ ext u u2 ∧ shp u2 ∧ (∀ a, (a < 40 ∨ 45 < a) → a ≠ 220 → a ≠ 234 → a ≠ 235 → agr u u2 a) ∧ ∀ j, j ≠ 28 → hV u2 220 j = hV u 220 j := by
  obtain ⟨t, c, rf, ru, h25⟩ := id ai
  obtain ⟨rs, tz, rw0, ws, wv⟩ := id rf
  have w2 := ws.2.2.1
  have w4 := ws.2.2.2.2.1
  have n10 : ¬ (1 : Int) = 0 := by decide
  have n11 : (1 : Int) ≠ 0 := by decide
  have same : ∀ v : Int, m_X9_life 1 p n w u = some (v, u) → m_X10_life 220 p n w u = some (v, u) → ∃ r u1 u2, m_X9_life 1 p n w u = some (r, u1) ∧ m_X10_life 220 p n w u1 = some (r, u2) ∧ shp u1 ∧ ext u u2 ∧ shp u2 ∧ (∀ a, (a < 40 ∨ 45 < a) → a ≠ 220 → a ≠ 234 → a ≠ 235 → agr u u2 a) ∧ ∀ j, j ≠ 28 → hV u2 220 j = hV u 220 j := fun v h1 h2 => ⟨v, u, u, h1, h2, hs, ext.rf u, hs, fun _ _ _ _ _ _ => ⟨rfl, rfl⟩, fun _ _ => rfl⟩
  by_cases hpn : (0 ≤ p ∧ p < hV u 230 4) ∧ 1 ≤ n ∧ n ≤ 6
  case neg =>
    refine same (-3) ?_ ?_
    · simp only [m_X9_life, m_X9_life_L19, hgI_k, hgR_k, hpI_k, hpR_k, hpZ_k, haI_k, haR_k, hsI_k, hsZ_k, hlen_k, hlet_p, hret_p, hretZ_0, hretZ_1, hif_p, okk_setV, okk_setF, nV, nF, fV, vF, hcallV_b, hbind_p, x_canPlan hs rs, kk_1 hs, if_neg hpn, if_true]
    · simp only [m_X10_life, m_X10_life_L32, hgI_k, hgR_k, hpI_k, hpR_k, hpZ_k, haI_k, haR_k, hsI_k, hsZ_k, hlen_k, hlet_p, hret_p, hretZ_0, hretZ_1, hif_p, okk_setV, okk_setF, nV, nF, fV, vF, hcallV_b, hcall_b, hbind_p, y_isPerson hs, y_in, kk_220 hs]
      by_cases h1 : 0 ≤ p ∧ p < hV u 230 4
      · rw [if_pos h1, if_neg n10, if_neg (show ¬ (1 ≤ n ∧ n ≤ 6) from fun z => hpn ⟨h1, z⟩), if_pos rfl]
      · rw [if_neg h1, if_pos rfl]
  by_cases hw : 0 ≤ w ∧ w ≤ 6
  case neg =>
    refine same (-3) ?_ ?_
    · simp only [m_X9_life, m_X9_life_L19, hgI_k, hgR_k, hpI_k, hpR_k, hpZ_k, haI_k, haR_k, hsI_k, hsZ_k, hlen_k, hlet_p, hret_p, hretZ_0, hretZ_1, hif_p, okk_setV, okk_setF, nV, nF, fV, vF, hcallV_b, hbind_p, x_canPlan hs rs, kk_1 hs, if_pos hpn, if_neg n10]
      by_cases z : w < 0
      · rw [if_pos z]
      · rw [if_neg z, if_neg (by omega)]
    · simp only [m_X10_life, m_X10_life_L32, hgI_k, hgR_k, hpI_k, hpR_k, hpZ_k, haI_k, haR_k, hsI_k, hsZ_k, hlen_k, hlet_p, hret_p, hretZ_0, hretZ_1, hif_p, okk_setV, okk_setF, nV, nF, fV, vF, hcallV_b, hcall_b, hbind_p, y_isPerson hs, y_in, kk_220 hs, if_pos hpn.1, if_pos hpn.2, if_neg n10, if_neg hw, ne_eq, not_true_eq_false, if_false]
  have w0' : ¬ w < 0 := by omega
  obtain ⟨p, rfl⟩ : ∃ x : Nat, p = x := ⟨p.toNat, by omega⟩
  obtain ⟨n, rfl⟩ : ∃ x : Nat, n = x := ⟨n.toNat, by omega⟩
  obtain ⟨w, rfl⟩ : ∃ x : Nat, w = x := ⟨w.toNat, by omega⟩
  obtain ⟨B, hB⟩ : ∃ x : Nat, hV u 230 2 = x := ⟨(hV u 230 2).toNat, by omega⟩
  have hp := hpn.1.2
  obtain ⟨F, L, G, q1, q2, q3, q4, q5, q6⟩ := x_prepare hs rf hp (n := n) (by omega) hB
  have hL : ∀ b, b < B → 0 ≤ L b ∧ L b ≤ 10 := fun b hb => by
    rw [q5 b hb]
    have := qLeft_ok ws wv hp (b := b) (by omega)
    omega
  obtain ⟨v, s1, fv, s2, s3⟩ := x_slv hs rf hp (n := n) (by omega) hB q2 q3 q4 hL q6
  have hs0 := (w0P_F (u := u) (t := t) (F := F) (L := L) (G := G) hs).2.1
  have hsv := fv.2.1
  have q : ∀ a, (a < 40 ∨ 45 < a) → hV v a = hV u a := fun a ha => funext fun i => (fv.2.2 a ha i).1
  obtain ⟨v2, y1, lf, y2, y3⟩ := y_lif hsv (S := hV u 230) (X := hV u 231) (p := p) (B := B) (n := n) (L := L) (q 230 (by omega)) (q 231 (by omega)) ws wv hp (by omega) hB (fun b hb => by rw [ex b hb]; omega) (fun b hb => by rw [q5 b hb, ex b (by omega), Int.add_zero]) (hV u 45)
  obtain ⟨z, hz⟩ : ∃ z, z = liN (hV u 230) B (gaS (hV u 230) p) (hV u 230 (11 + 3 * p)) opF ctT n 0 (hV u 230 (10 + 3 * p)) L 0 (fun _ => 0) (-1, hV u 45) := ⟨_, rfl⟩
  rw [← hz] at s2 s3 y2 y3
  have hs2 := lf.2.1
  refine ⟨if z.1 < 0 then -2 else if w = 0 then z.1 else if w ≤ n then z.2 (w - 1) else -2, v, v2, ?_, ?_, hsv, fv.1.tr lf.1, hs2, fun a h1 h2 h3 h4 => (fv.2.2 a h1).tr (lf.2.2.1 a h2 h3 h4), fun j hj => by rw [lf.2.2.2 j hj, q 220 (by omega)]⟩
  · have q1' : m_X2_prepare 40 30 p n u = some (0, w0P u t F L G) := q1
    simp only [m_X9_life, m_X9_life_L57, m_X9_life_L85, hgI_k, hgR_k, hpI_k, hpR_k, hpZ_k, haI_k, haR_k, hsI_k, hsZ_k, hlen_k, hlet_p, hret_p, hretZ_0, hretZ_1, hif_p, okk_setV, okk_setF, nV, nF, fV, vF, hcallV_b, hbind_p, x_canPlan hs rs, kk_1 hs, kk_40 hs, rf_1_3 hs, rf_1_10 hs, if_pos hpn, if_neg n10, if_neg w0', if_pos hw.2, q1', kk_1 hs0, rf_1_10 hs0, kk_40 hs0, s1, kk_1 hsv, rf_1_10 hsv, kk_40 hsv, s2]
    by_cases z0 : z.1 < 0
    · rw [if_pos z0, if_pos z0]
    · rw [if_neg z0, if_neg z0]
      by_cases wz : w = 0
      · subst wz
        rw [if_pos (by omega), if_neg (by decide), if_pos rfl]
      · rw [if_neg wz]
        by_cases wn : w ≤ n
        · have w1 : w32 ((w : Int) - 1) = ((w - 1 : Nat) : Int) := by
            rw [w32_id ⟨by omega, by omega⟩]
            omega
          have w6 : w - 1 < 6 := by omega
          rw [if_pos (show (w : Int) ≤ (n : Int) by omega), if_pos (show (w : Int) ≠ 0 by omega), if_pos wn]
          simp only [hgI_k, hgR_k, hpI_k, hpR_k, hpZ_k, haI_k, haR_k, hsI_k, hsZ_k, hlen_k, hlet_p, hret_p, hretZ_0, hretZ_1, hif_p, okk_setV, okk_setF, nV, nF, fV, vF, haI_n, kk_40 hsv, rf_40_4 hsv, kk_45 hsv, ln_45 hsv, w1, w6, s3 (w - 1) (by omega)]
        · rw [if_neg (show ¬ (w : Int) ≤ (n : Int) by omega), if_neg wn]
  · have q4 := q 230 (by omega)
    simp only [m_X10_life, m_X10_life_L80, hgI_k, hgR_k, hpI_k, hpR_k, hpZ_k, haI_k, haR_k, hsI_k, hsZ_k, hlen_k, hlet_p, hret_p, hretZ_0, hretZ_1, hif_p, okk_setV, okk_setF, nV, nF, fV, vF, hcallV_b, hcall_b, hbind_p, y_isPerson hsv, y_in, kk_220 hsv, q4, if_pos hpn.1, if_pos hpn.2, if_neg n10, if_pos hw, if_pos n11, y1, kk_220 hs2, y2]
    by_cases z0 : z.1 < 0
    · rw [if_neg (show ¬ z.1 ≥ 0 by omega), if_pos z0]
    · rw [if_pos (show z.1 ≥ 0 by omega), if_neg z0]
      by_cases wz : w = 0
      · subst wz
        rw [if_neg (by decide), if_pos rfl]
      · rw [if_pos (show (w : Int) ≠ 0 by omega), if_neg wz]
        by_cases wn : w ≤ n
        · have w1 : w32 ((w : Int) - 1) = ((w - 1 : Nat) : Int) := by
            rw [w32_id ⟨by omega, by omega⟩]
            omega
          have w8 : w - 1 < 8 := by omega
          rw [if_pos (show (w : Int) ≤ (n : Int) by omega), if_pos wn]
          simp only [hgI_k, hgR_k, hpI_k, hpR_k, hpZ_k, haI_k, haR_k, hsI_k, hsZ_k, hlen_k, hlet_p, hret_p, hretZ_0, hretZ_1, hif_p, okk_setV, okk_setF, nV, nF, fV, vF, haI_n, rf_220_27 hs2, kk_235 hs2, ln_235 hs2, w1, w8, y3 (by omega) (w - 1) (by omega)]
        · rw [if_neg (show ¬ (w : Int) ≤ (n : Int) by omega), if_neg wn]
