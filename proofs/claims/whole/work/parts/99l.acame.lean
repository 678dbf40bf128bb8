/-! by which ways one came: both -/
set_option maxRecDepth 100000 in
theorem no485 : ∀ q ∈ refL, ¬ (q.1 = 48 ∧ q.2.1 = 5) := by decide
theorem shp_set485 {u : hS} {x : Nat} (hs : shp u) : shp (hsetF u 48 5 x) := ⟨hs.1, hs.2.1, fun q hq => by
  show (if q.1 = 48 ∧ q.2.1 = 5 then x else hF u q.1 q.2.1) = q.2.2
  rw [if_neg (no485 q hq)]
  exact hs.2.2 q hq⟩
theorem y_cmL {u : hS} (hs : shp u) {S : Nat → Int} {p B : Nat} {O : Nat → Nat} (hS : hV u 230 = S) (hB : S 2 = (B : Int)) (B9 : B ≤ 9) (p4 : p < 4) (hO : ∀ b, b < B → S (58 + 9 * p + b) = (O b : Int) ∧ O b ≤ 9) (w : Int) : ∀ (k fl i : Nat) (D : Nat → Int), k < fl → i + k = B → nsU O i ≤ 9 * i → (∀ b, b < i → D b = (O b : Int)) → ∃ D', m_X10_came_L27 fl 220 p w (nsU O i) i (hput u 238 D) = m_X10_came_L27 1 220 p w (nsU O B) B (hput u 238 D') ∧ ∀ b, b < B → D' b = (O b : Int) := by
  intro k
  induction k with
  | zero =>
    intro fl i D hf hi h9 hD
    obtain ⟨fl, rfl⟩ : ∃ x, fl = x + 1 := ⟨fl - 1, by omega⟩
    obtain rfl : i = B := by omega
    refine ⟨D, ?_, hD⟩
    show _ = m_X10_came_L27 (0 + 1) 220 p w (nsU O i) i (hput u 238 D)
    simp only [m_X10_came_L27, hif_p, hgR_k, haI_2, okk_put, nP, fP, kk_220 hs, kk_230 hs, rf_220_20 hs, ln_230 hs, lt_c 2 160 rfl, hV_put_n (show 230 ≠ 238 by decide), hS, hB]
    have ge : (i : Int) ≥ (i : Int) := Int.le_refl _
    rw [if_pos ge, if_pos ge]
  | succ k ih =>
    intro fl i D hf hi h9 hD
    obtain ⟨fl, rfl⟩ : ∃ x, fl = x + 1 := ⟨fl - 1, by omega⟩
    have i9 : i < 9 := by omega
    obtain ⟨o1, o2⟩ := hO i (by omega)
    have en : nsU O (i + 1) = nsU O i + O i := rfl
    have j2 : 58 + 9 * p + i < 1000000 := by omega
    have i2 : 58 + 9 * p + i < 160 := by omega
    have w6 : True → w32 ((nsU O i : Int) + (O i : Int)) = (nsU O (i + 1) : Int) := by
      intro _
      rw [w32_id ⟨by omega, by omega⟩]
      omega
    obtain ⟨D', a1, a2⟩ := ih fl (i + 1) (sup D i (O i : Int)) (by omega) (by omega) (by omega) (fun b hb => by
      by_cases e : b = i
      · rw [e, sup_s]
      · rw [sup_n e]
        exact hD b (by omega))
    refine ⟨D', ?_, a2⟩
    rw [← a1]
    simp only [m_X10_came_L27, hgI_k, hgR_k, hpI_k, hpR_k, hpZ_k, haI_k, haR_k, hsI_k, hsZ_k, hlen_k, hlet_p, hret_p, hretZ_0, hretZ_1, hif_p, okk_setV, okk_setF, nV, nF, fV, vF, okk_put, nP, fP, haI_2, haI_n, hsI_n, kk_220 hs, kk_230 hs, kk_238 hs, rf_220_20 hs, rf_220_33 hs, ln_230 hs, ln_238 hs, lt_c 2 160 rfl, hV_put_n (show 230 ≠ 238 by decide), hS, hB, ix_58 p4, ix_n j2, i2, i9, o1, setV_put, hV_put_s, sup_s, w6 trivial, ix_s (show i < 1000000 by omega)]
    rw [if_neg (by omega)]
theorem a_came {u : hS} (hs : shp u) (ai : actInv u) (p w : Int) : ∃ r u1 u2, m_X9_came 1 p w u = some (r, u1) ∧ m_X10_came 220 p w u1 = some (r, u2) ∧ shp u1 ∧ ext u u2 ∧ shp u2 ∧ (∀ a, (a < 48 ∨ 53 < a) → a ≠ 220 → a ≠ 234 → a ≠ 238 → agr u u2 a) ∧ ∀ j, j ≠ 34 → j ≠ 35 → j ≠ 36 → hV u2 220 j = hV u 220 j := by
  obtain ⟨t, c0, rf, ru, h25⟩ := id ai
  obtain ⟨rs, tz, rw0, ws, wv⟩ := id rf
  have w1' := ws.2.1
  have w2 := ws.2.2.1
  have w4 := ws.2.2.2.2.1
  have n10 : ¬ (1 : Int) = 0 := by decide
  have n11 : (1 : Int) ≠ 0 := by decide
  have same : ∀ v : Int, m_X9_came 1 p w u = some (v, u) → m_X10_came 220 p w u = some (v, u) → ∃ r u1 u2, m_X9_came 1 p w u = some (r, u1) ∧ m_X10_came 220 p w u1 = some (r, u2) ∧ shp u1 ∧ ext u u2 ∧ shp u2 ∧ (∀ a, (a < 48 ∨ 53 < a) → a ≠ 220 → a ≠ 234 → a ≠ 238 → agr u u2 a) ∧ ∀ j, j ≠ 34 → j ≠ 35 → j ≠ 36 → hV u2 220 j = hV u 220 j := fun v h1 h2 => ⟨v, u, u, h1, h2, hs, ext.rf u, hs, fun _ _ _ _ _ _ => ⟨rfl, rfl⟩, fun _ _ _ _ => rfl⟩
  by_cases hp : 0 ≤ p ∧ p < hV u 230 4
  case neg =>
    refine same (-1) ?_ ?_
    · simp only [m_X9_came, m_X9_came_L17, hgI_k, hgR_k, hpI_k, hpR_k, hpZ_k, haI_k, haR_k, hsI_k, hsZ_k, hlen_k, hlet_p, hret_p, hretZ_0, hretZ_1, hif_p, okk_setV, okk_setF, nV, nF, fV, vF, hcallV_b, hbind_p, x_isPerson hs rs, kk_1 hs, if_neg hp, if_true]
    · simp only [m_X10_came, m_X10_came_L20, hgI_k, hgR_k, hpI_k, hpR_k, hpZ_k, haI_k, haR_k, hsI_k, hsZ_k, hlen_k, hlet_p, hret_p, hretZ_0, hretZ_1, hif_p, okk_setV, okk_setF, nV, nF, fV, vF, hcallV_b, hbind_p, y_isPerson hs, kk_220 hs, if_neg hp, if_true]
  by_cases hw : 0 ≤ w ∧ w ≤ 2
  case neg =>
    refine same (-1) ?_ ?_
    · simp only [m_X9_came, m_X9_came_L17, hgI_k, hgR_k, hpI_k, hpR_k, hpZ_k, haI_k, haR_k, hsI_k, hsZ_k, hlen_k, hlet_p, hret_p, hretZ_0, hretZ_1, hif_p, okk_setV, okk_setF, nV, nF, fV, vF, hcallV_b, hbind_p, x_isPerson hs rs, kk_1 hs, if_pos hp, if_neg n10]
      by_cases z : w < 0
      · rw [if_pos z]
      · rw [if_neg z, if_neg (by omega)]
    · simp only [m_X10_came, m_X10_came_L20, hgI_k, hgR_k, hpI_k, hpR_k, hpZ_k, haI_k, haR_k, hsI_k, hsZ_k, hlen_k, hlet_p, hret_p, hretZ_0, hretZ_1, hif_p, okk_setV, okk_setF, nV, nF, fV, vF, hcallV_b, hcall_b, hbind_p, y_isPerson hs, y_in, kk_220 hs, if_pos hp, if_neg n10, if_neg hw, ne_eq, not_true_eq_false, if_false]
  have w0' : ¬ w < 0 := by omega
  obtain ⟨p, rfl⟩ : ∃ x : Nat, p = x := ⟨p.toNat, by omega⟩
  obtain ⟨B, hB⟩ : ∃ x : Nat, hV u 230 2 = x := ⟨(hV u 230 2).toNat, by omega⟩
  have p4 : p < 4 := by omega
  have B9 : B ≤ 9 := by omega
  obtain ⟨O, hO⟩ : ∃ O : Nat → Nat, O = fun b => (hV u 230 (58 + 9 * p + b)).toNat := ⟨_, rfl⟩
  have hO' : ∀ b, b < B → hV u 230 (58 + 9 * p + b) = (O b : Int) ∧ O b ≤ 9 := fun b hb => by
    have z := wv.2.2.2.1 p b hp.2 (by omega)
    rw [hO]
    show _ = (((hV u 230 (58 + 9 * p + b)).toNat : Nat) : Int) ∧ (hV u 230 (58 + 9 * p + b)).toNat ≤ 9
    omega
  -- the class makes ready
  obtain ⟨u0, hu0⟩ : ∃ u0, u0 = hsetF u 48 5 (t + 1) := ⟨_, rfl⟩
  have hs0 : shp u0 := by
    rw [hu0]
    exact shp_set485 hs
  have e0 : ext u u0 := by
    rw [hu0]
    exact ⟨Nat.le_refl _, fun _ _ => ⟨rfl, rfl⟩⟩
  have g0 : ∀ a, a ≠ 48 → agr u u0 a := fun a ha i => by
    rw [hu0]
    refine ⟨rfl, ?_⟩
    show (if a = 48 ∧ i = 5 then t + 1 else hF u a i) = hF u a i
    rw [if_neg (fun z => ha z.1)]
  have f5 : hF u0 48 5 = t + 1 := by
    rw [hu0]
    show (if 48 = 48 ∧ 5 = 5 then t + 1 else hF u 48 5) = t + 1
    rw [if_pos (by decide)]
  have rf0 : RepF u0 30 t (hV u 230) := rf.fr e0 (fun a _ _ => g0 a (by omega)) (fun a _ _ => g0 a (by omega))
  obtain ⟨F0, hF0⟩ : ∃ F, F = sup (sup (sup (hV u0 48) 8 (hV u 230 (11 + 3 * p))) 9 (hV u 230 (10 + 3 * p))) 6 0 := ⟨_, rfl⟩
  obtain ⟨D, Wt, F, x1, x2, x3, x4⟩ := x_pr5 hs0 (t := t) (p := p) (B := B) (O := O) rf0.1 tz ws hp.2 hB f5 hO' B 1000000000 0 (hV u0 49) (hV u0 50) F0 (by omega) (by omega) (by rw [hF0, sup_s]; rfl) (by show 1 ≤ 2560; decide) (fun b hb => by omega)
  have pr : m_X5_prepare 48 30 p u = some (if nsU O B ≤ 8 then 1 else 0, PR u0 D Wt F) := by
    have ht := rs.ht
    have ht0 := rf0.1.ht
    have ha0 := rf0.1.ha
    have at0 := rf0.1.at p hp.2
    have ho0 := rf0.1.home p hp.2
    have a1 : ∀ x, hV (hput u0 48 x) (30 + 1) p = hV u 230 (10 + 3 * p) := fun x => by
      rw [hV_put_n (by decide)]
      exact at0
    have st : hput u0 48 F0 = PR u0 (hV u0 49) (hV u0 50) F0 := by
      unfold PR
      rw [hput_self, hput_self]
    have x1' : m_X5_prepare_L44 1000000000 48 30 p 1 0 (PR u0 (hV u0 49) (hV u0 50) F0) = _ := x1
    rw [← x1']
    simp only [m_X5_prepare, hgI_k, hgR_k, hpI_k, hpR_k, hpZ_k, haI_k, haR_k, hsI_k, hsZ_k, hlen_k, hlet_p, hret_p, hretZ_0, hretZ_1, hif_p, okk_setV, okk_setF, nV, nF, fV, vF, kk_30 hs, kk_48 hs, rs.to, TwA.k0 ht, TwA.k1 ht, TwA.k2 ht, TwA.k3 ht, TwA.k4 ht, TwA.k5 ht, TwA.k6 ht, TwA.k7 ht, TwA.k8 ht, TwA.k9 ht, TwA.k10 ht, TwA.k11 ht, TwA.k12 ht, TwA.k13 ht, TwA.k14 ht, TwA.k15 ht, TwA.k16 ht, TwA.k17 ht, TwA.n2 ht, TwA.n3 ht, TwA.n4 ht, TwA.n6 ht, TwA.n7 ht, TwA.n8 ht, TwA.n9 ht, TwA.n10 ht, TwA.n11 ht, TwA.n12 ht, TwA.n13 ht, TwA.n14 ht, TwA.n15 ht, TwA.n16 ht, TwA.n17 ht, TwA.f2 ht, TwA.f3 ht, TwA.f5 ht, TwA.f6 ht, TwA.f8 ht, TwA.f9 ht, TwA.f11 ht, TwA.f12 ht, TwA.f13 ht, TwA.f14 ht, TwA.f15 ht, TwA.b0 ht, TwA.b1 ht, TwA.b2 ht, TwA.g0 ht, TwA.g1 ht, TwA.g2 ht]
    rw [← hu0]
    simp only [hgI_k, hgR_k, hpI_k, hpR_k, hpZ_k, haI_k, haR_k, hsI_k, hsZ_k, hlen_k, hlet_p, hret_p, hretZ_0, hretZ_1, hif_p, okk_setV, okk_setF, nV, nF, fV, vF, okk_put, nP, fP, haI_n, kk_48 hs0, kk_30 hs0, rf0.1.to, TwA.k0 ht0, TwA.k1 ht0, TwA.k2 ht0, TwA.k3 ht0, TwA.k4 ht0, TwA.k5 ht0, TwA.k6 ht0, TwA.k7 ht0, TwA.k8 ht0, TwA.k9 ht0, TwA.k10 ht0, TwA.k11 ht0, TwA.k12 ht0, TwA.k13 ht0, TwA.k14 ht0, TwA.k15 ht0, TwA.k16 ht0, TwA.k17 ht0, TwA.n2 ht0, TwA.n3 ht0, TwA.n4 ht0, TwA.n6 ht0, TwA.n7 ht0, TwA.n8 ht0, TwA.n9 ht0, TwA.n10 ht0, TwA.n11 ht0, TwA.n12 ht0, TwA.n13 ht0, TwA.n14 ht0, TwA.n15 ht0, TwA.n16 ht0, TwA.n17 ht0, TwA.f2 ht0, TwA.f3 ht0, TwA.f5 ht0, TwA.f6 ht0, TwA.f8 ht0, TwA.f9 ht0, TwA.f11 ht0, TwA.f12 ht0, TwA.f13 ht0, TwA.f14 ht0, TwA.f15 ht0, TwA.b0 ht0, TwA.b1 ht0, TwA.b2 ht0, TwA.g0 ht0, TwA.g1 ht0, TwA.g2 ht0, StA.k0 ha0, StA.k1 ha0, StA.k2 ha0, StA.k3 ha0, StA.k4 ha0, StA.n1 ha0, StA.n2 ha0, StA.n3 ha0, StA.n4 ha0, StA.f2 ha0, StA.f3 ha0, StA.f4 ha0, StA.f5 ha0, p4, ho0, setV_put1 u0, setV_put, a1]
    rw [← hF0, st]
  have hsP : shp (PR u0 D Wt F) := hs0
  have gP : ∀ a, (a < 48 ∨ 53 < a) → agr u (PR u0 D Wt F) a := fun a ha => (g0 a (by omega)).tr (PR_agr (by omega) (by omega) (by omega))
  have eP : ext u (PR u0 D Wt F) := e0.tr (PR_ext _ _ _ _)
  have c60 : (60 : Nat) = 60 := rfl
  -- the reference adds up
  have yfin : ∀ v1 : hS, shp v1 → (∀ a, (a < 48 ∨ 53 < a) → agr u v1 a) → ∃ D', m_X10_came 220 p w v1 = m_X10_came_L27 (0 + 1) 220 p w (nsU O B) B (hput v1 238 D') ∧ ∀ b, b < B → D' b = (O b : Int) := fun v1 hv gv => by
    have q : ∀ a, (a < 48 ∨ 53 < a) → hV v1 a = hV u a := fun a ha => funext fun i => (gv a ha i).1
    obtain ⟨D', a1, a2⟩ := y_cmL hv (S := hV u 230) (p := p) (B := B) (O := O) (q 230 (by omega)) hB B9 p4 hO' w B 1000000000 0 (hV v1 238) (by omega) (by omega) (by show 0 ≤ 9 * 0; decide) (fun b hb => by omega)
    rw [hput_self] at a1
    refine ⟨D', ?_, a2⟩
    have a1' : m_X10_came_L27 1000000000 220 p w 0 0 v1 = _ := a1
    refine Eq.trans ?_ a1'
    have q4 := q 230 (by omega)
    simp only [m_X10_came, hgI_k, hgR_k, hpI_k, hpR_k, hpZ_k, haI_k, haR_k, hsI_k, hsZ_k, hlen_k, hlet_p, hret_p, hretZ_0, hretZ_1, hif_p, okk_setV, okk_setF, nV, nF, fV, vF, hcallV_b, hcall_b, hbind_p, y_isPerson hv, y_in, kk_220 hv, q4, if_pos hp, if_neg n10, if_pos hw, if_pos n11]
  by_cases few : nsU O B ≤ 8
  case neg =>
    obtain ⟨D', y1, y2⟩ := yfin _ hsP gP
    have hs3 : shp (hput (PR u0 D Wt F) 238 D') := hs0
    have q230 : hV (hput (PR u0 D Wt F) 238 D') 230 = hV u 230 := by
      rw [hV_put_n (by decide)]
      exact funext fun i => (gP 230 (by omega) i).1
    refine ⟨-3, PR u0 D Wt F, hput (PR u0 D Wt F) 238 D', ?_, ?_, hsP, eP.tr (ext.put _ _ _), hs3, fun a h1 h2 h3 h4 => (gP a h1).tr (agr.put h4), fun j _ _ _ => by rw [hV_put_n (by decide), (gP 220 (by omega) j).1]⟩
    · rw [if_neg few] at pr
      simp only [m_X9_came, hgI_k, hgR_k, hpI_k, hpR_k, hpZ_k, haI_k, haR_k, hsI_k, hsZ_k, hlen_k, hlet_p, hret_p, hretZ_0, hretZ_1, hif_p, okk_setV, okk_setF, nV, nF, fV, vF, hcallV_b, hbind_p, x_isPerson hs rs, kk_1 hs, kk_48 hs, rf_1_3 hs, rf_1_12 hs, if_pos hp, if_neg n10, if_neg w0', if_pos hw.2, pr]
      rw [if_neg (fun y => y rfl)]
    · rw [y1]
      simp only [m_X10_came_L27, hgI_k, hgR_k, hpI_k, hpR_k, hpZ_k, haI_k, haR_k, hsI_k, hsZ_k, hlen_k, hlet_p, hret_p, hretZ_0, hretZ_1, hif_p, okk_setV, okk_setF, nV, nF, fV, vF, haI_2, kk_220 hs3, rf_220_20 hs3, kk_230 hs3, ln_230 hs3, lt_c 2 160 rfl, q230, hB]
      rw [if_pos (Int.le_refl _), if_neg (by omega)]
  obtain ⟨xd, x6, x7⟩ := x2 few
  rw [if_pos few] at pr
  have fr : RepF (PR u0 D Wt F) 30 t (hV u 230) := rf.fr eP (fun a _ _ => gP a (by omega)) (fun a _ _ => gP a (by omega))
  have le := hpW_le O B
  have p8 : 2 ^ nsU O B ≤ 2 ^ 8 := Nat.pow_le_pow_right (by decide) few
  have e8 : (2 : Nat) ^ 8 = 256 := by decide
  have F9 : F 9 = hV u 230 (10 + 3 * p) := by
    rw [x4, hF0, sup_n (by decide), sup_s]
  have F8 : F 8 = hV u 230 (11 + 3 * p) := by
    rw [x3, hF0, sup_n (by decide), sup_n (by decide), sup_s]
  have h50 : hV (PR u0 D Wt F) 50 = Wt := by
    unfold PR
    rw [hV_put_n (by decide), hV_put_s]
  have sc : stoC (PR u0 D Wt F) t B (hV u 230) O (hV u 230 (10 + 3 * p)) := ⟨hsP, fr, f5, hB, fun b hb => by rw [h50]; exact (xd b hb).2, by rw [PR_48, x7], by rw [PR_48, F9], by omega⟩
  have vD : vlL B O D := fun b hb => by
    have y := (xd b hb).1
    omega
  have hp0 : hpL O B D = 0 := by
    have e : hpS O (usd O D) B = hpS O (fun _ => 0) B := hpS_cg B (fun c hc => by
      have y := (xd c hc).1
      unfold usd
      omega)
    have z : ∀ b, hpS O (fun _ => 0) b = 0 := by
      intro b
      induction b with
      | zero => rfl
      | succ b ih =>
        show hpS O (fun _ => 0) b + 0 * hpW O b = 0
        rw [ih, Nat.zero_mul]
    unfold hpL
    rw [e, z]
  have sD : sumU D B 0 = (nsU O B : Int) := by
    rw [nsU_sum (O := O) B 0 (fun b _ hb => (xd b (by omega)).1), Nat.zero_add]
    show (nsU O B : Int) - ((0 : Nat) : Int) = _
    omega
  obtain ⟨Rw0, hR0⟩ : ∃ R : Nat → Int, R = fun j => if j < 256 then -1 else hV (PR u0 D Wt F) 51 j := ⟨_, rfl⟩
  obtain ⟨Rw, La, Fi, t1, t2, t3, t4⟩ := x_fol5 (home := hV u 230 (11 + 3 * p)) sc (fun b hb => (hO' b hb).2) (nsU O B) 12 (hV u 230 (11 + 3 * p)) D Rw0 (hV (PR u0 D Wt F) 52) (hV (PR u0 D Wt F) 53) (by omega) few vD sD (par_0 (fun b hb => (xd b hb).1)) (fun L' q' vL pL hl => by
    have lt : hpL O B L' < hpW O B := hpS_lt B (fun c _ => show usd O L' c ≤ O c by unfold usd; omega)
    refine Or.inl ?_
    rw [hR0]
    show (if hpL O B L' < 256 then (-1 : Int) else hV (PR u0 D Wt F) 51 (hpL O B L')) = -1
    rw [if_pos (by omega)])
  rw [hp0] at t1 t2
  have cs0 : CS (PR u0 D Wt F) D Rw0 (hV (PR u0 D Wt F) 52) (hV (PR u0 D Wt F) 53) = hput (PR u0 D Wt F) 51 Rw0 := by
    unfold CS
    have a1 : hput (PR u0 D Wt F) 49 D = PR u0 D Wt F := by
      have y := hput_self (PR u0 D Wt F) 49
      rw [PR_49] at y
      exact y
    have a2 : hV (hput (PR u0 D Wt F) 51 Rw0) 52 = hV (PR u0 D Wt F) 52 := hV_put_n (by decide)
    have a3 : hV (hput (PR u0 D Wt F) 51 Rw0) 53 = hV (PR u0 D Wt F) 53 := hV_put_n (by decide)
    rw [a1, ← a2, hput_self, ← a3, hput_self]
  rw [cs0] at t1
  have hs1 : shp (CS (PR u0 D Wt F) D Rw La Fi) := hs0
  have hs5 : shp (hput (PR u0 D Wt F) 51 Rw0) := hs0
  have gC : ∀ a, (a < 48 ∨ 53 < a) → agr u (CS (PR u0 D Wt F) D Rw La Fi) a := fun a ha => (gP a ha).tr (CS_agr (by omega) (by omega) (by omega) (by omega))
  have tell : m_X5_tell 48 (PR u0 D Wt F) = some (0, CS (PR u0 D Wt F) D Rw La Fi) := by
    have fi := x_fill (kk_51 hsP) (ln_51 hsP) (by decide) (-1)
    rw [← hR0] at fi
    have b8 : hV (hput (PR u0 D Wt F) 51 Rw0) 48 8 = hV u 230 (11 + 3 * p) := by
      rw [hV_put_n (by decide), PR_48, F8]
    have b6 : hV (hput (PR u0 D Wt F) 51 Rw0) 48 6 = (nsU O B : Int) := by
      rw [hV_put_n (by decide), PR_48, x6]
    have t1' : M_X5_follow 12 48 0 (hV u 230 (11 + 3 * p)) (nsU O B) (hput (PR u0 D Wt F) 51 Rw0) = _ := t1
    simp only [m_X5_tell, hgI_k, hgR_k, hpI_k, hpR_k, hpZ_k, haI_k, haR_k, hsI_k, hsZ_k, hlen_k, hlet_p, hret_p, hretZ_0, hretZ_1, hif_p, okk_setV, okk_setF, nV, nF, fV, vF, hcallV_b, hcall_b, hbind_p, kk_48 hsP, rf_48_2 hsP, fi, kk_48 hs5, b8, b6, t1']
  obtain ⟨T, hT⟩ : ∃ T, T = cT (hV u 230) B (hV u 230 (10 + 3 * p)) (nsU O B) (hV u 230 (11 + 3 * p)) D := ⟨_, rfl⟩
  rw [← hT] at t2
  obtain ⟨D', y1, y2⟩ := yfin _ hs1 gC
  have hs3 : shp (hput (CS (PR u0 D Wt F) D Rw La Fi) 238 D') := hs0
  have q230 : hV (hput (CS (PR u0 D Wt F) D Rw La Fi) 238 D') 230 = hV u 230 := by
    rw [hV_put_n (by decide)]
    exact funext fun i => (gC 230 (by omega) i).1
  have X : m_X9_came 1 p w u = some (if w = 0 then T.1 else if w = 1 then (T.2.1 : Int) else T.2.2, CS (PR u0 D Wt F) D Rw La Fi) := by
    have z0 : (0 : Nat) < 256 := by decide
    simp only [m_X9_came, m_X5_rowCount, m_X5_lastOnes, m_X5_lastOfFirst, hgI_k, hgR_k, hpI_k, hpR_k, hpZ_k, haI_k, haR_k, hsI_k, hsZ_k, hlen_k, hlet_p, hret_p, hretZ_0, hretZ_1, hif_p, okk_setV, okk_setF, nV, nF, fV, vF, hcallV_b, hbind_p, haI_0, x_isPerson hs rs, kk_1 hs, kk_48 hs, rf_1_3 hs, rf_1_12 hs, if_pos hp, if_neg n10, if_neg w0', if_pos hw.2, pr, if_pos n11, kk_1 hsP, rf_1_12 hsP, kk_48 hsP, tell, kk_1 hs1, rf_1_12 hs1, kk_48 hs1, rf_48_2 hs1, rf_48_3 hs1, rf_48_4 hs1, kk_51 hs1, kk_52 hs1, kk_53 hs1, ln_51 hs1, ln_52 hs1, ln_53 hs1, z0, CS_51, CS_52, CS_53, t2.1, t2.2.1, t2.2.2]
    by_cases a : w = 0
    · rw [if_pos a, if_pos a]
    · rw [if_neg a, if_neg a]
      by_cases b : w = 1
      · rw [if_pos b, if_pos b]
      · rw [if_neg b, if_neg b]
  have pers0 := y_personOf0 hs3 p4
  have pers1 := y_personOf1 hs3 p4
  rw [q230] at pers0 pers1
  by_cases n0 : nsU O B = 0
  · have T0 : T = (if hV u 230 (11 + 3 * p) = hV u 230 (10 + 3 * p) then 1 else 0, 0, -2) := by
      rw [hT, n0]
      rfl
    refine ⟨_, _, hput (CS (PR u0 D Wt F) D Rw La Fi) 238 D', X, ?_, hs1, ?_, hs3, fun a h1 h2 h3 h4 => (gC a h1).tr (agr.put h4), fun j _ _ _ => by rw [hV_put_n (by decide), (gC 220 (by omega) j).1]⟩
    · rw [y1, T0]
      simp only [m_X10_came_L27, m_X10_came_L127, m_X10_came_L161, hgI_k, hgR_k, hpI_k, hpR_k, hpZ_k, haI_k, haR_k, hsI_k, hsZ_k, hlen_k, hlet_p, hret_p, hretZ_0, hretZ_1, hif_p, okk_setV, okk_setF, nV, nF, fV, vF, hcallV_b, hbind_p, haI_2, kk_220 hs3, rf_220_20 hs3, kk_230 hs3, ln_230 hs3, lt_c 2 160 rfl, q230, hB, pers0, pers1]
      rw [if_pos (Int.le_refl _), if_pos (by omega), if_neg (show ¬ (nsU O B : Int) ≠ 0 by omega)]
      by_cases a : w = 0
      · rw [if_neg (fun y => y a), if_pos a]
        by_cases e : hV u 230 (10 + 3 * p) = hV u 230 (11 + 3 * p)
        · rw [if_neg (fun y => y e), if_pos e.symm]
        · rw [if_pos e, if_neg (fun y => e y.symm)]
      · rw [if_pos a, if_neg a]
        by_cases b : w = 1
        · rw [if_neg (fun y => y b), if_pos b]
          rfl
        · rw [if_pos b, if_neg b]
    · exact (eP.tr (CS_ext _ _ _ _ _)).tr (ext.put _ _ _)
  · have cm : cmC (hput (CS (PR u0 D Wt F) D Rw La Fi) 238 D') (hV u 230) p B (nsU O B) (hV u 230 (10 + 3 * p)) := ⟨hs3, q230, hB, B9, p4, rfl, by omega, few⟩
    obtain ⟨W, fr1⟩ := y_findsRows cm rfl (L := D') (fun b hb => by
      rw [y2 b hb]
      have := (hO' b hb).2
      omega) (hV_put_s _ _ _)
    rw [cT_cg (nsU O B) _ D' D (fun b hb => by rw [y2 b hb, (xd b hb).1]), ← hT] at fr1
    have hs4 : shp (VS (hput (CS (PR u0 D Wt F) D Rw La Fi) 238 D') D' W T) := hs0
    refine ⟨_, _, VS (hput (CS (PR u0 D Wt F) D Rw La Fi) 238 D') D' W T, X, ?_, hs1, ?_, hs4, fun a h1 h2 h3 h4 => ?_, fun j h1 h2 h3 => ?_⟩
    · rw [y1]
      simp only [m_X10_came_L27, m_X10_came_L127, m_X10_came_L161, hgI_k, hgR_k, hpI_k, hpR_k, hpZ_k, haI_k, haR_k, hsI_k, hsZ_k, hlen_k, hlet_p, hret_p, hretZ_0, hretZ_1, hif_p, okk_setV, okk_setF, nV, nF, fV, vF, hcallV_b, hbind_p, haI_2, kk_220 hs3, rf_220_20 hs3, kk_230 hs3, ln_230 hs3, lt_c 2 160 rfl, q230, hB, fr1, kk_220 hs4, VS_34, VS_35, VS_36]
      rw [if_pos (Int.le_refl _), if_pos (by omega), if_pos (show (nsU O B : Int) ≠ 0 by omega)]
      by_cases a : w = 0
      · rw [if_neg (fun y => y a), if_pos a]
      · rw [if_pos a, if_neg a]
        by_cases b : w = 1
        · rw [if_neg (fun y => y b), if_pos b]
        · rw [if_pos b, if_neg b]
    · exact ((eP.tr (CS_ext _ _ _ _ _)).tr (ext.put _ _ _)).tr ((ext.put _ _ _).tr ((ext.put _ _ _).tr (ext.put _ _ _)))
    · refine ((gC a h1).tr (agr.put (g := D') h4)).tr (fun i => ⟨?_, rfl⟩)
      rw [VS_n h4 h3 h2]
    · unfold VS
      rw [hV_put_s, sup_n h3, sup_n h2, sup_n h1, hV_put_n (by decide), (gC 220 (by omega) j).1]
