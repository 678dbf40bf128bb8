/-! the class's story told -/
theorem x_fol5 {u : hS} {t B : Nat} {S : Nat → Int} {O : Nat → Nat} {home fin : Int} (c : stoC u t B S O fin) (O9 : ∀ b, b < B → O b ≤ 9) : ∀ (d fl : Nat) (q : Int) (L Rw La Fi : Nat → Int), d < fl → d ≤ 8 → vlL B O L → sumU L B 0 = (d : Int) → parS S B home O q L → memC S B home fin O (hpL O B L) Rw La Fi → ∃ Rw' La' Fi', M_X5_follow fl 48 (hpL O B L) q d (CS u L Rw La Fi) = some (0, CS u L Rw' La' Fi') ∧ okZ Rw' La' Fi' (hpL O B L) (cT S B fin d q L) ∧ memC S B home fin O (hpL O B L) Rw' La' Fi' ∧ ∀ j, j < hpL O B L → Rw' j = Rw j ∧ La' j = La j ∧ Fi' j = Fi j := by
  obtain ⟨hs, rf, f5, hB, hw, v7, v9, w256⟩ := id c
  have w2 := rf.2.2.2.1.2.2.1
  have k : ∀ (L Rw La Fi : Nat → Int), shp (CS u L Rw La Fi) := fun _ _ _ _ => hs
  have k48 : ∀ (L Rw La Fi : Nat → Int), okk (CS u L Rw La Fi) 48 5 := fun L Rw La Fi => kk_48 (k L Rw La Fi)
  have k51 : ∀ (L Rw La Fi : Nat → Int), okk (CS u L Rw La Fi) 51 20 := fun L Rw La Fi => kk_51 (k L Rw La Fi)
  have k52 : ∀ (L Rw La Fi : Nat → Int), okk (CS u L Rw La Fi) 52 20 := fun L Rw La Fi => kk_52 (k L Rw La Fi)
  have k53 : ∀ (L Rw La Fi : Nat → Int), okk (CS u L Rw La Fi) 53 20 := fun L Rw La Fi => kk_53 (k L Rw La Fi)
  have n51 : ∀ (L Rw La Fi : Nat → Int), hN (CS u L Rw La Fi) 51 = 256 := fun L Rw La Fi => ln_51 (k L Rw La Fi)
  have n52 : ∀ (L Rw La Fi : Nat → Int), hN (CS u L Rw La Fi) 52 = 256 := fun L Rw La Fi => ln_52 (k L Rw La Fi)
  have n53 : ∀ (L Rw La Fi : Nat → Int), hN (CS u L Rw La Fi) 53 = 256 := fun L Rw La Fi => ln_53 (k L Rw La Fi)
  have f9 : ∀ (L Rw La Fi : Nat → Int), hV (CS u L Rw La Fi) 48 9 = fin := fun L Rw La Fi => by
    rw [CS_n (by decide) (by decide) (by decide) (by decide), v9]
  intro d
  induction d with
  | zero =>
    intro fl q L Rw La Fi hf _ v hd pq mm
    obtain ⟨fl, rfl⟩ : ∃ x, fl = x + 1 := ⟨fl - 1, by omega⟩
    have hlt : hpL O B L < hpW O B := hpS_lt B (fun c _ => show usd O L c ≤ O c by unfold usd; omega)
    have h256 : hpL O B L < 256 := by omega
    refine ⟨sup Rw (hpL O B L) (if q = fin then 1 else 0), sup La (hpL O B L) 0, sup Fi (hpL O B L) (-2), ?_, ⟨sup_s, sup_s, sup_s⟩, fun L' q' vL pL hl => ?_, fun j hj => ⟨sup_n (by omega), sup_n (by omega), sup_n (by omega)⟩⟩
    · show m_X5_follow (M_X5_follow fl) 48 (hpL O B L) q 0 (CS u L Rw La Fi) = _
      simp only [m_X5_follow, m_X5_follow_L21, m_X5_follow_L22, hgI_k, hgR_k, hpI_k, hpR_k, hpZ_k, haI_k, haR_k, hsI_k, hsZ_k, hlen_k, hlet_p, hret_p, hretZ_0, hretZ_1, hif_p, okk_setV, okk_setF, nV, nF, fV, vF, hsI_n, k48, k51, k52, k53, n51, n52, n53, h256, CS_F, rf_48_2 hs, rf_48_3 hs, rf_48_4 hs, f9, CS_R, CS_La, CS_Fi]
      rw [if_neg (by decide)]
      by_cases y : q = fin
      · rw [if_neg (fun x => x y), if_neg (by decide), if_pos y]
      · rw [if_pos y, if_neg (by decide), if_neg y]
    · have y := mm L' q' vL pL hl
      unfold okZ at y ⊢
      rw [sup_n (by omega), sup_n (by omega), sup_n (by omega)]
      exact y
  | succ d ih =>
    intro fl q L Rw La Fi hf d8 v hd pq mm
    obtain ⟨fl, rfl⟩ : ∃ x, fl = x + 1 := ⟨fl - 1, by omega⟩
    have hlt : hpL O B L < hpW O B := hpS_lt B (fun c _ => show usd O L c ≤ O c by unfold usd; omega)
    have h256 : hpL O B L < 256 := by omega
    obtain ⟨Rw', La', Fi', a1, a2, a3, a4⟩ := x_f5L (home := home) c (M_X5_follow fl) (d := d) (by omega) v hd pq O9 (fun q' L' Rw La Fi v' s' p' m' => ih fl q' L' Rw La Fi (by omega) (by omega) v' s' p' m') B 1000000000 0 (0, 0, -2) (sup Rw (hpL O B L) 0) (sup La (hpL O B L) 0) (sup Fi (hpL O B L) (-2)) (by omega) (by omega) ⟨show (0 : Int) ≤ 0 by decide, by simp, show (0 : Nat) < 512 by decide, show (-2 : Int) ≤ -2 by decide, show (-2 : Int) < 9 by decide⟩ ⟨sup_s, sup_s, sup_s⟩ (fun L' q' vL pL hl => by
      have y := mm L' q' vL pL hl
      unfold okZ at y ⊢
      rw [sup_n (by omega), sup_n (by omega), sup_n (by omega)]
      exact y)
    refine ⟨Rw', La', Fi', ?_, a2, a3, fun j hj => ?_⟩
    · show m_X5_follow (M_X5_follow fl) 48 (hpL O B L) q ((d + 1 : Nat) : Int) (CS u L Rw La Fi) = _
      have a1' : m_X5_follow_L46 (M_X5_follow fl) 1000000000 48 (hpL O B L) q ((d + 1 : Nat) : Int) 0 (CS u L (sup Rw (hpL O B L) 0) (sup La (hpL O B L) 0) (sup Fi (hpL O B L) (-2))) = _ := a1
      rw [← a1']
      simp only [m_X5_follow, m_X5_follow_L21, m_X5_follow_L22, hgI_k, hgR_k, hpI_k, hpR_k, hpZ_k, haI_k, haR_k, hsI_k, hsZ_k, hlen_k, hlet_p, hret_p, hretZ_0, hretZ_1, hif_p, okk_setV, okk_setF, nV, nF, fV, vF, hsI_n, k48, k51, k52, k53, n51, n52, n53, h256, CS_F, rf_48_2 hs, rf_48_3 hs, rf_48_4 hs, f9, CS_R, CS_La, CS_Fi]
      rw [if_pos (show ((d + 1 : Nat) : Int) ≠ 0 by omega), if_pos (show ((d + 1 : Nat) : Int) > 0 by omega)]
    · have y := a4 j hj
      rw [sup_n (by omega), sup_n (by omega), sup_n (by omega)] at y
      exact y
/-! the story made ready -/
def nsU (O : Nat → Nat) : Nat → Nat
  | 0 => 0
  | b + 1 => nsU O b + O b
theorem hpW_le (O : Nat → Nat) : ∀ b, hpW O b ≤ 2 ^ nsU O b := by
  intro b
  induction b with
  | zero => exact Nat.le_refl _
  | succ b ih =>
    show hpW O b * (O b + 1) ≤ 2 ^ (nsU O b + O b)
    rw [Nat.pow_add]
    exact Nat.mul_le_mul ih (Nat.lt_two_pow_self)
theorem nsU_sum {O : Nat → Nat} {L : Nat → Int} : ∀ k i, (∀ b, i ≤ b → b < i + k → L b = (O b : Int)) → sumU L k i = (nsU O (i + k) : Int) - (nsU O i : Int) := by
  intro k
  induction k with
  | zero =>
    intro i _
    show (0 : Int) = _
    rw [Nat.add_zero]
    omega
  | succ k ih =>
    intro i h
    have e : nsU O (i + 1) = nsU O i + O i := rfl
    rw [sumU_s, ih (i + 1) (fun b h1 h2 => h b (by omega) (by omega)), h i (by omega) (by omega), show i + 1 + k = i + (k + 1) by omega]
    omega
def PR (u : hS) (D Wt F : Nat → Int) : hS := hput (hput (hput u 49 D) 50 Wt) 48 F
theorem PR_49 (u : hS) (D Wt F : Nat → Int) : hV (PR u D Wt F) 49 = D := by
  unfold PR
  rw [hV_put_n (by decide), hV_put_n (by decide), hV_put_s]
theorem PR_48 (u : hS) (D Wt F : Nat → Int) : hV (PR u D Wt F) 48 = F := by
  unfold PR
  rw [hV_put_s]
theorem PR_D (u : hS) (D Wt F : Nat → Int) (i : Nat) (x : Int) : hsetV (PR u D Wt F) 49 i x = PR u (sup D i x) Wt F := by
  rw [setV_put1, PR_49]
  unfold PR
  rw [put_comm (show 48 ≠ 49 by decide), put_comm (show 50 ≠ 49 by decide), hput_put]
theorem PR_W (u : hS) (D Wt F : Nat → Int) (i : Nat) (x : Int) : hsetV (PR u D Wt F) 50 i x = PR u D (sup Wt i x) F := by
  unfold PR
  rw [setV_put1, hV_put_n (show 50 ≠ 48 by decide), hV_put_s, put_comm (show 48 ≠ 50 by decide), hput_put]
theorem PR_F (u : hS) (D Wt F : Nat → Int) (i : Nat) (x : Int) : hsetV (PR u D Wt F) 48 i x = PR u D Wt (sup F i x) := by
  unfold PR
  rw [setV_put]
theorem PR_n {u : hS} {D Wt F : Nat → Int} {a : Nat} (h : a ≠ 48) (h1 : a ≠ 49) (h2 : a ≠ 50) : hV (PR u D Wt F) a = hV u a := by
  unfold PR
  rw [hV_put_n h, hV_put_n h2, hV_put_n h1]
theorem PR_hF (u : hS) (D Wt F : Nat → Int) : hF (PR u D Wt F) = hF u := Eq.trans (b := hF u) rfl rfl
theorem PR_agr {u : hS} {D Wt F : Nat → Int} {a : Nat} (h : a ≠ 48) (h1 : a ≠ 49) (h2 : a ≠ 50) : agr u (PR u D Wt F) a := (agr.put h1).tr ((agr.put h2).tr (agr.put h))
theorem PR_ext (u : hS) (D Wt F : Nat → Int) : ext u (PR u D Wt F) := (ext.put _ _ _).tr ((ext.put _ _ _).tr (ext.put _ _ _))
theorem nsU_mono (O : Nat → Nat) : ∀ k b, nsU O b ≤ nsU O (b + k) := by
  intro k
  induction k with
  | zero =>
    intro b
    exact Nat.le_refl _
  | succ k ih =>
    intro b
    have z := ih b
    show nsU O b ≤ nsU O (b + k) + O (b + k)
    omega
theorem x_pr5 {u : hS} (hs : shp u) {t p B : Nat} {S : Nat → Int} {O : Nat → Nat} (rs : RepS u 30 t S) (tz : t = 12 ∨ 243 ≤ t) (ws : WS S) (hp : (p : Int) < S 4) (hB : S 2 = (B : Int)) (f5 : hF u 48 5 = t + 1) (hO : ∀ b, b < B → S (58 + 9 * p + b) = (O b : Int) ∧ O b ≤ 9) : ∀ (k fl i : Nat) (D Wt F : Nat → Int), k < fl → i + k = B → F 6 = (nsU O i : Int) → hpW O i ≤ 2560 → (∀ b, b < i → D b = (O b : Int) ∧ Wt b = (hpW O b : Int)) → ∃ D' Wt' F', m_X5_prepare_L44 fl 48 30 p (hpW O i) i (PR u D Wt F) = some (if nsU O B ≤ 8 then 1 else 0, PR u D' Wt' F') ∧ (nsU O B ≤ 8 → (∀ b, b < B → D' b = (O b : Int) ∧ Wt' b = (hpW O b : Int)) ∧ F' 6 = (nsU O B : Int) ∧ F' 7 = (hpW O B : Int) - 1) ∧ F' 8 = F 8 ∧ F' 9 = F 9 := by
  have w2 := ws.2.2.1
  have w4 := ws.2.2.2.2.1
  have p4 : p < 4 := by omega
  have rP : ∀ D Wt F, RepS (PR u D Wt F) 30 t S := fun D Wt F => rs.fr (PR_ext u D Wt F) (fun a _ _ => PR_agr (by omega) (by omega) (by omega)) (fun a _ _ => PR_agr (by omega) (by omega) (by omega))
  have sP : ∀ D Wt F, shp (PR u D Wt F) := fun _ _ _ => hs
  have k48 : ∀ D Wt F, okk (PR u D Wt F) 48 5 := fun D Wt F => kk_48 (sP D Wt F)
  have k49 : ∀ D Wt F, okk (PR u D Wt F) 49 20 := fun D Wt F => kk_49 (sP D Wt F)
  have k50 : ∀ D Wt F, okk (PR u D Wt F) 50 20 := fun D Wt F => kk_50 (sP D Wt F)
  have n49 : ∀ D Wt F, hN (PR u D Wt F) 49 = 9 := fun D Wt F => ln_49 (sP D Wt F)
  have n50 : ∀ D Wt F, hN (PR u D Wt F) 50 = 9 := fun D Wt F => ln_50 (sP D Wt F)
  have fin : ∀ (x : Nat) (D Wt F : Nat → Int) (v : Int), F 6 = v → 1 ≤ x → x ≤ 2560 → m_X5_prepare_L126 48 x (PR u D Wt F) = some (if v > 8 then 0 else 1, PR u D Wt (sup F 7 ((x : Int) - 1))) := fun x D Wt F v h6 hx0 hx => by
    have w1 : w32 ((x : Int) - 1) = (x : Int) - 1 := w32_id ⟨by omega, by omega⟩
    have e6 : sup F 7 ((x : Int) - 1) 6 = v := by
      rw [sup_n (by decide), h6]
    simp only [m_X5_prepare_L126, m_X5_prepare_L147, hgI_k, hgR_k, hpI_k, hpR_k, hpZ_k, haI_k, haR_k, hsI_k, hsZ_k, hlen_k, hlet_p, hret_p, hretZ_0, hretZ_1, hif_p, okk_setV, okk_setF, nV, nF, fV, vF, k48, w1, PR_F, PR_48, e6]
    split <;> rfl
  intro k
  induction k with
  | zero =>
    intro fl i D Wt F hf hi h6 h17 hD
    obtain ⟨fl, rfl⟩ : ∃ x, fl = x + 1 := ⟨fl - 1, by omega⟩
    obtain rfl : i = B := by omega
    have r := rP D Wt F
    have ht := r.ht
    have v2 := r.v2
    have fi := fin (hpW O i) D Wt F (nsU O i) h6 (hpW_pos O i) h17
    refine ⟨D, Wt, sup F 7 ((hpW O i : Int) - 1), ?_, fun _ => ⟨hD, by rw [sup_n (by decide)]; exact h6, sup_s⟩, sup_n (by decide), sup_n (by decide)⟩
    simp only [m_X5_prepare_L44, hgI_k, hgR_k, hpI_k, hpR_k, hpZ_k, haI_k, haR_k, hsI_k, hsZ_k, hlen_k, hlet_p, hret_p, hretZ_0, hretZ_1, hif_p, okk_setV, okk_setF, nV, nF, fV, vF, k48, PR_hF, f5, TwA.k0 ht, TwA.k1 ht, TwA.k2 ht, TwA.k3 ht, TwA.k4 ht, TwA.k5 ht, TwA.k6 ht, TwA.k7 ht, TwA.k8 ht, TwA.k9 ht, TwA.k10 ht, TwA.k11 ht, TwA.k12 ht, TwA.k13 ht, TwA.k14 ht, TwA.k15 ht, TwA.k16 ht, TwA.k17 ht, TwA.n2 ht, TwA.n3 ht, TwA.n4 ht, TwA.n6 ht, TwA.n7 ht, TwA.n8 ht, TwA.n9 ht, TwA.n10 ht, TwA.n11 ht, TwA.n12 ht, TwA.n13 ht, TwA.n14 ht, TwA.n15 ht, TwA.n16 ht, TwA.n17 ht, TwA.f2 ht, TwA.f3 ht, TwA.f5 ht, TwA.f6 ht, TwA.f8 ht, TwA.f9 ht, TwA.f11 ht, TwA.f12 ht, TwA.f13 ht, TwA.f14 ht, TwA.f15 ht, TwA.b0 ht, TwA.b1 ht, TwA.b2 ht, TwA.g0 ht, TwA.g1 ht, TwA.g2 ht, v2, hB, fi]
    rw [if_pos (by omega)]
    by_cases y : nsU O i ≤ 8
    · rw [if_neg (by omega), if_pos y]
    · rw [if_pos (by omega), if_neg y]
  | succ k ih =>
    intro fl i D Wt F hf hi h6 h17 hD
    obtain ⟨fl, rfl⟩ : ∃ x, fl = x + 1 := ⟨fl - 1, by omega⟩
    have r := rP D Wt F
    have ht := r.ht
    have ha := r.ha
    have v2 := r.v2
    have iB : i < B := by omega
    have i9 : i < 9 := by omega
    by_cases big : nsU O i ≤ 8
    case neg =>
      have mo := nsU_mono O (k + 1) i
      rw [show i + (k + 1) = B by omega] at mo
      have fi := fin (hpW O i) D Wt F (nsU O i) h6 (hpW_pos O i) h17
      refine ⟨D, Wt, sup F 7 ((hpW O i : Int) - 1), ?_, fun y => by omega, sup_n (by decide), sup_n (by decide)⟩
      simp only [m_X5_prepare_L44, hgI_k, hgR_k, hpI_k, hpR_k, hpZ_k, haI_k, haR_k, hsI_k, hsZ_k, hlen_k, hlet_p, hret_p, hretZ_0, hretZ_1, hif_p, okk_setV, okk_setF, nV, nF, fV, vF, k48, PR_hF, f5, TwA.k0 ht, TwA.k1 ht, TwA.k2 ht, TwA.k3 ht, TwA.k4 ht, TwA.k5 ht, TwA.k6 ht, TwA.k7 ht, TwA.k8 ht, TwA.k9 ht, TwA.k10 ht, TwA.k11 ht, TwA.k12 ht, TwA.k13 ht, TwA.k14 ht, TwA.k15 ht, TwA.k16 ht, TwA.k17 ht, TwA.n2 ht, TwA.n3 ht, TwA.n4 ht, TwA.n6 ht, TwA.n7 ht, TwA.n8 ht, TwA.n9 ht, TwA.n10 ht, TwA.n11 ht, TwA.n12 ht, TwA.n13 ht, TwA.n14 ht, TwA.n15 ht, TwA.n16 ht, TwA.n17 ht, TwA.f2 ht, TwA.f3 ht, TwA.f5 ht, TwA.f6 ht, TwA.f8 ht, TwA.f9 ht, TwA.f11 ht, TwA.f12 ht, TwA.f13 ht, TwA.f14 ht, TwA.f15 ht, TwA.b0 ht, TwA.b1 ht, TwA.b2 ht, TwA.g0 ht, TwA.g1 ht, TwA.g2 ht, v2, hB, fi, PR_48, h6]
      rw [if_neg (by omega), if_pos (by omega), if_pos (by omega), if_neg (by omega)]
    have le := hpW_le O i
    have p8 : 2 ^ nsU O i ≤ 2 ^ 8 := Nat.pow_le_pow_right (by decide) big
    have e8 : (2 : Nat) ^ 8 = 256 := by decide
    obtain ⟨o1, o2⟩ := hO i iB
    have sin := r.sin p i hp (by omega)
    have i36 : 9 * p + i < 36 := by omega
    have m10 : hpW O i * (O i + 1) ≤ 256 * 10 := Nat.mul_le_mul (by omega) (by omega)
    have en : nsU O (i + 1) = nsU O i + O i := rfl
    have ew : hpW O (i + 1) = hpW O i * (O i + 1) := rfl
    have wi : True → w32 (w32 ((p : Int) * 9) + (i : Int)) = ((9 * p + i : Nat) : Int) := by
      intro _
      rw [w32_id (x := (p : Int) * 9) ⟨by omega, by omega⟩, w32_id ⟨by omega, by omega⟩]
      omega
    have w6 : True → w32 ((nsU O i : Int) + (O i : Int)) = (nsU O (i + 1) : Int) := by
      intro _
      rw [w32_id ⟨by omega, by omega⟩]
      omega
    have wo : True → w32 ((O i : Int) + 1) = ((O i + 1 : Nat) : Int) := fun _ => ix_s (by omega)
    have wp : True → w32 ((hpW O i : Int) * ((O i + 1 : Nat) : Int)) = (hpW O (i + 1) : Int) := by
      intro _
      rw [ew, ← Int.natCast_mul]
      exact w32_id ⟨by omega, by omega⟩
    obtain ⟨D', Wt', F', a1, a2, a3, a4⟩ := ih fl (i + 1) (sup D i (O i : Int)) (sup Wt i (hpW O i : Int)) (sup F 6 (nsU O (i + 1) : Int)) (by omega) (by omega) sup_s (by omega) (fun b hb => by
      by_cases e : b = i
      · rw [e, sup_s, sup_s]
        exact ⟨rfl, rfl⟩
      · rw [sup_n e, sup_n e]
        exact hD b (by omega))
    refine ⟨D', Wt', F', ?_, a2, by rw [a3, sup_n (by decide)], by rw [a4, sup_n (by decide)]⟩
    rw [← a1]
    have s1 : hV (PR u D Wt F) (30 + 4) (9 * p + i) = (O i : Int) := by
      rw [sin, o1]
    simp only [m_X5_prepare_L44, hgI_k, hgR_k, hpI_k, hpR_k, hpZ_k, haI_k, haR_k, hsI_k, hsZ_k, hlen_k, hlet_p, hret_p, hretZ_0, hretZ_1, hif_p, okk_setV, okk_setF, nV, nF, fV, vF, haI_n, hsI_n, k48, k49, k50, n49, n50, i9, PR_hF, f5, TwA.k0 ht, TwA.k1 ht, TwA.k2 ht, TwA.k3 ht, TwA.k4 ht, TwA.k5 ht, TwA.k6 ht, TwA.k7 ht, TwA.k8 ht, TwA.k9 ht, TwA.k10 ht, TwA.k11 ht, TwA.k12 ht, TwA.k13 ht, TwA.k14 ht, TwA.k15 ht, TwA.k16 ht, TwA.k17 ht, TwA.n2 ht, TwA.n3 ht, TwA.n4 ht, TwA.n6 ht, TwA.n7 ht, TwA.n8 ht, TwA.n9 ht, TwA.n10 ht, TwA.n11 ht, TwA.n12 ht, TwA.n13 ht, TwA.n14 ht, TwA.n15 ht, TwA.n16 ht, TwA.n17 ht, TwA.f2 ht, TwA.f3 ht, TwA.f5 ht, TwA.f6 ht, TwA.f8 ht, TwA.f9 ht, TwA.f11 ht, TwA.f12 ht, TwA.f13 ht, TwA.f14 ht, TwA.f15 ht, TwA.b0 ht, TwA.b1 ht, TwA.b2 ht, TwA.g0 ht, TwA.g1 ht, TwA.g2 ht, StA.k0 ha, StA.k1 ha, StA.k2 ha, StA.k3 ha, StA.k4 ha, StA.n1 ha, StA.n2 ha, StA.n3 ha, StA.n4 ha, StA.f2 ha, StA.f3 ha, StA.f4 ha, StA.f5 ha, rf_48_0 hs, rf_48_1 hs, v2, hB, PR_48, h6, wi trivial, i36, s1, PR_D, PR_49, sup_s, w6 trivial, PR_F, PR_W, wo trivial, wp trivial, ix_s (show i < 1000000 by omega)]
    rw [if_neg (by omega), if_neg (by omega)]
