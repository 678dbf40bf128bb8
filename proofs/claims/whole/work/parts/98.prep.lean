/-! what is paid at a quarter on a day -/
def gpS (S : Nat → Int) (p : Nat) (q dd : Int) : Nat → Nat → Int
  | 0, _ => 0
  | k + 1, i => (if S (128 + 4 * i) = (p : Int) ∧ S (129 + 4 * i) = q ∧ S (130 + 4 * i) = dd then S (131 + 4 * i) else 0) + gpS S p q dd k (i + 1)
theorem gpS_s (S : Nat → Int) (p : Nat) (q dd : Int) (k i : Nat) : gpS S p q dd (k + 1) i = (if S (128 + 4 * i) = (p : Int) ∧ S (129 + 4 * i) = q ∧ S (130 + 4 * i) = dd then S (131 + 4 * i) else 0) + gpS S p q dd k (i + 1) := rfl
theorem gpS_in {S : Nat → Int} (wv : WW S) (p : Nat) (q dd : Int) : ∀ k i : Nat, ((i + k : Nat) : Int) ≤ S 5 → 0 ≤ gpS S p q dd k i ∧ gpS S p q dd k i ≤ 99 * k := by
  intro k
  induction k with
  | zero =>
    intro i _
    exact ⟨Int.le_refl _, Int.le_refl _⟩
  | succ k ih =>
    intro i h
    have a := ih (i + 1) (by omega)
    have b := wv i (by omega)
    rw [gpS_s]
    split <;> omega
theorem y_payLG {u : hS} (hs : shp u) (w5 : 0 ≤ hV u 230 5 ∧ hV u 230 5 ≤ 8) (wv : WW (hV u 230)) (p : Nat) (q dd : Int) : ∀ (k n i : Nat) (a : Int), k < n → hV u 230 5 = ((i + k : Nat) : Int) → 0 ≤ a → a ≤ 99 * i → m_X10_payAt_L6 n 220 p q dd a i u = some (a + gpS (hV u 230) p q dd k i, u) := by
  intro k
  induction k with
  | zero =>
    intro n i a hn hv h0 h1
    obtain ⟨m, rfl⟩ : ∃ m, n = m + 1 := ⟨n - 1, by omega⟩
    simp only [m_X10_payAt_L6, hgI_k, hgR_k, hpI_k, hpR_k, hpZ_k, haI_k, haR_k, hsI_k, hsZ_k, hlen_k, hlet_e, hret_e, hretZ_0, hretZ_1, hif_e, okk_setV, okk_setF, nV, nF, fV, vF, haI_5, kk_220 hs, kk_230 hs, rf_220_20 hs, ln_230 hs, lt_c 5 160 rfl]
    rw [if_pos (by omega)]
    unfold gpS
    rw [Int.add_zero]
  | succ k ih =>
    intro n i a hn hv h0 h1
    obtain ⟨m, rfl⟩ : ∃ m, n = m + 1 := ⟨n - 1, by omega⟩
    have w := wv i (by omega)
    have hi : i < 8 := by omega
    have i4 : i < 1000000 := by omega
    have i3 : 128 + 4 * i < 1000000 := by omega
    have k0 : 128 + 4 * i < 160 := by omega
    have k1 : 128 + 4 * i + 1 < 160 := by omega
    have k2 : 128 + 4 * i + 2 < 160 := by omega
    have k3 : 128 + 4 * i + 3 < 160 := by omega
    have e1 : 128 + 4 * i + 1 = 129 + 4 * i := by omega
    have e2 : 128 + 4 * i + 2 = 130 + 4 * i := by omega
    have e3 : 128 + 4 * i + 3 = 131 + 4 * i := by omega
    have w1 : w32 (a + 0) = a := by rw [Int.add_zero]; exact w32_id ⟨by omega, by omega⟩
    have w2 : w32 (a + hV u 230 (131 + 4 * i)) = a + hV u 230 (131 + 4 * i) := w32_id ⟨by omega, by omega⟩
    have j1 := ih m (i + 1) a (by omega) (by omega) h0 (by omega)
    have j2 := ih m (i + 1) (a + hV u 230 (131 + 4 * i)) (by omega) (by omega) (by omega) (by omega)
    simp only [m_X10_payAt_L6, m_X10_payAt_L78, m_X10_payAt_L79, hgI_k, hgR_k, hpI_k, hpR_k, hpZ_k, haI_k, haR_k, hsI_k, hsZ_k, hlen_k, hlet_e, hret_e, hretZ_0, hretZ_1, hif_e, okk_setV, okk_setF, nV, nF, fV, vF, haI_5, haI_n, ix_128 hi, ix_s i3, ix_2 i3, ix_3 i3, ix_s i4, kk_220 hs, kk_230 hs, rf_220_20 hs, ln_230 hs, lt_c 5 160 rfl, k0, k1, k2, k3]
    simp only [e1, e2, e3, w1, w2, j1, j2]
    rw [if_neg (by omega), gpS_s]
    by_cases c1 : hV u 230 (128 + 4 * i) = (p : Int)
    · rw [if_neg (fun z => z c1)]
      by_cases c2 : hV u 230 (129 + 4 * i) = q
      · rw [if_neg (fun z => z c2)]
        by_cases c3 : hV u 230 (130 + 4 * i) = dd
        · rw [if_neg (fun z => z c3), if_pos ⟨c1, c2, c3⟩]
          congr 2
          omega
        · rw [if_pos c3, if_neg (fun z => c3 z.2.2), Int.zero_add]
      · rw [if_pos c2, if_neg (fun z => c2 z.2.1), Int.zero_add]
    · rw [if_pos c1, if_neg (fun z => c1 z.1), Int.zero_add]
theorem y_payG {u : hS} (hs : shp u) (w5 : 0 ≤ hV u 230 5 ∧ hV u 230 5 ≤ 8) (wv : WW (hV u 230)) (p : Nat) (q dd : Int) : m_X10_payAt 220 p q dd u = some (gpS (hV u 230) p q dd (hV u 230 5).toNat 0, u) := by
  have h := y_payLG hs w5 wv p q dd (hV u 230 5).toNat 1000000000 0 0 (by omega) (by omega) (by omega) (by omega)
  rw [Int.zero_add] at h
  simp only [m_X10_payAt, hlet_p]
  exact h
/-- what day k from now pays a person in a quarter -/
def gaS (S : Nat → Int) (p k : Nat) (q : Int) : Int := gpS S p q (S 6 + k) (S 5).toNat 0
theorem gaS_in {S : Nat → Int} (ws : WS S) (wv : WV S) (p k : Nat) (q : Int) : 0 ≤ gaS S p k q ∧ gaS S p k q ≤ 800 := by
  have w5 := ws.2.2.2.2.2.1
  have z := gpS_in wv.ww p q (S 6 + k) (S 5).toNat 0 (by omega)
  unfold gaS
  omega
theorem gpS_cg {S R : Nat → Int} (h : ∀ j, 94 ≤ j → R j = S j) (p : Nat) (q dd : Int) : ∀ k i, gpS R p q dd k i = gpS S p q dd k i := by
  intro k
  induction k with
  | zero =>
    intro i
    rfl
  | succ k ih =>
    intro i
    rw [gpS_s, gpS_s, h (128 + 4 * i) (by omega), h (129 + 4 * i) (by omega), h (130 + 4 * i) (by omega), h (131 + 4 * i) (by omega), ih (i + 1)]
/-! the class's plan, made ready -/
theorem x_gaL {u : hS} (hs : shp u) {t p n : Nat} {S : Nat → Int} (rs : RepS u 30 t S) (tz : t = 12 ∨ 243 ≤ t) (ws : WS S) (wv : WV S) (f5 : hF u 40 5 = t) (hn : n ≤ 6) : ∀ (m fl i : Nat) (D : Nat → Int), m < fl → S 5 = ((i + m : Nat) : Int) → (∀ j, j < 48 → 0 ≤ D j ∧ D j ≤ 99 * i) → ∃ D', m_X2_prepare_L56 fl 40 30 p n i (hput u 42 D) = some (0, hput u 42 D') ∧ ∀ k q : Nat, k < n → q < 8 → D' (8 * k + q) = D (8 * k + q) + gpS S p q (S 6 + k) m i := by
  have w0 := ws.1
  have w4 := ws.2.2.2.2.1
  have w5 := ws.2.2.2.2.2.1
  have w6 := ws.2.2.2.2.2.2.1
  have rD : ∀ D, RepS (hput u 42 D) 30 t S := fun D => rs.fr (ext.put u 42 D) (fun a _ _ => agr.put (by omega)) (fun a _ _ => agr.put (by omega))
  intro m
  induction m with
  | zero =>
    intro fl i D hf hv hD
    obtain ⟨fl, rfl⟩ : ∃ x, fl = x + 1 := ⟨fl - 1, by omega⟩
    have r := rD D
    have ht := r.ht
    have ha := r.ha
    refine ⟨D, ?_, fun k q _ _ => ?_⟩
    · simp only [m_X2_prepare_L56, hgI_k, hgR_k, hpI_k, hpR_k, hpZ_k, haI_k, haR_k, hsI_k, hsZ_k, hlen_k, hlet_p, hret_p, hretZ_0, hretZ_1, hif_p, okk_setV, okk_setF, nV, nF, fV, vF, okk_put, nP, fP, kk_40 hs, f5, TwA.k0 ht, TwA.k1 ht, TwA.k2 ht, TwA.k3 ht, TwA.k4 ht, TwA.k5 ht, TwA.k6 ht, TwA.k7 ht, TwA.k8 ht, TwA.k9 ht, TwA.k10 ht, TwA.k11 ht, TwA.k12 ht, TwA.k13 ht, TwA.k14 ht, TwA.k15 ht, TwA.k16 ht, TwA.k17 ht, TwA.n2 ht, TwA.n3 ht, TwA.n4 ht, TwA.n6 ht, TwA.n7 ht, TwA.n8 ht, TwA.n9 ht, TwA.n10 ht, TwA.n11 ht, TwA.n12 ht, TwA.n13 ht, TwA.n14 ht, TwA.n15 ht, TwA.n16 ht, TwA.n17 ht, TwA.f2 ht, TwA.f3 ht, TwA.f5 ht, TwA.f6 ht, TwA.f8 ht, TwA.f9 ht, TwA.f11 ht, TwA.f12 ht, TwA.f13 ht, TwA.f14 ht, TwA.f15 ht, TwA.b0 ht, TwA.b1 ht, TwA.b2 ht, TwA.g0 ht, TwA.g1 ht, TwA.g2 ht, r.v5]
      rw [if_pos (by omega)]
    · show D (8 * k + q) = D (8 * k + q) + 0
      omega
  | succ m ih =>
    intro fl i D hf hv hD
    obtain ⟨fl, rfl⟩ : ∃ x, fl = x + 1 := ⟨fl - 1, by omega⟩
    have r := rD D
    have ht := r.ht
    have ha := r.ha
    have h5 : (i : Int) < S 5 := by omega
    have i8 : i < 8 := by omega
    have wi := wv.2.2.2.2 i h5
    have wa : w32 (S (130 + 4 * i) - S 6) = S (130 + 4 * i) - S 6 := w32_id ⟨by omega, by omega⟩
    by_cases cc : S (128 + 4 * i) = (p : Int) ∧ S 6 ≤ S (130 + 4 * i) ∧ S (130 + 4 * i) < S 6 + n
    · obtain ⟨a, hA⟩ : ∃ a : Nat, S (130 + 4 * i) - S 6 = a := ⟨(S (130 + 4 * i) - S 6).toNat, by omega⟩
      obtain ⟨o, ho⟩ : ∃ o : Nat, S (129 + 4 * i) = o := ⟨(S (129 + 4 * i)).toNat, by omega⟩
      have a48 : 8 * a + o < 48 := by omega
      have a100 : a < 100 := by omega
      have o100 : o < 100 := by omega
      have dj := hD (8 * a + o) a48
      have w1 : w32 (D (8 * a + o) + S (131 + 4 * i)) = D (8 * a + o) + S (131 + 4 * i) := w32_id ⟨by omega, by omega⟩
      obtain ⟨D', d1, d2⟩ := ih fl (i + 1) (sup D (8 * a + o) (D (8 * a + o) + S (131 + 4 * i))) (by omega) (by omega) (fun j hj => by
        have y := hD j hj
        by_cases x : j = 8 * a + o
        · subst x
          rw [sup_s]
          omega
        · rw [sup_n x]
          omega)
      refine ⟨D', ?_, fun k q hk hq => ?_⟩
      · rw [← d1]
        simp only [m_X2_prepare_L56, m_X2_prepare_L144, hgI_k, hgR_k, hpI_k, hpR_k, hpZ_k, haI_k, haR_k, hsI_k, hsZ_k, hlen_k, hlet_p, hret_p, hretZ_0, hretZ_1, hif_p, okk_setV, okk_setF, nV, nF, fV, vF, okk_put, nP, fP, haI_n, hsI_n, kk_40 hs, kk_42 hs, rf_40_1 hs, ln_42 hs, f5, TwA.k0 ht, TwA.k1 ht, TwA.k2 ht, TwA.k3 ht, TwA.k4 ht, TwA.k5 ht, TwA.k6 ht, TwA.k7 ht, TwA.k8 ht, TwA.k9 ht, TwA.k10 ht, TwA.k11 ht, TwA.k12 ht, TwA.k13 ht, TwA.k14 ht, TwA.k15 ht, TwA.k16 ht, TwA.k17 ht, TwA.n2 ht, TwA.n3 ht, TwA.n4 ht, TwA.n6 ht, TwA.n7 ht, TwA.n8 ht, TwA.n9 ht, TwA.n10 ht, TwA.n11 ht, TwA.n12 ht, TwA.n13 ht, TwA.n14 ht, TwA.n15 ht, TwA.n16 ht, TwA.n17 ht, TwA.f2 ht, TwA.f3 ht, TwA.f5 ht, TwA.f6 ht, TwA.f8 ht, TwA.f9 ht, TwA.f11 ht, TwA.f12 ht, TwA.f13 ht, TwA.f14 ht, TwA.f15 ht, TwA.b0 ht, TwA.b1 ht, TwA.b2 ht, TwA.g0 ht, TwA.g1 ht, TwA.g2 ht, StA.k0 ha, StA.k1 ha, StA.k2 ha, StA.k3 ha, StA.k4 ha, StA.n1 ha, StA.n2 ha, StA.n3 ha, StA.n4 ha, StA.f2 ha, StA.f3 ha, StA.f4 ha, StA.f5 ha, r.v5, r.v6, i8, r.wa0 i h5, r.wa1 i h5, r.wa2 i h5, r.wa3 i h5, wa.trans hA, ho, ix_kq a100 o100, a48, hV_put_s, setV_put, w1, hV_put_n (show t + 16 ≠ 42 by omega), ix_s (show i < 1000000 by omega)]
        rw [if_neg (by omega), if_neg (by omega), if_neg (by omega), if_neg (by omega)]
      · rw [d2 k q hk hq, gpS_s]
        by_cases x : 8 * k + q = 8 * a + o
        · have ka : k = a := by omega
          have qo : q = o := by omega
          subst ka
          subst qo
          rw [sup_s, if_pos ⟨cc.1, ho, by omega⟩]
          omega
        · rw [sup_n x, if_neg (fun y => x (by omega))]
          omega
    · obtain ⟨D', d1, d2⟩ := ih fl (i + 1) D (by omega) (by omega) (fun j hj => by
        have y := hD j hj
        omega)
      refine ⟨D', ?_, fun k q hk hq => ?_⟩
      · rw [← d1]
        simp only [m_X2_prepare_L56, m_X2_prepare_L144, hgI_k, hgR_k, hpI_k, hpR_k, hpZ_k, haI_k, haR_k, hsI_k, hsZ_k, hlen_k, hlet_p, hret_p, hretZ_0, hretZ_1, hif_p, okk_setV, okk_setF, nV, nF, fV, vF, okk_put, nP, fP, haI_n, kk_40 hs, kk_42 hs, rf_40_1 hs, ln_42 hs, f5, TwA.k0 ht, TwA.k1 ht, TwA.k2 ht, TwA.k3 ht, TwA.k4 ht, TwA.k5 ht, TwA.k6 ht, TwA.k7 ht, TwA.k8 ht, TwA.k9 ht, TwA.k10 ht, TwA.k11 ht, TwA.k12 ht, TwA.k13 ht, TwA.k14 ht, TwA.k15 ht, TwA.k16 ht, TwA.k17 ht, TwA.n2 ht, TwA.n3 ht, TwA.n4 ht, TwA.n6 ht, TwA.n7 ht, TwA.n8 ht, TwA.n9 ht, TwA.n10 ht, TwA.n11 ht, TwA.n12 ht, TwA.n13 ht, TwA.n14 ht, TwA.n15 ht, TwA.n16 ht, TwA.n17 ht, TwA.f2 ht, TwA.f3 ht, TwA.f5 ht, TwA.f6 ht, TwA.f8 ht, TwA.f9 ht, TwA.f11 ht, TwA.f12 ht, TwA.f13 ht, TwA.f14 ht, TwA.f15 ht, TwA.b0 ht, TwA.b1 ht, TwA.b2 ht, TwA.g0 ht, TwA.g1 ht, TwA.g2 ht, StA.k0 ha, StA.k1 ha, StA.k2 ha, StA.k3 ha, StA.k4 ha, StA.n1 ha, StA.n2 ha, StA.n3 ha, StA.n4 ha, StA.f2 ha, StA.f3 ha, StA.f4 ha, StA.f5 ha, r.v5, r.v6, i8, r.wa0 i h5, r.wa2 i h5, wa, ix_s (show i < 1000000 by omega)]
        rw [if_neg (by omega)]
        by_cases c1 : S (128 + 4 * i) = (p : Int)
        · rw [if_neg (fun y => y c1)]
          by_cases c2 : S (130 + 4 * i) - S 6 < 0
          · rw [if_pos c2]
          · rw [if_neg c2, if_pos (by omega)]
        · rw [if_pos c1]
      · rw [d2 k q hk hq, gpS_s, if_neg (fun y => cc ⟨y.1, by omega, by omega⟩), Int.zero_add]
set_option maxRecDepth 100000 in
theorem no405 : ∀ q ∈ refL, ¬ (q.1 = 40 ∧ q.2.1 = 5) := by decide
theorem shp_set405 {u : hS} {x : Nat} (hs : shp u) : shp (hsetF u 40 5 x) := ⟨hs.1, hs.2.1, fun q hq => by
  show (if q.1 = 40 ∧ q.2.1 = 5 then x else hF u q.1 q.2.1) = q.2.2
  rw [if_neg (no405 q hq)]
  exact hs.2.2 q hq⟩
/-- the plan made ready: its town, its days, its places, what is left, what is paid -/
theorem x_prepare {u : hS} (hs : shp u) {t p n B : Nat} {S : Nat → Int} (rf : RepF u 30 t S) (hp : (p : Int) < S 4) (hn : 1 ≤ n ∧ n ≤ 6) (hB : S 2 = (B : Int)) : ∃ F L G, m_X2_prepare 40 30 p n u = some (0, hput (hput (hput (hsetF u 40 5 t) 40 F) 41 L) 42 G) ∧ F 6 = (n : Int) ∧ F 7 = S (10 + 3 * p) ∧ F 8 = S (11 + 3 * p) ∧ (∀ b, b < B → L b = qLeft S p b) ∧ ∀ k q : Nat, k < n → q < 8 → G (8 * k + q) = gaS S p k q := by
  obtain ⟨rs, tz, rw0, ws, wv⟩ := id rf
  have w2 := ws.2.2.1
  have w4 := ws.2.2.2.2.1
  have w5 := ws.2.2.2.2.2.1
  have p4 : p < 4 := by omega
  obtain ⟨u0, hu0⟩ : ∃ u0, u0 = hsetF u 40 5 t := ⟨_, rfl⟩
  have hs0 : shp u0 := by
    rw [hu0]
    exact shp_set405 hs
  have e0 : ext u u0 := by
    rw [hu0]
    exact ⟨Nat.le_refl _, fun _ _ => ⟨rfl, rfl⟩⟩
  have g0 : ∀ a, a ≠ 40 → agr u u0 a := fun a ha i => by
    rw [hu0]
    refine ⟨rfl, ?_⟩
    show (if a = 40 ∧ i = 5 then t else hF u a i) = hF u a i
    rw [if_neg (fun z => ha z.1)]
  have f5 : hF u0 40 5 = t := by
    rw [hu0]
    show (if 40 = 40 ∧ 5 = 5 then t else hF u 40 5) = t
    rw [if_pos (by decide)]
  have rs0 : RepS u0 30 t S := rs.fr e0 (fun a _ _ => g0 a (by omega)) (fun a _ _ => g0 a (by omega))
  obtain ⟨F, hF0⟩ : ∃ F, F = sup (sup (sup (hV u0 40) 6 (n : Int)) 7 (S (10 + 3 * p))) 8 (S (11 + 3 * p)) := ⟨_, rfl⟩
  have hs1 : shp (hput u0 40 F) := hs0
  have rs1 : RepS (hput u0 40 F) 30 t S := rs0.fr (ext.put u0 40 F) (fun a _ _ => agr.put (by omega)) (fun a _ _ => agr.put (by omega))
  have rsD : ∀ D, RepS (hput (hput u0 40 F) 41 D) 30 t S := fun D => rs1.fr (ext.put _ 41 D) (fun a _ _ => agr.put (by omega)) (fun a _ _ => agr.put (by omega))
  obtain ⟨L, l1, l2, l3⟩ := x_teL rsD ws wv (kk_41 hs1) (ln_41 hs1) (p := p) hp B 1000000000 0 (hV (hput u0 40 F) 41) (by omega) (by omega)
  rw [hput_self] at l1
  have hs2 : shp (hput (hput u0 40 F) 41 L) := hs0
  have fi := x_fill (kk_42 hs2) (ln_42 hs2) (by decide) 0
  have f5' : hF (hput (hput u0 40 F) 41 L) 40 5 = t := f5
  obtain ⟨G, d1, d2⟩ := x_gaL hs2 (p := p) (n := n) (rsD L) tz ws wv f5' hn.2 (S 5).toNat 1000000000 0 (fun j => if j < 48 then 0 else hV (hput (hput u0 40 F) 41 L) 42 j) (by omega) (by omega) (fun j hj => by
    show 0 ≤ (if j < 48 then (0 : Int) else hV (hput (hput u0 40 F) 41 L) 42 j) ∧ (if j < 48 then (0 : Int) else hV (hput (hput u0 40 F) 41 L) 42 j) ≤ 99 * ((0 : Nat) : Int)
    rw [if_pos hj]
    omega)
  rw [← hu0]
  refine ⟨F, L, G, ?_, ?_, ?_, ?_, fun b hb => l3 b (by omega) (by omega), fun k q hk hq => ?_⟩
  · have tl : m_X4_tellLeft 30 p 41 (hput u0 40 F) = some (0, hput (hput u0 40 F) 41 L) := by
      simp only [m_X4_tellLeft, hlet_p]
      exact l1
    have ht := rs.ht
    have ht0 := rs0.ht
    have ha0 := rs0.ha
    have at0 := rs0.at p hp
    have ho0 := rs0.home p hp
    have a1 : ∀ x, hV (hput u0 40 x) (30 + 1) p = S (10 + 3 * p) := fun x => by
      rw [hV_put_n (by decide)]
      exact at0
    have a2 : ∀ x, hV (hput u0 40 x) (t + 11) p = S (11 + 3 * p) := fun x => by
      rw [hV_put_n (by omega)]
      exact ho0
    have d1' : m_X2_prepare_L56 1000000000 40 30 p n 0 (hput (hput (hput u0 40 F) 41 L) 42 (fun j => if j < 48 then 0 else hV (hput (hput u0 40 F) 41 L) 42 j)) = _ := d1
    rw [← d1']
    simp only [m_X2_prepare, hgI_k, hgR_k, hpI_k, hpR_k, hpZ_k, haI_k, haR_k, hsI_k, hsZ_k, hlen_k, hlet_p, hret_p, hretZ_0, hretZ_1, hif_p, okk_setV, okk_setF, nV, nF, fV, vF, haI_n, kk_30 hs, kk_40 hs, rs.to]
    rw [← hu0]
    simp only [hgI_k, hgR_k, hpI_k, hpR_k, hpZ_k, haI_k, haR_k, hsI_k, hsZ_k, hlen_k, hlet_p, hret_p, hretZ_0, hretZ_1, hif_p, okk_setV, okk_setF, nV, nF, fV, vF, okk_put, nP, fP, haI_n, hcallV_b, hcall_b, hbind_p, kk_40 hs0, kk_30 hs0, f5, TwA.k0 ht0, TwA.k1 ht0, TwA.k2 ht0, TwA.k3 ht0, TwA.k4 ht0, TwA.k5 ht0, TwA.k6 ht0, TwA.k7 ht0, TwA.k8 ht0, TwA.k9 ht0, TwA.k10 ht0, TwA.k11 ht0, TwA.k12 ht0, TwA.k13 ht0, TwA.k14 ht0, TwA.k15 ht0, TwA.k16 ht0, TwA.k17 ht0, TwA.n2 ht0, TwA.n3 ht0, TwA.n4 ht0, TwA.n6 ht0, TwA.n7 ht0, TwA.n8 ht0, TwA.n9 ht0, TwA.n10 ht0, TwA.n11 ht0, TwA.n12 ht0, TwA.n13 ht0, TwA.n14 ht0, TwA.n15 ht0, TwA.n16 ht0, TwA.n17 ht0, TwA.f2 ht0, TwA.f3 ht0, TwA.f5 ht0, TwA.f6 ht0, TwA.f8 ht0, TwA.f9 ht0, TwA.f11 ht0, TwA.f12 ht0, TwA.f13 ht0, TwA.f14 ht0, TwA.f15 ht0, TwA.b0 ht0, TwA.b1 ht0, TwA.b2 ht0, TwA.g0 ht0, TwA.g1 ht0, TwA.g2 ht0, StA.k0 ha0, StA.k1 ha0, StA.k2 ha0, StA.k3 ha0, StA.k4 ha0, StA.n1 ha0, StA.n2 ha0, StA.n3 ha0, StA.n4 ha0, StA.f2 ha0, StA.f3 ha0, StA.f4 ha0, StA.f5 ha0, p4, setV_put1 u0, setV_put, a1, a2]
    rw [← hF0]
    simp only [hgI_k, hgR_k, hpI_k, hpR_k, hpZ_k, haI_k, haR_k, hsI_k, hsZ_k, hlen_k, hlet_p, hret_p, hretZ_0, hretZ_1, hif_p, okk_setV, okk_setF, nV, nF, fV, vF, okk_put, nP, fP, hcallV_b, hcall_b, hbind_p, kk_30 hs0, kk_40 hs0, rf_40_0 hs0, rf_40_1 hs0, tl, fi]
  · rw [hF0, sup_n (by decide), sup_n (by decide), sup_s]
  · rw [hF0, sup_n (by decide), sup_s]
  · rw [hF0, sup_s]
  · have z := d2 k q hk hq
    rw [if_pos (by omega), Int.zero_add] at z
    exact z
