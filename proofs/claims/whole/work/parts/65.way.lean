/-! the first step of a way -/
def fstB (P : Nat → Bool) : Nat → Nat → Int
  | 0, _ => -1
  | k + 1, i => if P i = true then (i : Int) else fstB P k (i + 1)
theorem fstB_s (P : Nat → Bool) (k i : Nat) : fstB P (k + 1) i = if P i = true then (i : Int) else fstB P k (i + 1) := rfl
theorem fstB_cg {P Q : Nat → Bool} : ∀ k i, (∀ b, i ≤ b → b < i + k → P b = Q b) → fstB P k i = fstB Q k i := by
  intro k
  induction k with
  | zero =>
    intro i h
    rfl
  | succ k ih =>
    intro i h
    rw [fstB_s, fstB_s, h i (by omega) (by omega), ih (i + 1) (fun b h1 h2 => h b (by omega) (by omega))]
def stp (S D : Nat → Int) (p q b : Nat) : Prop := qCan S p b ∧ D (qEnd S (94 + 2 * b) q).toNat = D q - 1
theorem x_fsL {u : hS} (hs : shp u) {s t p q : Nat} {S E : Nat → Int} (r0 : RepS u s t S) (sz : 30 ≤ s) (tz : t = 12 ∨ 243 ≤ t) (ws : WS S) (wv : WV S) (hp : (p : Int) < S 4) (hq : S (10 + 3 * p) = (q : Int)) (hE : 0 ≤ E q ∧ E q ≤ 99) (P : Nat → Bool) (hP : ∀ b, P b = true ↔ stp S E p q b) : ∀ (k n i : Nat), k < n → S 2 = ((i + k : Nat) : Int) → m_X4_firstStep_L10 n s p 8 q i (hput u 8 E) = some (fstB P k i, hput u 8 E) := by
  have w0 := ws.1
  have w2 := ws.2.2.1
  have r := r0.fr (ext.put u 8 E) (fun a _ _ => agr.put (by omega)) (fun a _ _ => agr.put (by omega))
  have ht := r.ht
  have ha := r.ha
  have zq := (wv.2.2.1 p hp).1
  have q8 : q < 8 := by omega
  have w1 : w32 (E q - 1) = E q - 1 := w32_id ⟨by omega, by omega⟩
  intro k
  induction k with
  | zero =>
    intro n i hn hv
    obtain ⟨n, rfl⟩ : ∃ k, n = k + 1 := ⟨n - 1, by omega⟩
    simp only [m_X4_firstStep_L10, hgI_k, hgR_k, hpI_k, hpR_k, hpZ_k, haI_k, haR_k, hsI_k, hsZ_k, hlen_k, hlet_p, hret_p, hretZ_0, hretZ_1, hif_p, okk_setV, okk_setF, nV, nF, fV, vF, StA.k0 ha, StA.k1 ha, StA.k2 ha, StA.k3 ha, StA.k4 ha, StA.n1 ha, StA.n2 ha, StA.n3 ha, StA.n4 ha, StA.f2 ha, StA.f3 ha, StA.f4 ha, StA.f5 ha, r.to, TwA.k0 ht, TwA.k1 ht, TwA.k2 ht, TwA.k3 ht, TwA.k4 ht, TwA.k5 ht, TwA.k6 ht, TwA.k7 ht, TwA.k8 ht, TwA.k9 ht, TwA.k10 ht, TwA.k11 ht, TwA.k12 ht, TwA.k13 ht, TwA.k14 ht, TwA.k15 ht, TwA.k16 ht, TwA.k17 ht, TwA.n2 ht, TwA.n3 ht, TwA.n4 ht, TwA.n6 ht, TwA.n7 ht, TwA.n8 ht, TwA.n9 ht, TwA.n10 ht, TwA.n11 ht, TwA.n12 ht, TwA.n13 ht, TwA.n14 ht, TwA.n15 ht, TwA.n16 ht, TwA.n17 ht, TwA.f2 ht, TwA.f3 ht, TwA.f5 ht, TwA.f6 ht, TwA.f8 ht, TwA.f9 ht, TwA.f11 ht, TwA.f12 ht, TwA.f13 ht, TwA.f14 ht, TwA.f15 ht, TwA.b0 ht, TwA.b1 ht, TwA.b2 ht, TwA.g0 ht, TwA.g1 ht, TwA.g2 ht, r.v2]
    rw [if_pos (by omega)]
    rfl
  | succ k ih =>
    intro n i hn hv
    obtain ⟨n, rfl⟩ : ∃ k, n = k + 1 := ⟨n - 1, by omega⟩
    have hi2 : (i : Int) < S 2 := by omega
    have z := wv.1 i hi2
    have cx := x_canCross r ws hp hi2 (qEnd_pos wv hi2)
    have j1 := ih n (i + 1) (by omega) (by omega)
    rw [fstB_s]
    by_cases hc : qCan S p i
    · have h0 := hc.1
      rw [hq] at h0
      obtain ⟨x, hx⟩ : ∃ x : Nat, qEnd S (94 + 2 * i) q = x := ⟨(qEnd S (94 + 2 * i) q).toNat, by omega⟩
      have x8 : x < 8 := by
        rcases qEnd_in (S := S) (a := 94 + 2 * i) (q := q) (by omega) with h | h <;> omega
      simp only [m_X4_firstStep_L10, m_X4_firstStep_L61, hgI_k, hgR_k, hpI_k, hpR_k, hpZ_k, haI_k, haR_k, hsI_k, hsZ_k, hlen_k, hlet_p, hret_p, hretZ_0, hretZ_1, hif_p, okk_setV, okk_setF, nV, nF, fV, vF, okk_put, nP, fP, haI_n, hcallV_b, hbind_s, StA.k0 ha, StA.k1 ha, StA.k2 ha, StA.k3 ha, StA.k4 ha, StA.n1 ha, StA.n2 ha, StA.n3 ha, StA.n4 ha, StA.f2 ha, StA.f3 ha, StA.f4 ha, StA.f5 ha, r.to, TwA.k0 ht, TwA.k1 ht, TwA.k2 ht, TwA.k3 ht, TwA.k4 ht, TwA.k5 ht, TwA.k6 ht, TwA.k7 ht, TwA.k8 ht, TwA.k9 ht, TwA.k10 ht, TwA.k11 ht, TwA.k12 ht, TwA.k13 ht, TwA.k14 ht, TwA.k15 ht, TwA.k16 ht, TwA.k17 ht, TwA.n2 ht, TwA.n3 ht, TwA.n4 ht, TwA.n6 ht, TwA.n7 ht, TwA.n8 ht, TwA.n9 ht, TwA.n10 ht, TwA.n11 ht, TwA.n12 ht, TwA.n13 ht, TwA.n14 ht, TwA.n15 ht, TwA.n16 ht, TwA.n17 ht, TwA.f2 ht, TwA.f3 ht, TwA.f5 ht, TwA.f6 ht, TwA.f8 ht, TwA.f9 ht, TwA.f11 ht, TwA.f12 ht, TwA.f13 ht, TwA.f14 ht, TwA.f15 ht, TwA.b0 ht, TwA.b1 ht, TwA.b2 ht, TwA.g0 ht, TwA.g1 ht, TwA.g2 ht, r.v2, cx.1 hc, x_over r ws hi2, hx, kk_8 hs, ln_8 hs, x8, q8, hV_put_s, w1, ix_s (show i < 1000000 by omega), j1]
      rw [if_neg (by omega), if_neg (by decide)]
      by_cases he : E x = E q - 1
      · rw [if_neg (fun z => z he), if_pos ((hP i).mpr ⟨hc, by rw [hx, Int.toNat_natCast]; exact he⟩)]
      · rw [if_pos he, if_neg (fun z => he (by have y := ((hP i).mp z).2; rw [hx, Int.toNat_natCast] at y; exact y))]
    · simp only [m_X4_firstStep_L10, m_X4_firstStep_L61, hgI_k, hgR_k, hpI_k, hpR_k, hpZ_k, haI_k, haR_k, hsI_k, hsZ_k, hlen_k, hlet_p, hret_p, hretZ_0, hretZ_1, hif_p, okk_setV, okk_setF, nV, nF, fV, vF, hcallV_b, hbind_s, StA.k0 ha, StA.k1 ha, StA.k2 ha, StA.k3 ha, StA.k4 ha, StA.n1 ha, StA.n2 ha, StA.n3 ha, StA.n4 ha, StA.f2 ha, StA.f3 ha, StA.f4 ha, StA.f5 ha, r.to, TwA.k0 ht, TwA.k1 ht, TwA.k2 ht, TwA.k3 ht, TwA.k4 ht, TwA.k5 ht, TwA.k6 ht, TwA.k7 ht, TwA.k8 ht, TwA.k9 ht, TwA.k10 ht, TwA.k11 ht, TwA.k12 ht, TwA.k13 ht, TwA.k14 ht, TwA.k15 ht, TwA.k16 ht, TwA.k17 ht, TwA.n2 ht, TwA.n3 ht, TwA.n4 ht, TwA.n6 ht, TwA.n7 ht, TwA.n8 ht, TwA.n9 ht, TwA.n10 ht, TwA.n11 ht, TwA.n12 ht, TwA.n13 ht, TwA.n14 ht, TwA.n15 ht, TwA.n16 ht, TwA.n17 ht, TwA.f2 ht, TwA.f3 ht, TwA.f5 ht, TwA.f6 ht, TwA.f8 ht, TwA.f9 ht, TwA.f11 ht, TwA.f12 ht, TwA.f13 ht, TwA.f14 ht, TwA.f15 ht, TwA.b0 ht, TwA.b1 ht, TwA.b2 ht, TwA.g0 ht, TwA.g1 ht, TwA.g2 ht, r.v2, cx.2 hc, ix_s (show i < 1000000 by omega), j1, if_true]
      rw [if_neg (by omega), if_neg (fun z => hc ((hP i).mp z).1)]
theorem y_wsL {u : hS} (hs : shp u) (ws : WS (hV u 230)) (wv : WV (hV u 230)) (ex : ∀ b, b < 9 → hV u 231 b = 0) {p q : Nat} (hp : (p : Int) < hV u 230 4) (hq : hV u 230 (10 + 3 * p) = (q : Int)) (hE : 0 < hV u 232 q ∧ hV u 232 q ≤ 99) (P : Nat → Bool) (hP : ∀ b, P b = true ↔ stp (hV u 230) (hV u 232) p q b) : ∀ (k n i : Nat), k < n → hV u 230 2 = ((i + k : Nat) : Int) → m_X10_way_L57 n 220 p (hV u 232 q) i u = some (fstB P k i, u) := by
  have w0 := ws.1
  have w2 := ws.2.2.1
  have w4 := ws.2.2.2.2.1
  have zq := (wv.2.2.1 p hp).1
  have ip : p < 4 := by omega
  have w1 : w32 (hV u 232 q - 1) = hV u 232 q - 1 := w32_id ⟨by omega, by omega⟩
  intro k
  induction k with
  | zero =>
    intro n i hn hv
    obtain ⟨n, rfl⟩ : ∃ k, n = k + 1 := ⟨n - 1, by omega⟩
    simp only [m_X10_way_L57, m_X10_way_L116, hgI_k, hgR_k, hpI_k, hpR_k, hpZ_k, haI_k, haR_k, hsI_k, hsZ_k, hlen_k, hlet_p, hret_p, hretZ_0, hretZ_1, hif_p, okk_setV, okk_setF, nV, nF, fV, vF, haI_2, kk_220 hs, kk_230 hs, rf_220_20 hs, ln_230 hs, lt_c 2 160 rfl]
    rw [if_pos (by omega)]
    rfl
  | succ k ih =>
    intro n i hn hv
    obtain ⟨n, rfl⟩ : ∃ k, n = k + 1 := ⟨n - 1, by omega⟩
    have hi2 : (i : Int) < hV u 230 2 := by omega
    have i9 : i < 9 := by omega
    have z := wv.1 i hi2
    have cy := y_canCross hs ex ip i9
    have j1 := ih n (i + 1) (by omega) (by omega)
    rw [fstB_s]
    by_cases hc : qCan (hV u 230) p i
    · have h0 := hc.1
      rw [hq] at h0
      obtain ⟨x, hx⟩ : ∃ x : Nat, qEnd (hV u 230) (94 + 2 * i) q = x := ⟨(qEnd (hV u 230) (94 + 2 * i) q).toNat, by omega⟩
      have x8 : x < 8 := by
        rcases qEnd_in (S := hV u 230) (a := 94 + 2 * i) (q := q) (by omega) with h | h <;> omega
      simp only [m_X10_way_L57, m_X10_way_L116, m_X10_way_L110, hgI_k, hgR_k, hpI_k, hpR_k, hpZ_k, haI_k, haR_k, hsI_k, hsZ_k, hlen_k, hlet_p, hret_p, hretZ_0, hretZ_1, hif_p, okk_setV, okk_setF, nV, nF, fV, vF, haI_2, haI_n, hcallV_b, hbind_s, kk_220 hs, kk_230 hs, kk_232 hs, rf_220_20 hs, rf_220_23 hs, ln_230 hs, ln_232 hs, lt_c 2 160 rfl, cy.1 hc, y_personOf0 hs ip, y_over hs i9, hq, hx, x8, w1, ix_s (show i < 1000000 by omega), j1]
      rw [if_neg (by omega), if_neg (by omega), if_neg (by decide)]
      by_cases he : hV u 232 x = hV u 232 q - 1
      · rw [if_neg (fun z => z he), if_pos ((hP i).mpr ⟨hc, by rw [hx, Int.toNat_natCast]; exact he⟩)]
      · rw [if_pos he, if_neg (fun z => he (by have y := ((hP i).mp z).2; rw [hx, Int.toNat_natCast] at y; exact y))]
    · simp only [m_X10_way_L57, m_X10_way_L116, m_X10_way_L110, hgI_k, hgR_k, hpI_k, hpR_k, hpZ_k, haI_k, haR_k, hsI_k, hsZ_k, hlen_k, hlet_p, hret_p, hretZ_0, hretZ_1, hif_p, okk_setV, okk_setF, nV, nF, fV, vF, haI_2, hcallV_b, hbind_s, kk_220 hs, kk_230 hs, rf_220_20 hs, ln_230 hs, lt_c 2 160 rfl, cy.2 hc, ix_s (show i < 1000000 by omega), j1, if_true]
      rw [if_neg (by omega), if_neg (by omega), if_neg (fun z => hc ((hP i).mp z).1)]
