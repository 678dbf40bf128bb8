/-! days and lives: the class -/
def dyR (B : Int) (P : Nat) : Nat → (Nat → Int) → Int → Nat → Int
  | 0, R, _ => R
  | k + 1, R, x => dyR B P k (qDay (wanR B P 0 R x)) (wanX P x)
def dyX (P : Nat) : Nat → Int → Int
  | 0, x => x
  | k + 1, x => dyX P k (wanX P x)
def dyC (B : Int) (P : Nat) : Nat → (Nat → Int) → Int → Int
  | 0, _, _ => 0
  | k + 1, R, x => wanC B P 0 R x + dyC B P k (qDay (wanR B P 0 R x)) (wanX P x)
def dyG (B : Int) (P : Nat) : Nat → (Nat → Int) → Int → Int
  | 0, _, _ => 0
  | k + 1, R, x => qDayR (wanR B P 0 R x) + dyG B P k (qDay (wanR B P 0 R x)) (wanX P x)
theorem dyX_in (P : Nat) : ∀ k x, 0 ≤ x ∧ x < 2147483648 → 0 ≤ dyX P k x ∧ dyX P k x < 2147483648 := by
  intro k
  induction k with
  | zero =>
    intro x h
    exact h
  | succ k ih =>
    intro x h
    exact ih _ (wanX_in P x h)
theorem qDayR_in {R : Nat → Int} (h : lok R) : 0 ≤ qDayR R ∧ qDayR R ≤ 4000 := by
  have w4 := h.1.2.2.2.2.1
  have w5 := h.1.2.2.2.2.2.1
  rw [clp_n (by decide)] at w4 w5
  have ww : WW R := fun w hw => by
    have z := (h.2.1.2.2.2.2 w (by rw [clp_n (by decide)]; exact hw)).2.2.2
    rw [clp_n (by omega)] at z
    exact z
  have g : ∀ p, 0 ≤ gsum R p (R 5).toNat 0 ∧ gsum R p (R 5).toNat 0 ≤ 99 * ((R 5).toNat : Int) := fun p => gsum_in ww p (R 5).toNat 0 (by omega)
  have lo := sumU_mono (fun _ => 0) (fun p => gsum R p (R 5).toNat 0) (R 4).toNat 0 (fun p _ _ => (g p).1)
  have hi : ∀ k i, sumU (fun p => gsum R p (R 5).toNat 0) k i ≤ 1000 * (k : Int) := by
    intro k
    induction k with
    | zero =>
      intro i
      exact Int.le_refl _
    | succ k ih =>
      intro i
      have a := (g i).2
      have b := ih (i + 1)
      rw [sumU_s]
      omega
  rw [sumU_0] at lo
  have b := hi (R 4).toNat 0
  unfold qDayR
  exact ⟨lo, by omega⟩
theorem qDay_n {R : Nat → Int} (h : lok R) {j : Nat} (h6 : j ≠ 6) (hj : j < 10 ∨ 94 ≤ j) : qDay R j = R j := by
  have w4 := h.1.2.2.2.2.1
  rw [clp_n (by decide)] at w4
  unfold qDay
  rw [sup_n h6, payR_ne _ _ _ _ _ (fun p _ hp e => by omega)]
/-- a row after a day's wandering and the day's end -/
theorem day_ok {B : Int} {P : Nat} {R : Nat → Int} {x : Int} (h : lok R) (hB : R 2 = B) (hP : R 4 = (P : Int)) (h9 : R 6 < 1998) : lok (wanR B P 0 R x) ∧ wanR B P 0 R x 6 = R 6 ∧ lok (qDay (wanR B P 0 R x)) ∧ qDay (wanR B P 0 R x) 2 = B ∧ qDay (wanR B P 0 R x) 4 = (P : Int) ∧ qDay (wanR B P 0 R x) 6 = R 6 + 1 ∧ ∀ j, 94 ≤ j → qDay (wanR B P 0 R x) j = R j := by
  have wo := wanR_ok P 0 R x h hB (by omega)
  have w6 := wo.2 6 (by omega)
  refine ⟨wo.1, w6, (wo.1.day (by omega)).1, ?_, ?_, ?_, fun j hj => ?_⟩
  · rw [qDay_n wo.1 (by decide) (by omega), wo.2 2 (by omega)]
    exact hB
  · rw [qDay_n wo.1 (by decide) (by omega), wo.2 4 (by omega)]
    exact hP
  · rw [qDay_6, w6]
  · rw [qDay_n wo.1 (by omega) (by omega), wo.2 j (by omega)]
theorem x_dyL {t : Nat} (tz : t = 12 ∨ 243 ≤ t) {B : Int} {P D : Nat} (hD : D ≤ 60) (l1 l3 l4 l8 : Int) (K : Nat → Int → Int → Int → Int → Int → Int → Int → hM) : ∀ (k n j : Nat) (R : Nat → Int) (v : hS) (c g : Int), RepS v 35 t (clp R) → lok R → shp v → 0 ≤ hV v 1 9 ∧ hV v 1 9 < 2147483648 → k < n → j + k = D → R 2 = B → R 4 = (P : Int) → R 6 < 1100 + j → 0 ≤ c → c + 4 * k ≤ 10000 → 0 ≤ g → g + 4000 * k ≤ 10000000 → ∃ v', m_X9_lives_L75 K n 1 l1 D l3 l4 c g l8 j v = K 1 l1 D l3 l4 (c + dyC B P k R (hV v 1 9)) (g + dyG B P k R (hV v 1 9)) (w32 (l8 + 1)) v' ∧ hV v' 1 9 = dyX P k (hV v 1 9) ∧ livF v v' := by
  intro k
  induction k with
  | zero =>
    intro n j R v c g r h hs hx hn hj hB hP h6 h0 h1 h2 h3
    obtain ⟨n, rfl⟩ : ∃ k, n = k + 1 := ⟨n - 1, by omega⟩
    refine ⟨v, ?_, rfl, livF.rf hs⟩
    show _ = K 1 l1 D l3 l4 (c + 0) (g + 0) (w32 (l8 + 1)) v
    simp only [m_X9_lives_L75, hgI_k, hgR_k, hpI_k, hpR_k, hpZ_k, haI_k, haR_k, hsI_k, hsZ_k, hlen_k, hlet_p, hret_p, hretZ_0, hretZ_1, hif_p, okk_setV, okk_setF, nV, nF, fV, vF]
    rw [if_pos (by omega), Int.add_zero, Int.add_zero]
  | succ k ih =>
    intro n j R v c g r h hs hx hn hj hB hP h6 h0 h1 h2 h3
    obtain ⟨n, rfl⟩ : ∃ k, n = k + 1 := ⟨n - 1, by omega⟩
    have ht := r.ht
    have w4 := h.1.2.2.2.2.1
    rw [clp_n (by decide)] at w4
    have v2 := r.v2
    rw [clp_n (by decide), hB] at v2
    obtain ⟨v1, a1, a2, a3, a4⟩ := x_wanL tz P 1000000000 0 R v 0 r h hs hx (by omega) (by omega) hB (by omega) (by omega)
    have wn : m_X9_wanderByDraws 1 v = some (wanC B P 0 R (hV v 1 9), v1) := by
      rw [Int.zero_add] at a1
      simp only [m_X9_wanderByDraws, hgI_k, hgR_k, hpI_k, hpR_k, hpZ_k, haI_k, haR_k, hsI_k, hsZ_k, hlen_k, hlet_p, hret_p, hretZ_0, hretZ_1, hif_p, okk_setV, okk_setF, nV, nF, fV, vF, kk_1 hs, kk_35 hs, rf_1_4 hs, r.to, TwA.k0 ht, TwA.k1 ht, TwA.k2 ht, TwA.k3 ht, TwA.k4 ht, TwA.k5 ht, TwA.k6 ht, TwA.k7 ht, TwA.k8 ht, TwA.k9 ht, TwA.k10 ht, TwA.k11 ht, TwA.k12 ht, TwA.k13 ht, TwA.k14 ht, TwA.k15 ht, TwA.k16 ht, TwA.k17 ht, TwA.n2 ht, TwA.n3 ht, TwA.n4 ht, TwA.n6 ht, TwA.n7 ht, TwA.n8 ht, TwA.n9 ht, TwA.n10 ht, TwA.n11 ht, TwA.n12 ht, TwA.n13 ht, TwA.n14 ht, TwA.n15 ht, TwA.n16 ht, TwA.n17 ht, TwA.f2 ht, TwA.f3 ht, TwA.f5 ht, TwA.f6 ht, TwA.f8 ht, TwA.f9 ht, TwA.f11 ht, TwA.f12 ht, TwA.f13 ht, TwA.f14 ht, TwA.f15 ht, TwA.b0 ht, TwA.b1 ht, TwA.b2 ht, TwA.g0 ht, TwA.g1 ht, TwA.g2 ht, v2]
      exact a1
    have dk := day_ok (x := hV v 1 9) h hB hP (by omega)
    have hs1 := a4.2.1
    obtain ⟨v2', b1, b2, b3, b4, b5⟩ := x_endC a2 tz dk.1 (by rw [dk.2.1]; omega)
    have hs2 := b4 hs1
    have x2 : hV v2' 1 9 = wanX P (hV v 1 9) := by
      rw [(b5 1 (by omega) 9).1, a3]
    have ci := wanC_in B P 0 R (hV v 1 9)
    have gi := qDayR_in dk.1
    obtain ⟨v', q1, q2, q3⟩ := ih n (j + 1) _ v2' (c + wanC B P 0 R (hV v 1 9)) (g + qDayR (wanR B P 0 R (hV v 1 9))) b2 dk.2.2.1 hs2 (by rw [x2]; exact wanX_in P _ hx) (by omega) (by omega) dk.2.2.2.1 dk.2.2.2.2.1 (by rw [dk.2.2.2.2.2.1]; omega) (by omega) (by omega) (by omega) (by omega)
    rw [x2] at q1 q2
    refine ⟨v', ?_, q2, (a4.tr (livF.of b3 hs2 b5)).tr q3⟩
    have e1 : w32 (c + wanC B P 0 R (hV v 1 9)) = c + wanC B P 0 R (hV v 1 9) := w32_id ⟨by omega, by omega⟩
    have e2 : w32 (g + qDayR (wanR B P 0 R (hV v 1 9))) = g + qDayR (wanR B P 0 R (hV v 1 9)) := w32_id ⟨by omega, by omega⟩
    show _ = K 1 l1 D l3 l4 (c + (wanC B P 0 R (hV v 1 9) + dyC B P k (qDay (wanR B P 0 R (hV v 1 9))) (wanX P (hV v 1 9)))) (g + (qDayR (wanR B P 0 R (hV v 1 9)) + dyG B P k (qDay (wanR B P 0 R (hV v 1 9))) (wanX P (hV v 1 9)))) (w32 (l8 + 1)) v'
    rw [← Int.add_assoc, ← Int.add_assoc, ← q1]
    simp only [m_X9_lives_L75, hgI_k, hgR_k, hpI_k, hpR_k, hpZ_k, haI_k, haR_k, hsI_k, hsZ_k, hlen_k, hlet_p, hret_p, hretZ_0, hretZ_1, hif_p, okk_setV, okk_setF, nV, nF, fV, vF, hcallV_b, hbind_p, kk_1 hs, wn, kk_1 hs1, kk_35 hs1, rf_1_4 hs1, b1, e1, e2, ix_s (show j < 1000000 by omega)]
    rw [if_neg (by omega)]
def lvX (P D : Nat) : Nat → Int → Int
  | 0, x => x
  | k + 1, x => lvX P D k (dyX P D x)
def lvC (B : Int) (P D : Nat) (S : Nat → Int) : Nat → Int → Int
  | 0, _ => 0
  | k + 1, x => dyC B P D S x + lvC B P D S k (dyX P D x)
def lvG (B : Int) (P D : Nat) (S : Nat → Int) : Nat → Int → Int
  | 0, _ => 0
  | k + 1, x => dyG B P D S x + lvG B P D S k (dyX P D x)
theorem dyC_in (B : Int) (P : Nat) (hP : P ≤ 4) : ∀ k R x, 0 ≤ dyC B P k R x ∧ dyC B P k R x ≤ 4 * k := by
  intro k
  induction k with
  | zero =>
    intro R x
    exact ⟨Int.le_refl _, Int.le_refl _⟩
  | succ k ih =>
    intro R x
    have a := wanC_in B P 0 R x
    have b := ih (qDay (wanR B P 0 R x)) (wanX P x)
    show 0 ≤ wanC B P 0 R x + dyC B P k (qDay (wanR B P 0 R x)) (wanX P x) ∧ wanC B P 0 R x + dyC B P k (qDay (wanR B P 0 R x)) (wanX P x) ≤ 4 * ((k + 1 : Nat) : Int)
    omega
theorem dyG_in {B : Int} {P : Nat} : ∀ (k : Nat) (R : Nat → Int) (x : Int), lok R → R 2 = B → R 4 = (P : Int) → R 6 + k < 1998 → 0 ≤ dyG B P k R x ∧ dyG B P k R x ≤ 4000 * k := by
  intro k
  induction k with
  | zero =>
    intro R x _ _ _ _
    exact ⟨Int.le_refl _, Int.le_refl _⟩
  | succ k ih =>
    intro R x h hB hP h6
    have dk := day_ok (x := x) h hB hP (by omega)
    have a := qDayR_in dk.1
    have b := ih _ (wanX P x) dk.2.2.1 dk.2.2.2.1 dk.2.2.2.2.1 (by rw [dk.2.2.2.2.2.1]; omega)
    show 0 ≤ qDayR (wanR B P 0 R x) + dyG B P k (qDay (wanR B P 0 R x)) (wanX P x) ∧ qDayR (wanR B P 0 R x) + dyG B P k (qDay (wanR B P 0 R x)) (wanX P x) ≤ 4000 * ((k + 1 : Nat) : Int)
    omega
theorem x_lvL {t : Nat} (tz : t = 12 ∨ 243 ≤ t) {B : Int} {P D M : Nat} {S : Nat → Int} (hD : D ≤ 60) (hM : M ≤ 10) (h : lok S) (ws : WS S) (hB : S 2 = B) (hP : S 4 = (P : Int)) (l3 l4 : Int) : ∀ (k n j : Nat) (v : hS) (c g : Int), RepS v 30 t S → shp v → 0 ≤ hV v 1 9 ∧ hV v 1 9 < 2147483648 → k < n → j + k = M → 0 ≤ c → c ≤ 240 * j → 0 ≤ g → g ≤ 240000 * j → ∃ v', m_X9_lives_L55 n 1 M D l3 l4 c g j v = some (if l3 ≠ 0 then g + lvG B P D S k (hV v 1 9) else c + lvC B P D S k (hV v 1 9), hsetV v' 1 9 l4) ∧ livF v v' := by
  intro k
  induction k with
  | zero =>
    intro n j v c g r hs hx hn hj h0 h1 h2 h3
    obtain ⟨n, rfl⟩ : ∃ k, n = k + 1 := ⟨n - 1, by omega⟩
    refine ⟨v, ?_, livF.rf hs⟩
    show _ = some (if l3 ≠ 0 then g + 0 else c + 0, _)
    simp only [m_X9_lives_L55, m_X9_lives_L131, hgI_k, hgR_k, hpI_k, hpR_k, hpZ_k, haI_k, haR_k, hsI_k, hsZ_k, hlen_k, hlet_p, hret_p, hretZ_0, hretZ_1, hif_p, okk_setV, okk_setF, nV, nF, fV, vF, kk_1 hs]
    rw [if_pos (by omega), Int.add_zero, Int.add_zero]
    by_cases e : l3 = 0
    · rw [if_neg (fun z => z e), if_neg (fun z => z e)]
    · rw [if_pos e, if_pos e]
  | succ k ih =>
    intro n j v c g r hs hx hn hj h0 h1 h2 h3
    obtain ⟨n, rfl⟩ : ∃ k, n = k + 1 := ⟨n - 1, by omega⟩
    have w4 := ws.2.2.2.2.1
    have w6 := ws.2.2.2.2.2.2.1
    obtain ⟨v1, c1, c2⟩ := x_copy hs stp_35 stp_30 (by omega)
    have hs1 := c2.2.2.2.2.2.2.2.2
    have r35 := r.cp ws stp_35 c2 (by omega)
    have f1 : livF v v1 := livF.of c2.1 hs1 c2.2.1
    have x1 : hV v1 1 9 = hV v 1 9 := (c2.2.1 1 (by omega) 9).1
    have cS := clp_id (R := S) (by omega)
    obtain ⟨v2, a1, a2, a3⟩ := x_dyL tz (B := B) (P := P) hD M l3 l4 j (m_X9_lives_L55 n) D 1000000000 0 S v1 c g (by rw [cS]; exact r35) h hs1 (by rw [x1]; exact hx) (by omega) (by omega) hB hP (by omega) (by omega) (by omega) (by omega) (by omega)
    rw [x1] at a1 a2
    have hs2 := a3.2.1
    have f2 := f1.tr a3
    have r2 := r.fr f2.1 (fun a _ _ => f2.2.2.1 a (by omega) (by omega)) (fun a _ _ => f2.2.2.1 a (by omega) (by omega))
    have ci := dyC_in B P (by omega) D S (hV v 1 9)
    have gi := dyG_in (B := B) (P := P) D S (hV v 1 9) h hB hP (by omega)
    obtain ⟨v', q1, q2⟩ := ih n (j + 1) v2 _ _ r2 hs2 (by rw [a2]; exact dyX_in P D _ hx) (by omega) (by omega) (show 0 ≤ c + dyC B P D S (hV v 1 9) by omega) (by omega) (show 0 ≤ g + dyG B P D S (hV v 1 9) by omega) (by omega)
    rw [a2] at q1
    refine ⟨v', ?_, f2.tr q2⟩
    show _ = some (if l3 ≠ 0 then g + (dyG B P D S (hV v 1 9) + lvG B P D S k (dyX P D (hV v 1 9))) else c + (dyC B P D S (hV v 1 9) + lvC B P D S k (dyX P D (hV v 1 9))), hsetV v' 1 9 l4)
    rw [← Int.add_assoc, ← Int.add_assoc, ← q1]
    have a1' : m_X9_lives_L75 (m_X9_lives_L55 n) 1000000000 1 M D l3 l4 c g j 0 v1 = _ := a1
    rw [ix_s (show j < 1000000 by omega)] at a1'
    rw [← a1']
    simp only [m_X9_lives_L55, hgI_k, hgR_k, hpI_k, hpR_k, hpZ_k, haI_k, haR_k, hsI_k, hsZ_k, hlen_k, hlet_p, hret_p, hretZ_0, hretZ_1, hif_p, okk_setV, okk_setF, nV, nF, fV, vF, hcallV_b, hbind_p, kk_1 hs, kk_35 hs, rf_1_3 hs, rf_1_4 hs, c1]
    rw [if_neg (by omega)]
