theorem x_paidL {u : hS} {s t : Nat} {S : Nat → Int} (r : RepS u s t S) (ws : WS S) : ∀ (k n i : Nat) (a : Int), k < n → S 4 = ((i + k : Nat) : Int) → m_X4_paidToAll_L4 n s a i u = some (accN (fun p a => w32 (a + S (12 + 3 * p))) k i a, u) := by
  have ht := r.ht
  have ha := r.ha
  have w4 := ws.2.2.2.2.1
  intro k
  induction k with
  | zero =>
    intro n i a hn hb
    obtain ⟨m, rfl⟩ : ∃ m, n = m + 1 := ⟨n - 1, by omega⟩
    simp only [m_X4_paidToAll_L4, hgI_k, hgR_k, hpI_k, hpR_k, hpZ_k, haI_k, haR_k, hsI_k, hsZ_k, hlen_k, hlet_e, hret_e, hretZ_0, hretZ_1, hif_e, okk_setV, okk_setF, nV, nF, fV, vF, StA.k0 ha, StA.k1 ha, StA.k2 ha, StA.k3 ha, StA.k4 ha, StA.n1 ha, StA.n2 ha, StA.n3 ha, StA.n4 ha, StA.f2 ha, StA.f3 ha, StA.f4 ha, StA.f5 ha, r.to, TwA.k0 ht, TwA.k1 ht, TwA.k2 ht, TwA.k3 ht, TwA.k4 ht, TwA.k5 ht, TwA.k6 ht, TwA.k7 ht, TwA.k8 ht, TwA.k9 ht, TwA.k10 ht, TwA.k11 ht, TwA.k12 ht, TwA.k13 ht, TwA.k14 ht, TwA.k15 ht, TwA.k16 ht, TwA.k17 ht, TwA.n2 ht, TwA.n3 ht, TwA.n4 ht, TwA.n6 ht, TwA.n7 ht, TwA.n8 ht, TwA.n9 ht, TwA.n10 ht, TwA.n11 ht, TwA.n12 ht, TwA.n13 ht, TwA.n14 ht, TwA.n15 ht, TwA.n16 ht, TwA.n17 ht, TwA.f2 ht, TwA.f3 ht, TwA.f5 ht, TwA.f6 ht, TwA.f8 ht, TwA.f9 ht, TwA.f11 ht, TwA.f12 ht, TwA.f13 ht, TwA.f14 ht, TwA.f15 ht, TwA.b0 ht, TwA.b1 ht, TwA.b2 ht, TwA.g0 ht, TwA.g1 ht, TwA.g2 ht, r.v4]
    rw [if_pos (by omega)]
    rfl
  | succ k ih =>
    intro n i a hn hv
    obtain ⟨m, rfl⟩ : ∃ m, n = m + 1 := ⟨n - 1, by omega⟩
    have i4 : i < 1000000 := by omega
    have h7 : (i : Int) < S 4 := by omega
    have i1 : i < 4 := by omega
    simp only [m_X4_paidToAll_L4, hgI_k, hgR_k, hpI_k, hpR_k, hpZ_k, haI_k, haR_k, hsI_k, hsZ_k, hlen_k, hlet_e, hret_e, hretZ_0, hretZ_1, hif_e, okk_setV, okk_setF, nV, nF, fV, vF, haI_n, ix_s i4, StA.k0 ha, StA.k1 ha, StA.k2 ha, StA.k3 ha, StA.k4 ha, StA.n1 ha, StA.n2 ha, StA.n3 ha, StA.n4 ha, StA.f2 ha, StA.f3 ha, StA.f4 ha, StA.f5 ha, r.to, TwA.k0 ht, TwA.k1 ht, TwA.k2 ht, TwA.k3 ht, TwA.k4 ht, TwA.k5 ht, TwA.k6 ht, TwA.k7 ht, TwA.k8 ht, TwA.k9 ht, TwA.k10 ht, TwA.k11 ht, TwA.k12 ht, TwA.k13 ht, TwA.k14 ht, TwA.k15 ht, TwA.k16 ht, TwA.k17 ht, TwA.n2 ht, TwA.n3 ht, TwA.n4 ht, TwA.n6 ht, TwA.n7 ht, TwA.n8 ht, TwA.n9 ht, TwA.n10 ht, TwA.n11 ht, TwA.n12 ht, TwA.n13 ht, TwA.n14 ht, TwA.n15 ht, TwA.n16 ht, TwA.n17 ht, TwA.f2 ht, TwA.f3 ht, TwA.f5 ht, TwA.f6 ht, TwA.f8 ht, TwA.f9 ht, TwA.f11 ht, TwA.f12 ht, TwA.f13 ht, TwA.f14 ht, TwA.f15 ht, TwA.b0 ht, TwA.b1 ht, TwA.b2 ht, TwA.g0 ht, TwA.g1 ht, TwA.g2 ht, r.v4, i1, r.paid i h7]
    rw [if_neg (by omega), ih m (i + 1) _ (by omega) (by omega)]
    rfl
theorem x_paidToAll {u : hS} {s t : Nat} {S : Nat → Int} (r : RepS u s t S) (ws : WS S) : m_X4_paidToAll s u = some (qPaid S, u) := by
  have w := ws.2.2.2.2.1
  simp only [m_X4_paidToAll, hgI_k, hgR_k, hpI_k, hpR_k, hpZ_k, haI_k, haR_k, hsI_k, hsZ_k, hlen_k, hlet_e, hret_e, hretZ_0, hretZ_1, hif_e, okk_setV, okk_setF, nV, nF, fV, vF]
  exact x_paidL r ws (S 4).toNat 1000000000 0 0 (by omega) (by omega)
theorem x_homeL {u : hS} {s t : Nat} {S : Nat → Int} (r : RepS u s t S) (ws : WS S) : ∀ (k n i : Nat) (a : Int), inI a → k < n → S 4 = ((i + k : Nat) : Int) → m_X4_whoIsHome_L4 n s a i u = some (accN (fun p a => iorZ a (if S (10 + 3 * p) = S (11 + 3 * p) then ishlZ 1 p else 0)) k i a, u) := by
  have ht := r.ht
  have ha := r.ha
  have w := ws.2.2.2.2.1
  intro k
  induction k with
  | zero =>
    intro n i a h0 hn hb
    obtain ⟨m, rfl⟩ : ∃ m, n = m + 1 := ⟨n - 1, by omega⟩
    simp only [m_X4_whoIsHome_L4, hgI_k, hgR_k, hpI_k, hpR_k, hpZ_k, haI_k, haR_k, hsI_k, hsZ_k, hlen_k, hlet_e, hret_e, hretZ_0, hretZ_1, hif_e, okk_setV, okk_setF, nV, nF, fV, vF, StA.k0 ha, StA.k1 ha, StA.k2 ha, StA.k3 ha, StA.k4 ha, StA.n1 ha, StA.n2 ha, StA.n3 ha, StA.n4 ha, StA.f2 ha, StA.f3 ha, StA.f4 ha, StA.f5 ha, r.to, TwA.k0 ht, TwA.k1 ht, TwA.k2 ht, TwA.k3 ht, TwA.k4 ht, TwA.k5 ht, TwA.k6 ht, TwA.k7 ht, TwA.k8 ht, TwA.k9 ht, TwA.k10 ht, TwA.k11 ht, TwA.k12 ht, TwA.k13 ht, TwA.k14 ht, TwA.k15 ht, TwA.k16 ht, TwA.k17 ht, TwA.n2 ht, TwA.n3 ht, TwA.n4 ht, TwA.n6 ht, TwA.n7 ht, TwA.n8 ht, TwA.n9 ht, TwA.n10 ht, TwA.n11 ht, TwA.n12 ht, TwA.n13 ht, TwA.n14 ht, TwA.n15 ht, TwA.n16 ht, TwA.n17 ht, TwA.f2 ht, TwA.f3 ht, TwA.f5 ht, TwA.f6 ht, TwA.f8 ht, TwA.f9 ht, TwA.f11 ht, TwA.f12 ht, TwA.f13 ht, TwA.f14 ht, TwA.f15 ht, TwA.b0 ht, TwA.b1 ht, TwA.b2 ht, TwA.g0 ht, TwA.g1 ht, TwA.g2 ht, r.v4]
    rw [if_pos (by omega)]
    rfl
  | succ k ih =>
    intro n i a h0 hn hb
    obtain ⟨m, rfl⟩ : ∃ m, n = m + 1 := ⟨n - 1, by omega⟩
    have hi : i < 4 := by omega
    have i4 : i < 1000000 := by omega
    have h7 : (i : Int) < S 4 := by omega
    simp only [m_X4_whoIsHome_L4, m_X4_whoIsHome_L39, hgI_k, hgR_k, hpI_k, hpR_k, hpZ_k, haI_k, haR_k, hsI_k, hsZ_k, hlen_k, hlet_e, hret_e, hretZ_0, hretZ_1, hif_e, okk_setV, okk_setF, nV, nF, fV, vF, haI_n, ix_s i4, StA.k0 ha, StA.k1 ha, StA.k2 ha, StA.k3 ha, StA.k4 ha, StA.n1 ha, StA.n2 ha, StA.n3 ha, StA.n4 ha, StA.f2 ha, StA.f3 ha, StA.f4 ha, StA.f5 ha, r.to, TwA.k0 ht, TwA.k1 ht, TwA.k2 ht, TwA.k3 ht, TwA.k4 ht, TwA.k5 ht, TwA.k6 ht, TwA.k7 ht, TwA.k8 ht, TwA.k9 ht, TwA.k10 ht, TwA.k11 ht, TwA.k12 ht, TwA.k13 ht, TwA.k14 ht, TwA.k15 ht, TwA.k16 ht, TwA.k17 ht, TwA.n2 ht, TwA.n3 ht, TwA.n4 ht, TwA.n6 ht, TwA.n7 ht, TwA.n8 ht, TwA.n9 ht, TwA.n10 ht, TwA.n11 ht, TwA.n12 ht, TwA.n13 ht, TwA.n14 ht, TwA.n15 ht, TwA.n16 ht, TwA.n17 ht, TwA.f2 ht, TwA.f3 ht, TwA.f5 ht, TwA.f6 ht, TwA.f8 ht, TwA.f9 ht, TwA.f11 ht, TwA.f12 ht, TwA.f13 ht, TwA.f14 ht, TwA.f15 ht, TwA.b0 ht, TwA.b1 ht, TwA.b2 ht, TwA.g0 ht, TwA.g1 ht, TwA.g2 ht, r.v4, hi, r.at i h7, r.home i h7]
    rw [if_neg (by omega), ih m (i + 1) _ h0 (by omega) (by omega), ih m (i + 1) _ (iorZ_in _ _) (by omega) (by omega)]
    simp only [accN_s]
    by_cases h : S (10 + 3 * i) = S (11 + 3 * i)
    · rw [if_neg (by omega), if_pos h]
    · rw [if_pos h, if_neg h, iorZ_0 h0]
theorem x_whoIsHome {u : hS} {s t : Nat} {S : Nat → Int} (r : RepS u s t S) (ws : WS S) : m_X4_whoIsHome s u = some (qHome S, u) := by
  have w := ws.2.2.2.2.1
  simp only [m_X4_whoIsHome, hgI_k, hgR_k, hpI_k, hpR_k, hpZ_k, haI_k, haR_k, hsI_k, hsZ_k, hlen_k, hlet_e, hret_e, hretZ_0, hretZ_1, hif_e, okk_setV, okk_setF, nV, nF, fV, vF]
  exact x_homeL r ws (S 4).toNat 1000000000 0 0 ⟨by omega, by omega⟩ (by omega) (by omega)
theorem x_wantL {u : hS} {s t p : Nat} {S : Nat → Int} (r : RepS u s t S) (ws : WS S) : ∀ (k n i : Nat) (a : Int), k < n → S 5 = ((i + k : Nat) : Int) → a = -1 ∨ 0 ≤ a ∧ a < S 5 → m_X4_nextWant_L4 n s p a i u = some (accN (fun w a => if S (128 + 4 * w) = (p : Int) ∧ S 6 ≤ S (130 + 4 * w) ∧ (a < 0 ∨ S (130 + 4 * w) < S (130 + 4 * a.toNat)) then (w : Int) else a) k i a, u) := by
  have ht := r.ht
  have ha := r.ha
  have w := ws.2.2.2.2.2.1
  intro k
  induction k with
  | zero =>
    intro n i a hn hb hd
    obtain ⟨m, rfl⟩ : ∃ m, n = m + 1 := ⟨n - 1, by omega⟩
    simp only [m_X4_nextWant_L4, hgI_k, hgR_k, hpI_k, hpR_k, hpZ_k, haI_k, haR_k, hsI_k, hsZ_k, hlen_k, hlet_e, hret_e, hretZ_0, hretZ_1, hif_e, okk_setV, okk_setF, nV, nF, fV, vF, StA.k0 ha, StA.k1 ha, StA.k2 ha, StA.k3 ha, StA.k4 ha, StA.n1 ha, StA.n2 ha, StA.n3 ha, StA.n4 ha, StA.f2 ha, StA.f3 ha, StA.f4 ha, StA.f5 ha, r.to, TwA.k0 ht, TwA.k1 ht, TwA.k2 ht, TwA.k3 ht, TwA.k4 ht, TwA.k5 ht, TwA.k6 ht, TwA.k7 ht, TwA.k8 ht, TwA.k9 ht, TwA.k10 ht, TwA.k11 ht, TwA.k12 ht, TwA.k13 ht, TwA.k14 ht, TwA.k15 ht, TwA.k16 ht, TwA.k17 ht, TwA.n2 ht, TwA.n3 ht, TwA.n4 ht, TwA.n6 ht, TwA.n7 ht, TwA.n8 ht, TwA.n9 ht, TwA.n10 ht, TwA.n11 ht, TwA.n12 ht, TwA.n13 ht, TwA.n14 ht, TwA.n15 ht, TwA.n16 ht, TwA.n17 ht, TwA.f2 ht, TwA.f3 ht, TwA.f5 ht, TwA.f6 ht, TwA.f8 ht, TwA.f9 ht, TwA.f11 ht, TwA.f12 ht, TwA.f13 ht, TwA.f14 ht, TwA.f15 ht, TwA.b0 ht, TwA.b1 ht, TwA.b2 ht, TwA.g0 ht, TwA.g1 ht, TwA.g2 ht, r.v5]
    rw [if_pos (by omega)]
    rfl
  | succ k ih =>
    intro n i a hn hv hd
    obtain ⟨m, rfl⟩ : ∃ m, n = m + 1 := ⟨n - 1, by omega⟩
    have hi : i < 8 := by omega
    have i4 : i < 1000000 := by omega
    have h7 : (i : Int) < S 5 := by omega
    have j1 := ih m (i + 1) a (by omega) (by omega) hd
    have j2 := ih m (i + 1) (i : Int) (by omega) (by omega) (Or.inr ⟨by omega, by omega⟩)
    simp only [m_X4_nextWant_L4, m_X4_nextWant_L70, m_X4_nextWant_L72, hgI_k, hgR_k, hpI_k, hpR_k, hpZ_k, haI_k, haR_k, hsI_k, hsZ_k, hlen_k, hlet_e, hret_e, hretZ_0, hretZ_1, hif_e, okk_setV, okk_setF, nV, nF, fV, vF, haI_n, ix_s i4, StA.k0 ha, StA.k1 ha, StA.k2 ha, StA.k3 ha, StA.k4 ha, StA.n1 ha, StA.n2 ha, StA.n3 ha, StA.n4 ha, StA.f2 ha, StA.f3 ha, StA.f4 ha, StA.f5 ha, r.to, TwA.k0 ht, TwA.k1 ht, TwA.k2 ht, TwA.k3 ht, TwA.k4 ht, TwA.k5 ht, TwA.k6 ht, TwA.k7 ht, TwA.k8 ht, TwA.k9 ht, TwA.k10 ht, TwA.k11 ht, TwA.k12 ht, TwA.k13 ht, TwA.k14 ht, TwA.k15 ht, TwA.k16 ht, TwA.k17 ht, TwA.n2 ht, TwA.n3 ht, TwA.n4 ht, TwA.n6 ht, TwA.n7 ht, TwA.n8 ht, TwA.n9 ht, TwA.n10 ht, TwA.n11 ht, TwA.n12 ht, TwA.n13 ht, TwA.n14 ht, TwA.n15 ht, TwA.n16 ht, TwA.n17 ht, TwA.f2 ht, TwA.f3 ht, TwA.f5 ht, TwA.f6 ht, TwA.f8 ht, TwA.f9 ht, TwA.f11 ht, TwA.f12 ht, TwA.f13 ht, TwA.f14 ht, TwA.f15 ht, TwA.b0 ht, TwA.b1 ht, TwA.b2 ht, TwA.g0 ht, TwA.g1 ht, TwA.g2 ht, r.v5, r.v6, hi, r.wa0 i h7, r.wa2 i h7, j1, j2]
    rw [if_neg (by omega)]
    simp only [accN_s]
    by_cases h1 : S (128 + 4 * i) = (p : Int)
    · rw [if_neg (by omega)]
      by_cases h2 : S 6 ≤ S (130 + 4 * i)
      · rw [if_neg (by omega)]
        by_cases h3 : a < 0
        · rw [if_pos (by omega), if_pos ⟨h1, h2, Or.inl h3⟩]
        · rw [if_neg (by omega)]
          obtain ⟨c, rfl⟩ : ∃ c : Nat, a = c := ⟨a.toNat, by omega⟩
          have hc : c < 8 := by omega
          have hc5 : (c : Int) < S 5 := by omega
          simp only [hgI_k, hgR_k, hpI_k, hpR_k, hpZ_k, haI_k, haR_k, hsI_k, hsZ_k, hlen_k, hlet_e, hret_e, hretZ_0, hretZ_1, hif_e, okk_setV, okk_setF, nV, nF, fV, vF, haI_n, StA.k0 ha, StA.k1 ha, StA.k2 ha, StA.k3 ha, StA.k4 ha, StA.n1 ha, StA.n2 ha, StA.n3 ha, StA.n4 ha, StA.f2 ha, StA.f3 ha, StA.f4 ha, StA.f5 ha, r.to, TwA.k0 ht, TwA.k1 ht, TwA.k2 ht, TwA.k3 ht, TwA.k4 ht, TwA.k5 ht, TwA.k6 ht, TwA.k7 ht, TwA.k8 ht, TwA.k9 ht, TwA.k10 ht, TwA.k11 ht, TwA.k12 ht, TwA.k13 ht, TwA.k14 ht, TwA.k15 ht, TwA.k16 ht, TwA.k17 ht, TwA.n2 ht, TwA.n3 ht, TwA.n4 ht, TwA.n6 ht, TwA.n7 ht, TwA.n8 ht, TwA.n9 ht, TwA.n10 ht, TwA.n11 ht, TwA.n12 ht, TwA.n13 ht, TwA.n14 ht, TwA.n15 ht, TwA.n16 ht, TwA.n17 ht, TwA.f2 ht, TwA.f3 ht, TwA.f5 ht, TwA.f6 ht, TwA.f8 ht, TwA.f9 ht, TwA.f11 ht, TwA.f12 ht, TwA.f13 ht, TwA.f14 ht, TwA.f15 ht, TwA.b0 ht, TwA.b1 ht, TwA.b2 ht, TwA.g0 ht, TwA.g1 ht, TwA.g2 ht, hc, hi, r.wa2 c hc5, r.wa2 i h7, j1, j2, Int.toNat_natCast]
          by_cases h4 : S (130 + 4 * i) < S (130 + 4 * c)
          · rw [if_neg (by omega), if_pos ⟨h1, h2, Or.inr h4⟩]
          · rw [if_pos (by omega), if_neg (by omega)]
      · rw [if_pos (by omega), if_neg (by omega)]
    · rw [if_pos h1, if_neg (by omega)]
theorem x_nextWant {u : hS} {s t : Nat} {S : Nat → Int} (r : RepS u s t S) (ws : WS S) (p : Nat) : m_X4_nextWant s p u = some (qWant S p, u) := by
  have w := ws.2.2.2.2.2.1
  simp only [m_X4_nextWant, hgI_k, hgR_k, hpI_k, hpR_k, hpZ_k, haI_k, haR_k, hsI_k, hsZ_k, hlen_k, hlet_e, hret_e, hretZ_0, hretZ_1, hif_e, okk_setV, okk_setF, nV, nF, fV, vF]
  exact x_wantL r ws (S 5).toNat 1000000000 0 (-1) (by omega) (by omega) (Or.inl rfl)
theorem x_goalOf {u : hS} {s t p : Nat} {S : Nat → Int} (r : RepS u s t S) (ws : WS S) (hp : (p : Int) < S 4) : m_X4_goalOf s p u = some (qGoal S p, u) := by
  have ht := r.ht
  have ha := r.ha
  have w := ws.2.2.2.2.2.1
  have w4 := ws.2.2.2.2.1
  have hi : p < 4 := by omega
  simp only [m_X4_goalOf_L32, m_X4_goalOf, hgI_k, hgR_k, hpI_k, hpR_k, hpZ_k, haI_k, haR_k, hsI_k, hsZ_k, hlen_k, hlet_e, hret_e, hretZ_0, hretZ_1, hif_e, okk_setV, okk_setF, nV, nF, fV, vF, haI_n, hcallV_b, hbind_s, x_nextWant r ws p, StA.k0 ha, StA.k1 ha, StA.k2 ha, StA.k3 ha, StA.k4 ha, StA.n1 ha, StA.n2 ha, StA.n3 ha, StA.n4 ha, StA.f2 ha, StA.f3 ha, StA.f4 ha, StA.f5 ha, r.to, TwA.k0 ht, TwA.k1 ht, TwA.k2 ht, TwA.k3 ht, TwA.k4 ht, TwA.k5 ht, TwA.k6 ht, TwA.k7 ht, TwA.k8 ht, TwA.k9 ht, TwA.k10 ht, TwA.k11 ht, TwA.k12 ht, TwA.k13 ht, TwA.k14 ht, TwA.k15 ht, TwA.k16 ht, TwA.k17 ht, TwA.n2 ht, TwA.n3 ht, TwA.n4 ht, TwA.n6 ht, TwA.n7 ht, TwA.n8 ht, TwA.n9 ht, TwA.n10 ht, TwA.n11 ht, TwA.n12 ht, TwA.n13 ht, TwA.n14 ht, TwA.n15 ht, TwA.n16 ht, TwA.n17 ht, TwA.f2 ht, TwA.f3 ht, TwA.f5 ht, TwA.f6 ht, TwA.f8 ht, TwA.f9 ht, TwA.f11 ht, TwA.f12 ht, TwA.f13 ht, TwA.f14 ht, TwA.f15 ht, TwA.b0 ht, TwA.b1 ht, TwA.b2 ht, TwA.g0 ht, TwA.g1 ht, TwA.g2 ht, hi, r.home p hp]
  unfold qGoal
  rcases qWant_in ws p with h | ⟨h, k⟩
  · rw [if_neg (by omega), if_neg (by omega)]
  · rw [if_pos (by omega), if_pos h]
    obtain ⟨c, hc⟩ : ∃ c : Nat, qWant S p = c := ⟨(qWant S p).toNat, by omega⟩
    rw [hc] at h k ⊢
    have hc : c < 8 := by omega
    simp only [hgI_k, hgR_k, hpI_k, hpR_k, hpZ_k, haI_k, haR_k, hsI_k, hsZ_k, hlen_k, hlet_e, hret_e, hretZ_0, hretZ_1, hif_e, okk_setV, okk_setF, nV, nF, fV, vF, haI_n, StA.k0 ha, StA.k1 ha, StA.k2 ha, StA.k3 ha, StA.k4 ha, StA.n1 ha, StA.n2 ha, StA.n3 ha, StA.n4 ha, StA.f2 ha, StA.f3 ha, StA.f4 ha, StA.f5 ha, r.to, TwA.k0 ht, TwA.k1 ht, TwA.k2 ht, TwA.k3 ht, TwA.k4 ht, TwA.k5 ht, TwA.k6 ht, TwA.k7 ht, TwA.k8 ht, TwA.k9 ht, TwA.k10 ht, TwA.k11 ht, TwA.k12 ht, TwA.k13 ht, TwA.k14 ht, TwA.k15 ht, TwA.k16 ht, TwA.k17 ht, TwA.n2 ht, TwA.n3 ht, TwA.n4 ht, TwA.n6 ht, TwA.n7 ht, TwA.n8 ht, TwA.n9 ht, TwA.n10 ht, TwA.n11 ht, TwA.n12 ht, TwA.n13 ht, TwA.n14 ht, TwA.n15 ht, TwA.n16 ht, TwA.n17 ht, TwA.f2 ht, TwA.f3 ht, TwA.f5 ht, TwA.f6 ht, TwA.f8 ht, TwA.f9 ht, TwA.f11 ht, TwA.f12 ht, TwA.f13 ht, TwA.f14 ht, TwA.f15 ht, TwA.b0 ht, TwA.b1 ht, TwA.b2 ht, TwA.g0 ht, TwA.g1 ht, TwA.g2 ht, hc, r.wa1 c k, Int.toNat_natCast]
/-! the checks of arguments -/
theorem x_isPerson {u : hS} {t : Nat} {S : Nat → Int} (hs : shp u) (r : RepS u 30 t S) (p : Int) : m_X9_isPerson 1 p u = some (if 0 ≤ p ∧ p < S 4 then 1 else 0, u) := by
  have ht := r.ht
  simp only [m_X9_isPerson_L23, m_X9_isPerson_L22, m_X9_isPerson, hgI_k, hgR_k, hpI_k, hpR_k, hpZ_k, haI_k, haR_k, hsI_k, hsZ_k, hlen_k, hlet_e, hret_e, hretZ_0, hretZ_1, hif_e, okk_setV, okk_setF, nV, nF, fV, vF, kk_1 hs, kk_30 hs, rf_1_3 hs, r.to, TwA.k0 ht, r.v4]
  repeat' split
  all_goals first | rfl | omega
theorem x_isBridge {u : hS} {t : Nat} {S : Nat → Int} (hs : shp u) (r : RepS u 30 t S) (p : Int) : m_X9_isBridge 1 p u = some (if 0 ≤ p ∧ p < S 2 then 1 else 0, u) := by
  have ht := r.ht
  simp only [m_X9_isBridge_L26, m_X9_isBridge_L25, m_X9_isBridge, hgI_k, hgR_k, hpI_k, hpR_k, hpZ_k, haI_k, haR_k, hsI_k, hsZ_k, hlen_k, hlet_e, hret_e, hretZ_0, hretZ_1, hif_e, okk_setV, okk_setF, nV, nF, fV, vF, kk_1 hs, kk_30 hs, rf_1_3 hs, r.to, TwA.k0 ht, TwA.k1 ht, TwA.k2 ht, TwA.k3 ht, TwA.k4 ht, TwA.k5 ht, TwA.k6 ht, TwA.k7 ht, TwA.k8 ht, TwA.k9 ht, TwA.k10 ht, TwA.k11 ht, TwA.k12 ht, TwA.k13 ht, TwA.k14 ht, TwA.k15 ht, TwA.k16 ht, TwA.k17 ht, TwA.n2 ht, TwA.n3 ht, TwA.n4 ht, TwA.n6 ht, TwA.n7 ht, TwA.n8 ht, TwA.n9 ht, TwA.n10 ht, TwA.n11 ht, TwA.n12 ht, TwA.n13 ht, TwA.n14 ht, TwA.n15 ht, TwA.n16 ht, TwA.n17 ht, TwA.f2 ht, TwA.f3 ht, TwA.f5 ht, TwA.f6 ht, TwA.f8 ht, TwA.f9 ht, TwA.f11 ht, TwA.f12 ht, TwA.f13 ht, TwA.f14 ht, TwA.f15 ht, TwA.b0 ht, TwA.b1 ht, TwA.b2 ht, TwA.g0 ht, TwA.g1 ht, TwA.g2 ht, r.v2]
  repeat' split
  all_goals first | rfl | omega
theorem x_hasTown {u : hS} {t : Nat} {S : Nat → Int} (hs : shp u) (r : RepS u 30 t S) : m_X9_hasTown 1 u = some (if S 0 ≤ 0 then 0 else 1, u) := by
  have ht := r.ht
  simp only [m_X9_hasTown_L18, m_X9_hasTown, hgI_k, hgR_k, hpI_k, hpR_k, hpZ_k, haI_k, haR_k, hsI_k, hsZ_k, hlen_k, hlet_e, hret_e, hretZ_0, hretZ_1, hif_e, okk_setV, okk_setF, nV, nF, fV, vF, kk_1 hs, kk_30 hs, rf_1_3 hs, r.to, TwA.k0 ht, TwA.k1 ht, TwA.k2 ht, TwA.k3 ht, TwA.k4 ht, TwA.k5 ht, TwA.k6 ht, TwA.k7 ht, TwA.k8 ht, TwA.k9 ht, TwA.k10 ht, TwA.k11 ht, TwA.k12 ht, TwA.k13 ht, TwA.k14 ht, TwA.k15 ht, TwA.k16 ht, TwA.k17 ht, TwA.n2 ht, TwA.n3 ht, TwA.n4 ht, TwA.n6 ht, TwA.n7 ht, TwA.n8 ht, TwA.n9 ht, TwA.n10 ht, TwA.n11 ht, TwA.n12 ht, TwA.n13 ht, TwA.n14 ht, TwA.n15 ht, TwA.n16 ht, TwA.n17 ht, TwA.f2 ht, TwA.f3 ht, TwA.f5 ht, TwA.f6 ht, TwA.f8 ht, TwA.f9 ht, TwA.f11 ht, TwA.f12 ht, TwA.f13 ht, TwA.f14 ht, TwA.f15 ht, TwA.b0 ht, TwA.b1 ht, TwA.b2 ht, TwA.g0 ht, TwA.g1 ht, TwA.g2 ht, r.v0]
  split <;> rfl
theorem x_arePair {u : hS} {t : Nat} {S : Nat → Int} (hs : shp u) (r : RepS u 30 t S) (p q : Int) : m_X9_arePair 1 p q u = some (if (0 ≤ p ∧ p < S 4) ∧ (0 ≤ q ∧ q < S 4) ∧ p ≠ q then 1 else 0, u) := by
  simp only [m_X9_arePair_L26, m_X9_arePair_L25, m_X9_arePair, hgI_k, hgR_k, hpI_k, hpR_k, hpZ_k, haI_k, haR_k, hsI_k, hsZ_k, hlen_k, hlet_e, hret_e, hretZ_0, hretZ_1, hif_e, okk_setV, okk_setF, nV, nF, fV, vF, hcallV_b, hbind_s, x_isPerson hs r, kk_1 hs]
  by_cases h1 : 0 ≤ p ∧ p < S 4
  · by_cases h2 : 0 ≤ q ∧ q < S 4
    · by_cases h3 : p = q
      · simp [h1, h2, h3]
      · simp [h1, h2, h3]
    · simp [h1, h2]
  · simp [h1]
