/-! readers of the class -/
theorem x_across {u : hS} {l a b i : Nat} (h : okk u l 1) (ka : okk u a 20) (kb : okk u b 20) (fa : hF u l 0 = a) (fb : hF u l 1 = b) (na : i < hN u a) (nb : i < hN u b) (q : Int) : m_X1_across l i q u = some (if hV u a i = q then hV u b i else if hV u b i = q then hV u a i else -1, u) := by
  simp only [m_X1_across_L37, m_X1_across, hgI_k, hgR_k, hpI_k, hpR_k, hpZ_k, haI_k, haR_k, hsI_k, hsZ_k, hlen_k, hlet_e, hret_e, hretZ_0, hretZ_1, hif_e, okk_setV, okk_setF, nV, nF, fV, vF, haI_n, h, fa, fb, ka, kb, na, nb]
  by_cases h1 : hV u a i = q
  · simp only [h1, ne_eq, not_true_eq_false, if_true, if_false]
  · by_cases h2 : hV u b i = q
    · simp only [h1, h2, ne_eq, not_true_eq_false, not_false_eq_true, if_true, if_false]
    · simp only [h1, h2, ne_eq, not_false_eq_true, if_true, if_false]
theorem x_over {u : hS} {s t b : Nat} {S : Nat → Int} (r : RepS u s t S) (ws : WS S) (hb : (b : Int) < S 2) (q : Int) : m_X1_across (t + 1) b q u = some (qEnd S (94 + 2 * b) q, u) := by
  have ht := r.ht
  have w := ws.2.2.1
  rw [x_across ht.k1 ht.k2 ht.k3 ht.b0 ht.b1 (by rw [ht.n2]; omega) (by rw [ht.n3]; omega), r.br0 b hb, r.br1 b hb]
  rfl
theorem x_ferry {u : hS} {s t b : Nat} {S : Nat → Int} (r : RepS u s t S) (ws : WS S) (hb : (b : Int) < S 3) (q : Int) : m_X1_across (t + 5) b q u = some (qEnd S (112 + 2 * b) q, u) := by
  have ht := r.ht
  have w := ws.2.2.2.1
  rw [x_across ht.k5 ht.k6 ht.k7 ht.g0 ht.g1 (by rw [ht.n6]; omega) (by rw [ht.n7]; omega), r.fe0 b hb, r.fe1 b hb]
  rfl
theorem x_leftTo {u : hS} {s t p b : Nat} {S : Nat → Int} (r : RepS u s t S) (ws : WS S) (hp : (p : Int) < S 4) (hb : (b : Int) < S 2) : m_X4_leftTo s p b u = some (qLeft S p b, u) := by
  have ht := r.ht
  have ha := r.ha
  have w := ws.2.2.1
  have w1 := ws.2.2.2.2.1
  have i1 : 9 * p + b < 36 := by omega
  simp only [m_X4_leftTo, hgI_k, hgR_k, hpI_k, hpR_k, hpZ_k, haI_k, haR_k, hsI_k, hsZ_k, hlen_k, hlet_e, hret_e, hretZ_0, hretZ_1, hif_e, okk_setV, okk_setF, nV, nF, fV, vF, haI_n, ix_9 (show p < 4 by omega) (show b < 9 by omega), StA.k0 ha, StA.k1 ha, StA.k2 ha, StA.k3 ha, StA.k4 ha, StA.n1 ha, StA.n2 ha, StA.n3 ha, StA.n4 ha, StA.f2 ha, StA.f3 ha, StA.f4 ha, StA.f5 ha, r.to, TwA.k0 ht, i1, r.v1, r.cro p b hp hb]
  rfl
theorem x_canCross {u : hS} {s t p b : Nat} {S : Nat → Int} (r : RepS u s t S) (ws : WS S) (hp : (p : Int) < S 4) (hb : (b : Int) < S 2) (hq : ∀ q, qEnd S (94 + 2 * b) q ≠ -1 → 0 ≤ qEnd S (94 + 2 * b) q) : (qCan S p b → m_X4_canCross s p b u = some (1, u)) ∧ (¬ qCan S p b → m_X4_canCross s p b u = some (0, u)) := by
  have ht := r.ht
  have ha := r.ha
  have w1 := ws.2.2.2.2.1
  have i1 : p < 4 := by omega
  have h1 := hq (S (10 + 3 * p))
  simp only [m_X4_canCross_L35, m_X4_canCross_L34, m_X4_canCross, hgI_k, hgR_k, hpI_k, hpR_k, hpZ_k, haI_k, haR_k, hsI_k, hsZ_k, hlen_k, hlet_e, hret_e, hretZ_0, hretZ_1, hif_e, okk_setV, okk_setF, nV, nF, fV, vF, haI_n, hcallV_b, hbind_s, StA.k0 ha, StA.k1 ha, StA.k2 ha, StA.k3 ha, StA.k4 ha, StA.n1 ha, StA.n2 ha, StA.n3 ha, StA.n4 ha, StA.f2 ha, StA.f3 ha, StA.f4 ha, StA.f5 ha, r.to, TwA.k0 ht, TwA.f2 ht, TwA.k1 ht, i1, r.at p hp, x_over r ws hb, x_leftTo r ws hp hb]
  unfold qCan
  constructor
  · intro h
    rw [if_neg (by omega), if_neg (by omega)]
  · intro h
    repeat' split
    all_goals first | rfl | omega
theorem x_frostL {u : hS} {s t : Nat} {S : Nat → Int} (r : RepS u s t S) (ws : WS S) : ∀ k n i : Nat, k < n → S 7 = ((i + k : Nat) : Int) → m_X4_isFrosty_L2 n s i u = some (anyN (fun k => decide (S (120 + 2 * k) ≤ S 6 ∧ S 6 ≤ S (121 + 2 * k))) k i, u) := by
  have ht := r.ht
  have ha := r.ha
  have w := ws.2.2.2.2.2.2.2
  intro k
  induction k with
  | zero =>
    intro n i hn hb
    obtain ⟨m, rfl⟩ : ∃ m, n = m + 1 := ⟨n - 1, by omega⟩
    simp only [m_X4_isFrosty_L2, hgI_k, hgR_k, hpI_k, hpR_k, hpZ_k, haI_k, haR_k, hsI_k, hsZ_k, hlen_k, hlet_e, hret_e, hretZ_0, hretZ_1, hif_e, okk_setV, okk_setF, nV, nF, fV, vF, StA.k0 ha, StA.k1 ha, StA.k2 ha, StA.k3 ha, StA.k4 ha, StA.n1 ha, StA.n2 ha, StA.n3 ha, StA.n4 ha, StA.f2 ha, StA.f3 ha, StA.f4 ha, StA.f5 ha, r.to, TwA.k0 ht, r.v7]
    rw [if_pos (by omega)]
    rfl
  | succ k ih =>
    intro n i hn hb
    obtain ⟨m, rfl⟩ : ∃ m, n = m + 1 := ⟨n - 1, by omega⟩
    have hi : i < 4 := by omega
    have i4 : i < 1000000 := by omega
    have h7 : (i : Int) < S 7 := by omega
    simp only [m_X4_isFrosty_L2, m_X4_isFrosty_L47, hgI_k, hgR_k, hpI_k, hpR_k, hpZ_k, haI_k, haR_k, hsI_k, hsZ_k, hlen_k, hlet_e, hret_e, hretZ_0, hretZ_1, hif_e, okk_setV, okk_setF, nV, nF, fV, vF, haI_n, ix_s i4, StA.k0 ha, StA.k1 ha, StA.k2 ha, StA.k3 ha, StA.k4 ha, StA.n1 ha, StA.n2 ha, StA.n3 ha, StA.n4 ha, StA.f2 ha, StA.f3 ha, StA.f4 ha, StA.f5 ha, r.to, TwA.k0 ht, TwA.k1 ht, TwA.k2 ht, TwA.k3 ht, TwA.k4 ht, TwA.k5 ht, TwA.k6 ht, TwA.k7 ht, TwA.k8 ht, TwA.k9 ht, TwA.k10 ht, TwA.k11 ht, TwA.k12 ht, TwA.k13 ht, TwA.k14 ht, TwA.k15 ht, TwA.k16 ht, TwA.k17 ht, TwA.n2 ht, TwA.n3 ht, TwA.n4 ht, TwA.n6 ht, TwA.n7 ht, TwA.n8 ht, TwA.n9 ht, TwA.n10 ht, TwA.n11 ht, TwA.n12 ht, TwA.n13 ht, TwA.n14 ht, TwA.n15 ht, TwA.n16 ht, TwA.n17 ht, TwA.f2 ht, TwA.f3 ht, TwA.f5 ht, TwA.f6 ht, TwA.f8 ht, TwA.f9 ht, TwA.f11 ht, TwA.f12 ht, TwA.f13 ht, TwA.f14 ht, TwA.f15 ht, TwA.b0 ht, TwA.b1 ht, TwA.b2 ht, TwA.g0 ht, TwA.g1 ht, TwA.g2 ht, hi, r.v6, r.v7, r.fr0 i h7, r.fr1 i h7, ih m (i + 1) (by omega) (by omega)]
    rw [if_neg (by omega)]
    simp only [anyN_s, decide_eq_true_eq]
    repeat' split
    all_goals first | rfl | omega
theorem x_isFrosty {u : hS} {s t : Nat} {S : Nat → Int} (r : RepS u s t S) (ws : WS S) : m_X4_isFrosty s u = some (qFrost S, u) := by
  have w := ws.2.2.2.2.2.2.2
  simp only [m_X4_isFrosty, hgI_k, hgR_k, hpI_k, hpR_k, hpZ_k, haI_k, haR_k, hsI_k, hsZ_k, hlen_k, hlet_e, hret_e, hretZ_0, hretZ_1, hif_e, okk_setV, okk_setF, nV, nF, fV, vF]
  exact x_frostL r ws (S 7).toNat 1000000000 0 (by omega) (by omega)
theorem x_lostL {u : hS} {s t p : Nat} {S : Nat → Int} (r : RepS u s t S) (ws : WS S) (hp : (p : Int) < S 4) : ∀ (k n i : Nat) (a : Int), inI a → k < n → S 2 = ((i + k : Nat) : Int) → m_X4_lostBy_L4 n s p a i u = some (accN (fun b a => iorZ a (if qLeft S p b = 0 then ishlZ 1 b else 0)) k i a, u) := by
  have ht := r.ht
  have ha := r.ha
  have w := ws.2.2.1
  intro k
  induction k with
  | zero =>
    intro n i a h0 hn hb
    obtain ⟨m, rfl⟩ : ∃ m, n = m + 1 := ⟨n - 1, by omega⟩
    simp only [m_X4_lostBy_L4, hgI_k, hgR_k, hpI_k, hpR_k, hpZ_k, haI_k, haR_k, hsI_k, hsZ_k, hlen_k, hlet_e, hret_e, hretZ_0, hretZ_1, hif_e, okk_setV, okk_setF, nV, nF, fV, vF, StA.k0 ha, StA.k1 ha, StA.k2 ha, StA.k3 ha, StA.k4 ha, StA.n1 ha, StA.n2 ha, StA.n3 ha, StA.n4 ha, StA.f2 ha, StA.f3 ha, StA.f4 ha, StA.f5 ha, r.to, TwA.k0 ht, TwA.k1 ht, TwA.k2 ht, TwA.k3 ht, TwA.k4 ht, TwA.k5 ht, TwA.k6 ht, TwA.k7 ht, TwA.k8 ht, TwA.k9 ht, TwA.k10 ht, TwA.k11 ht, TwA.k12 ht, TwA.k13 ht, TwA.k14 ht, TwA.k15 ht, TwA.k16 ht, TwA.k17 ht, TwA.n2 ht, TwA.n3 ht, TwA.n4 ht, TwA.n6 ht, TwA.n7 ht, TwA.n8 ht, TwA.n9 ht, TwA.n10 ht, TwA.n11 ht, TwA.n12 ht, TwA.n13 ht, TwA.n14 ht, TwA.n15 ht, TwA.n16 ht, TwA.n17 ht, TwA.f2 ht, TwA.f3 ht, TwA.f5 ht, TwA.f6 ht, TwA.f8 ht, TwA.f9 ht, TwA.f11 ht, TwA.f12 ht, TwA.f13 ht, TwA.f14 ht, TwA.f15 ht, TwA.b0 ht, TwA.b1 ht, TwA.b2 ht, TwA.g0 ht, TwA.g1 ht, TwA.g2 ht, r.v2]
    rw [if_pos (by omega)]
    rfl
  | succ k ih =>
    intro n i a h0 hn hb
    obtain ⟨m, rfl⟩ : ∃ m, n = m + 1 := ⟨n - 1, by omega⟩
    have hi : i < 9 := by omega
    have i4 : i < 1000000 := by omega
    have h7 : (i : Int) < S 2 := by omega
    simp only [m_X4_lostBy_L4, m_X4_lostBy_L33, hgI_k, hgR_k, hpI_k, hpR_k, hpZ_k, haI_k, haR_k, hsI_k, hsZ_k, hlen_k, hlet_e, hret_e, hretZ_0, hretZ_1, hif_e, okk_setV, okk_setF, nV, nF, fV, vF, hcallV_b, hbind_s, x_leftTo r ws hp h7, ix_s i4, StA.k0 ha, StA.k1 ha, StA.k2 ha, StA.k3 ha, StA.k4 ha, StA.n1 ha, StA.n2 ha, StA.n3 ha, StA.n4 ha, StA.f2 ha, StA.f3 ha, StA.f4 ha, StA.f5 ha, r.to, TwA.k0 ht, TwA.k1 ht, TwA.k2 ht, TwA.k3 ht, TwA.k4 ht, TwA.k5 ht, TwA.k6 ht, TwA.k7 ht, TwA.k8 ht, TwA.k9 ht, TwA.k10 ht, TwA.k11 ht, TwA.k12 ht, TwA.k13 ht, TwA.k14 ht, TwA.k15 ht, TwA.k16 ht, TwA.k17 ht, TwA.n2 ht, TwA.n3 ht, TwA.n4 ht, TwA.n6 ht, TwA.n7 ht, TwA.n8 ht, TwA.n9 ht, TwA.n10 ht, TwA.n11 ht, TwA.n12 ht, TwA.n13 ht, TwA.n14 ht, TwA.n15 ht, TwA.n16 ht, TwA.n17 ht, TwA.f2 ht, TwA.f3 ht, TwA.f5 ht, TwA.f6 ht, TwA.f8 ht, TwA.f9 ht, TwA.f11 ht, TwA.f12 ht, TwA.f13 ht, TwA.f14 ht, TwA.f15 ht, TwA.b0 ht, TwA.b1 ht, TwA.b2 ht, TwA.g0 ht, TwA.g1 ht, TwA.g2 ht, r.v2]
    rw [if_neg (by omega), ih m (i + 1) _ h0 (by omega) (by omega), ih m (i + 1) _ (iorZ_in _ _) (by omega) (by omega)]
    simp only [accN_s]
    by_cases h : qLeft S p i = 0
    · rw [if_neg (by omega), if_pos h]
    · rw [if_pos h, if_neg h, iorZ_0 h0]
theorem x_lostBy {u : hS} {s t p : Nat} {S : Nat → Int} (r : RepS u s t S) (ws : WS S) (hp : (p : Int) < S 4) : m_X4_lostBy s p u = some (qLost S p, u) := by
  have w := ws.2.2.1
  simp only [m_X4_lostBy, hgI_k, hgR_k, hpI_k, hpR_k, hpZ_k, haI_k, haR_k, hsI_k, hsZ_k, hlen_k, hlet_e, hret_e, hretZ_0, hretZ_1, hif_e, okk_setV, okk_setF, nV, nF, fV, vF]
  exact x_lostL r ws hp (S 2).toNat 1000000000 0 0 ⟨by omega, by omega⟩ (by omega) (by omega)
theorem x_allL {u : hS} {s t b : Nat} {S : Nat → Int} (r : RepS u s t S) (ws : WS S) (hb : (b : Int) < S 2) : ∀ (k n i : Nat) (a : Int), k < n → S 4 = ((i + k : Nat) : Int) → m_X4_crossedByAll_L4 n s b a i u = some (accN (fun p a => w32 (a + S (22 + 9 * p + b))) k i a, u) := by
  have ht := r.ht
  have ha := r.ha
  have w := ws.2.2.1
  have w4 := ws.2.2.2.2.1
  intro k
  induction k with
  | zero =>
    intro n i a hn hb
    obtain ⟨m, rfl⟩ : ∃ m, n = m + 1 := ⟨n - 1, by omega⟩
    simp only [m_X4_crossedByAll_L4, hgI_k, hgR_k, hpI_k, hpR_k, hpZ_k, haI_k, haR_k, hsI_k, hsZ_k, hlen_k, hlet_e, hret_e, hretZ_0, hretZ_1, hif_e, okk_setV, okk_setF, nV, nF, fV, vF, StA.k0 ha, StA.k1 ha, StA.k2 ha, StA.k3 ha, StA.k4 ha, StA.n1 ha, StA.n2 ha, StA.n3 ha, StA.n4 ha, StA.f2 ha, StA.f3 ha, StA.f4 ha, StA.f5 ha, r.to, TwA.k0 ht, TwA.k1 ht, TwA.k2 ht, TwA.k3 ht, TwA.k4 ht, TwA.k5 ht, TwA.k6 ht, TwA.k7 ht, TwA.k8 ht, TwA.k9 ht, TwA.k10 ht, TwA.k11 ht, TwA.k12 ht, TwA.k13 ht, TwA.k14 ht, TwA.k15 ht, TwA.k16 ht, TwA.k17 ht, TwA.n2 ht, TwA.n3 ht, TwA.n4 ht, TwA.n6 ht, TwA.n7 ht, TwA.n8 ht, TwA.n9 ht, TwA.n10 ht, TwA.n11 ht, TwA.n12 ht, TwA.n13 ht, TwA.n14 ht, TwA.n15 ht, TwA.n16 ht, TwA.n17 ht, TwA.f2 ht, TwA.f3 ht, TwA.f5 ht, TwA.f6 ht, TwA.f8 ht, TwA.f9 ht, TwA.f11 ht, TwA.f12 ht, TwA.f13 ht, TwA.f14 ht, TwA.f15 ht, TwA.b0 ht, TwA.b1 ht, TwA.b2 ht, TwA.g0 ht, TwA.g1 ht, TwA.g2 ht, r.v4]
    rw [if_pos (by omega)]
    rfl
  | succ k ih =>
    intro n i a hn hv
    obtain ⟨m, rfl⟩ : ∃ m, n = m + 1 := ⟨n - 1, by omega⟩
    have i4 : i < 1000000 := by omega
    have h7 : (i : Int) < S 4 := by omega
    have i1 : 9 * i + b < 36 := by omega
    simp only [m_X4_crossedByAll_L4, hgI_k, hgR_k, hpI_k, hpR_k, hpZ_k, haI_k, haR_k, hsI_k, hsZ_k, hlen_k, hlet_e, hret_e, hretZ_0, hretZ_1, hif_e, okk_setV, okk_setF, nV, nF, fV, vF, haI_n, ix_9 (show i < 4 by omega) (show b < 9 by omega), ix_s i4, StA.k0 ha, StA.k1 ha, StA.k2 ha, StA.k3 ha, StA.k4 ha, StA.n1 ha, StA.n2 ha, StA.n3 ha, StA.n4 ha, StA.f2 ha, StA.f3 ha, StA.f4 ha, StA.f5 ha, r.to, TwA.k0 ht, TwA.k1 ht, TwA.k2 ht, TwA.k3 ht, TwA.k4 ht, TwA.k5 ht, TwA.k6 ht, TwA.k7 ht, TwA.k8 ht, TwA.k9 ht, TwA.k10 ht, TwA.k11 ht, TwA.k12 ht, TwA.k13 ht, TwA.k14 ht, TwA.k15 ht, TwA.k16 ht, TwA.k17 ht, TwA.n2 ht, TwA.n3 ht, TwA.n4 ht, TwA.n6 ht, TwA.n7 ht, TwA.n8 ht, TwA.n9 ht, TwA.n10 ht, TwA.n11 ht, TwA.n12 ht, TwA.n13 ht, TwA.n14 ht, TwA.n15 ht, TwA.n16 ht, TwA.n17 ht, TwA.f2 ht, TwA.f3 ht, TwA.f5 ht, TwA.f6 ht, TwA.f8 ht, TwA.f9 ht, TwA.f11 ht, TwA.f12 ht, TwA.f13 ht, TwA.f14 ht, TwA.f15 ht, TwA.b0 ht, TwA.b1 ht, TwA.b2 ht, TwA.g0 ht, TwA.g1 ht, TwA.g2 ht, r.v4, i1, r.cro i b h7 hb]
    rw [if_neg (by omega), ih m (i + 1) _ (by omega) (by omega)]
    rfl
theorem x_crossedByAll {u : hS} {s t b : Nat} {S : Nat → Int} (r : RepS u s t S) (ws : WS S) (hb : (b : Int) < S 2) : m_X4_crossedByAll s b u = some (qAll S b, u) := by
  have w := ws.2.2.2.2.1
  simp only [m_X4_crossedByAll, hgI_k, hgR_k, hpI_k, hpR_k, hpZ_k, haI_k, haR_k, hsI_k, hsZ_k, hlen_k, hlet_e, hret_e, hretZ_0, hretZ_1, hif_e, okk_setV, okk_setF, nV, nF, fV, vF]
  exact x_allL r ws hb (S 4).toNat 1000000000 0 0 (by omega) (by omega)
