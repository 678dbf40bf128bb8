/-! the bridge best rebuilt: the class -/
def dif (g f : Nat → Nat) (p : Nat) : Int := cnt (g p) 9 - cnt (f p) 9
def gai (g f : Nat → Nat) (p : Nat) (a : Int) : Int := if g p = f p then a else iorZ a (ishlZ 1 p)
theorem dif_in {S : Nat → Int} {e : Int} {g f : Nat → Nat} {p : Nat} (hf : isRch S (-1) p (f p)) (hg : isRch S e p (g p)) : 0 ≤ dif g f p ∧ dif g f p ≤ 9 := by
  have s := cnt_mono (N := 9) (rch_sub hf hg)
  have a := cnt_le (g p) 9
  have b := cnt_ge (f p) 9
  unfold dif
  omega
theorem x_growL {u : hS} (hs : shp u) {t : Nat} {S : Nat → Int} (r : RepS u 30 t S) (ws : WS S) (wv : WV S) {f g : Nat → Nat} {e : Int} (hf : ∀ p : Nat, (p : Int) < S 4 → isRch S (-1) p (f p)) (hg : ∀ p : Nat, (p : Int) < S 4 → isRch S e p (g p)) (h10 : ∀ p : Nat, (p : Int) < S 4 → hV u 10 p = (f p : Int)) : ∀ (k n i : Nat) (a : Int), k < n → S 4 = ((i + k : Nat) : Int) → 0 ≤ a → a + 9 * k ≤ 100 → m_X9_growthBy_L4 n 1 e a i u = some (a + sumU (dif g f) k i, u) := by
  have w4 := ws.2.2.2.2.1
  have ht := r.ht
  intro k
  induction k with
  | zero =>
    intro n i a hn hv h0 h1
    obtain ⟨n, rfl⟩ : ∃ k, n = k + 1 := ⟨n - 1, by omega⟩
    simp only [m_X9_growthBy_L4, hgI_k, hgR_k, hpI_k, hpR_k, hpZ_k, haI_k, haR_k, hsI_k, hsZ_k, hlen_k, hlet_p, hret_p, hretZ_0, hretZ_1, hif_p, okk_setV, okk_setF, nV, nF, fV, vF, kk_1 hs, kk_30 hs, rf_1_3 hs, r.to, TwA.k0 ht, TwA.k1 ht, TwA.k2 ht, TwA.k3 ht, TwA.k4 ht, TwA.k5 ht, TwA.k6 ht, TwA.k7 ht, TwA.k8 ht, TwA.k9 ht, TwA.k10 ht, TwA.k11 ht, TwA.k12 ht, TwA.k13 ht, TwA.k14 ht, TwA.k15 ht, TwA.k16 ht, TwA.k17 ht, TwA.n2 ht, TwA.n3 ht, TwA.n4 ht, TwA.n6 ht, TwA.n7 ht, TwA.n8 ht, TwA.n9 ht, TwA.n10 ht, TwA.n11 ht, TwA.n12 ht, TwA.n13 ht, TwA.n14 ht, TwA.n15 ht, TwA.n16 ht, TwA.n17 ht, TwA.f2 ht, TwA.f3 ht, TwA.f5 ht, TwA.f6 ht, TwA.f8 ht, TwA.f9 ht, TwA.f11 ht, TwA.f12 ht, TwA.f13 ht, TwA.f14 ht, TwA.f15 ht, TwA.b0 ht, TwA.b1 ht, TwA.b2 ht, TwA.g0 ht, TwA.g1 ht, TwA.g2 ht, r.v4]
    rw [if_pos (by omega)]
    show _ = some (a + 0, u)
    rw [Int.add_zero]
  | succ k ih =>
    intro n i a hn hv h0 h1
    obtain ⟨n, rfl⟩ : ∃ k, n = k + 1 := ⟨n - 1, by omega⟩
    have hi : (i : Int) < S 4 := by omega
    have i4 : i < 4 := by omega
    have x := x_rch r ws wv hi (hg i hi)
    have sb := rch_sub (hf i hi) (hg i hi)
    have l1 := rch_lt (hf i hi)
    have l2 := rch_lt (hg i hi)
    have lx : g i ^^^ f i < 512 := Nat.xor_lt_two_pow (n := 9) l2 l1
    have bd := dif_in (hf i hi) (hg i hi)
    have dx : cnt (g i ^^^ f i) 9 = dif g f i := cnt_xor sb
    have w1 : w32 (a + dif g f i) = a + dif g f i := w32_id ⟨by omega, by omega⟩
    simp only [m_X9_growthBy_L4, hgI_k, hgR_k, hpI_k, hpR_k, hpZ_k, haI_k, haR_k, hsI_k, hsZ_k, hlen_k, hlet_p, hret_p, hretZ_0, hretZ_1, hif_p, okk_setV, okk_setF, nV, nF, fV, vF, hcallV_b, hcall_b, hbind_p, haI_n, kk_1 hs, kk_30 hs, kk_10 hs, rf_1_3 hs, rf_1_16 hs, ln_10 hs, r.to, TwA.k0 ht, TwA.k1 ht, TwA.k2 ht, TwA.k3 ht, TwA.k4 ht, TwA.k5 ht, TwA.k6 ht, TwA.k7 ht, TwA.k8 ht, TwA.k9 ht, TwA.k10 ht, TwA.k11 ht, TwA.k12 ht, TwA.k13 ht, TwA.k14 ht, TwA.k15 ht, TwA.k16 ht, TwA.k17 ht, TwA.n2 ht, TwA.n3 ht, TwA.n4 ht, TwA.n6 ht, TwA.n7 ht, TwA.n8 ht, TwA.n9 ht, TwA.n10 ht, TwA.n11 ht, TwA.n12 ht, TwA.n13 ht, TwA.n14 ht, TwA.n15 ht, TwA.n16 ht, TwA.n17 ht, TwA.f2 ht, TwA.f3 ht, TwA.f5 ht, TwA.f6 ht, TwA.f8 ht, TwA.f9 ht, TwA.f11 ht, TwA.f12 ht, TwA.f13 ht, TwA.f14 ht, TwA.f15 ht, TwA.b0 ht, TwA.b1 ht, TwA.b2 ht, TwA.g0 ht, TwA.g1 ht, TwA.g2 ht, r.v4, x, i4, h10 i hi, andn_xor sb l2 l1, J_bitCount lx, dx, w1, ix_s (show i < 1000000 by omega)]
    rw [if_neg (by omega), ih n (i + 1) _ (by omega) (by omega) (by omega) (by omega), sumU_s, Int.add_assoc]
theorem x_growthBy {u : hS} (hs : shp u) {t : Nat} {S : Nat → Int} (r : RepS u 30 t S) (ws : WS S) (wv : WV S) {f g : Nat → Nat} {e : Int} (hf : ∀ p : Nat, (p : Int) < S 4 → isRch S (-1) p (f p)) (hg : ∀ p : Nat, (p : Int) < S 4 → isRch S e p (g p)) (h10 : ∀ p : Nat, (p : Int) < S 4 → hV u 10 p = (f p : Int)) : m_X9_growthBy 1 e u = some (sumU (dif g f) (S 4).toNat 0, u) := by
  have w4 := ws.2.2.2.2.1
  have l := x_growL hs r ws wv hf hg h10 (S 4).toNat 1000000000 0 0 (by omega) (by omega) (by omega) (by omega)
  rw [Int.zero_add] at l
  simp only [m_X9_growthBy, hlet_p]
  exact l
theorem x_whoL {u : hS} (hs : shp u) {t : Nat} {S : Nat → Int} (r : RepS u 30 t S) (ws : WS S) (wv : WV S) {f g : Nat → Nat} {e : Int} (hg : ∀ p : Nat, (p : Int) < S 4 → isRch S e p (g p)) (h10 : ∀ p : Nat, (p : Int) < S 4 → hV u 10 p = (f p : Int)) : ∀ (k n i : Nat) (a : Int), k < n → S 4 = ((i + k : Nat) : Int) → m_X9_whoGainsBy_L4 n 1 e a i u = some (accN (gai g f) k i a, u) := by
  have w4 := ws.2.2.2.2.1
  have ht := r.ht
  intro k
  induction k with
  | zero =>
    intro n i a hn hv
    obtain ⟨n, rfl⟩ : ∃ k, n = k + 1 := ⟨n - 1, by omega⟩
    simp only [m_X9_whoGainsBy_L4, hgI_k, hgR_k, hpI_k, hpR_k, hpZ_k, haI_k, haR_k, hsI_k, hsZ_k, hlen_k, hlet_p, hret_p, hretZ_0, hretZ_1, hif_p, okk_setV, okk_setF, nV, nF, fV, vF, kk_1 hs, kk_30 hs, rf_1_3 hs, r.to, TwA.k0 ht, TwA.k1 ht, TwA.k2 ht, TwA.k3 ht, TwA.k4 ht, TwA.k5 ht, TwA.k6 ht, TwA.k7 ht, TwA.k8 ht, TwA.k9 ht, TwA.k10 ht, TwA.k11 ht, TwA.k12 ht, TwA.k13 ht, TwA.k14 ht, TwA.k15 ht, TwA.k16 ht, TwA.k17 ht, TwA.n2 ht, TwA.n3 ht, TwA.n4 ht, TwA.n6 ht, TwA.n7 ht, TwA.n8 ht, TwA.n9 ht, TwA.n10 ht, TwA.n11 ht, TwA.n12 ht, TwA.n13 ht, TwA.n14 ht, TwA.n15 ht, TwA.n16 ht, TwA.n17 ht, TwA.f2 ht, TwA.f3 ht, TwA.f5 ht, TwA.f6 ht, TwA.f8 ht, TwA.f9 ht, TwA.f11 ht, TwA.f12 ht, TwA.f13 ht, TwA.f14 ht, TwA.f15 ht, TwA.b0 ht, TwA.b1 ht, TwA.b2 ht, TwA.g0 ht, TwA.g1 ht, TwA.g2 ht, r.v4]
    rw [if_pos (by omega)]
    rfl
  | succ k ih =>
    intro n i a hn hv
    obtain ⟨n, rfl⟩ : ∃ k, n = k + 1 := ⟨n - 1, by omega⟩
    have hi : (i : Int) < S 4 := by omega
    have i4 : i < 4 := by omega
    have x := x_rch r ws wv hi (hg i hi)
    simp only [m_X9_whoGainsBy_L4, m_X9_whoGainsBy_L42, hgI_k, hgR_k, hpI_k, hpR_k, hpZ_k, haI_k, haR_k, hsI_k, hsZ_k, hlen_k, hlet_p, hret_p, hretZ_0, hretZ_1, hif_p, okk_setV, okk_setF, nV, nF, fV, vF, hcallV_b, hbind_p, haI_n, kk_1 hs, kk_30 hs, kk_10 hs, rf_1_3 hs, rf_1_16 hs, ln_10 hs, r.to, TwA.k0 ht, TwA.k1 ht, TwA.k2 ht, TwA.k3 ht, TwA.k4 ht, TwA.k5 ht, TwA.k6 ht, TwA.k7 ht, TwA.k8 ht, TwA.k9 ht, TwA.k10 ht, TwA.k11 ht, TwA.k12 ht, TwA.k13 ht, TwA.k14 ht, TwA.k15 ht, TwA.k16 ht, TwA.k17 ht, TwA.n2 ht, TwA.n3 ht, TwA.n4 ht, TwA.n6 ht, TwA.n7 ht, TwA.n8 ht, TwA.n9 ht, TwA.n10 ht, TwA.n11 ht, TwA.n12 ht, TwA.n13 ht, TwA.n14 ht, TwA.n15 ht, TwA.n16 ht, TwA.n17 ht, TwA.f2 ht, TwA.f3 ht, TwA.f5 ht, TwA.f6 ht, TwA.f8 ht, TwA.f9 ht, TwA.f11 ht, TwA.f12 ht, TwA.f13 ht, TwA.f14 ht, TwA.f15 ht, TwA.b0 ht, TwA.b1 ht, TwA.b2 ht, TwA.g0 ht, TwA.g1 ht, TwA.g2 ht, r.v4, x, i4, h10 i hi, ix_s (show i < 1000000 by omega)]
    rw [if_neg (by omega), ih n (i + 1) _ (by omega) (by omega), ih n (i + 1) _ (by omega) (by omega), accN_s]
    unfold gai
    by_cases h : g i = f i
    · rw [if_pos (by omega), if_pos h]
    · rw [if_neg (by omega), if_neg h]
theorem x_whoGainsBy {u : hS} (hs : shp u) {t : Nat} {S : Nat → Int} (r : RepS u 30 t S) (ws : WS S) (wv : WV S) {f g : Nat → Nat} {e : Int} (hg : ∀ p : Nat, (p : Int) < S 4 → isRch S e p (g p)) (h10 : ∀ p : Nat, (p : Int) < S 4 → hV u 10 p = (f p : Int)) : m_X9_whoGainsBy 1 e u = some (accN (gai g f) (S 4).toNat 0 0, u) := by
  have w4 := ws.2.2.2.2.1
  simp only [m_X9_whoGainsBy, hlet_p]
  exact x_whoL hs r ws wv hg h10 (S 4).toNat 1000000000 0 0 (by omega) (by omega)
def bst (d : Nat → Int) : Nat → Nat → Int → Int → Int × Int
  | 0, _, b, m => (b, m)
  | k + 1, i, b, m => if m < d i then bst d k (i + 1) i (d i) else bst d k (i + 1) b m
theorem bst_s (d : Nat → Int) (k i : Nat) (b m : Int) : bst d (k + 1) i b m = if m < d i then bst d k (i + 1) i (d i) else bst d k (i + 1) b m := rfl
theorem x_bestL {u : hS} (hs : shp u) {t : Nat} {S : Nat → Int} (r : RepS u 30 t S) (ws : WS S) (wv : WV S) {f : Nat → Nat} {g : Int → Nat → Nat} (hg : ∀ (e : Int) (p : Nat), (p : Int) < S 4 → isRch S e p (g e p)) (hf : ∀ p : Nat, (p : Int) < S 4 → isRch S (-1) p (f p)) (h10 : ∀ p : Nat, (p : Int) < S 4 → hV u 10 p = (f p : Int)) (w : Int) : ∀ (k n i : Nat) (b m : Int), k < n → S 2 = ((i + k : Nat) : Int) → m_X9_best_L30 n 1 w b m i u = some (let z := bst (fun c => sumU (dif (g c) f) (S 4).toNat 0) k i b m; if w = 0 then z.1 else if w = 1 then z.2 else accN (gai (g z.1) f) (S 4).toNat 0 0, u) := by
  have w2 := ws.2.2.1
  have ht := r.ht
  intro k
  induction k with
  | zero =>
    intro n i b m hn hv
    obtain ⟨n, rfl⟩ : ∃ k, n = k + 1 := ⟨n - 1, by omega⟩
    simp only [m_X9_best_L30, m_X9_best_L94, hgI_k, hgR_k, hpI_k, hpR_k, hpZ_k, haI_k, haR_k, hsI_k, hsZ_k, hlen_k, hlet_p, hret_p, hretZ_0, hretZ_1, hif_p, okk_setV, okk_setF, nV, nF, fV, vF, hcallV_b, hbind_p, kk_1 hs, kk_30 hs, rf_1_3 hs, r.to, TwA.k0 ht, TwA.k1 ht, TwA.k2 ht, TwA.k3 ht, TwA.k4 ht, TwA.k5 ht, TwA.k6 ht, TwA.k7 ht, TwA.k8 ht, TwA.k9 ht, TwA.k10 ht, TwA.k11 ht, TwA.k12 ht, TwA.k13 ht, TwA.k14 ht, TwA.k15 ht, TwA.k16 ht, TwA.k17 ht, TwA.n2 ht, TwA.n3 ht, TwA.n4 ht, TwA.n6 ht, TwA.n7 ht, TwA.n8 ht, TwA.n9 ht, TwA.n10 ht, TwA.n11 ht, TwA.n12 ht, TwA.n13 ht, TwA.n14 ht, TwA.n15 ht, TwA.n16 ht, TwA.n17 ht, TwA.f2 ht, TwA.f3 ht, TwA.f5 ht, TwA.f6 ht, TwA.f8 ht, TwA.f9 ht, TwA.f11 ht, TwA.f12 ht, TwA.f13 ht, TwA.f14 ht, TwA.f15 ht, TwA.b0 ht, TwA.b1 ht, TwA.b2 ht, TwA.g0 ht, TwA.g1 ht, TwA.g2 ht, r.v2, x_whoGainsBy hs r ws wv (hg b) h10, bst]
    rw [if_pos (by omega)]
    by_cases h0 : w = 0
    · rw [if_neg (fun z => z h0), if_pos h0]
    · rw [if_pos h0, if_neg h0]
      by_cases h1 : w = 1
      · rw [if_neg (fun z => z h1), if_pos h1]
      · rw [if_pos h1, if_neg h1]
  | succ k ih =>
    intro n i b m hn hv
    obtain ⟨n, rfl⟩ : ∃ k, n = k + 1 := ⟨n - 1, by omega⟩
    simp only [m_X9_best_L30, m_X9_best_L68, hgI_k, hgR_k, hpI_k, hpR_k, hpZ_k, haI_k, haR_k, hsI_k, hsZ_k, hlen_k, hlet_p, hret_p, hretZ_0, hretZ_1, hif_p, okk_setV, okk_setF, nV, nF, fV, vF, hcallV_b, hbind_p, kk_1 hs, kk_30 hs, rf_1_3 hs, r.to, TwA.k0 ht, TwA.k1 ht, TwA.k2 ht, TwA.k3 ht, TwA.k4 ht, TwA.k5 ht, TwA.k6 ht, TwA.k7 ht, TwA.k8 ht, TwA.k9 ht, TwA.k10 ht, TwA.k11 ht, TwA.k12 ht, TwA.k13 ht, TwA.k14 ht, TwA.k15 ht, TwA.k16 ht, TwA.k17 ht, TwA.n2 ht, TwA.n3 ht, TwA.n4 ht, TwA.n6 ht, TwA.n7 ht, TwA.n8 ht, TwA.n9 ht, TwA.n10 ht, TwA.n11 ht, TwA.n12 ht, TwA.n13 ht, TwA.n14 ht, TwA.n15 ht, TwA.n16 ht, TwA.n17 ht, TwA.f2 ht, TwA.f3 ht, TwA.f5 ht, TwA.f6 ht, TwA.f8 ht, TwA.f9 ht, TwA.f11 ht, TwA.f12 ht, TwA.f13 ht, TwA.f14 ht, TwA.f15 ht, TwA.b0 ht, TwA.b1 ht, TwA.b2 ht, TwA.g0 ht, TwA.g1 ht, TwA.g2 ht, r.v2, x_growthBy hs r ws wv hf (hg i) h10, ix_s (show i < 1000000 by omega), bst_s]
    rw [if_neg (by omega), ih n (i + 1) _ _ (by omega) (by omega), ih n (i + 1) _ _ (by omega) (by omega)]
    by_cases h : m < sumU (dif (g i) f) (S 4).toNat 0
    · rw [if_neg (by omega)]
      simp only [if_pos h]
    · rw [if_pos (by omega)]
      simp only [if_neg h]
/-! the same: the reference -/
theorem put_comm {a b : Nat} (h : a ≠ b) (u : hS) (g k : Nat → Int) : hput (hput u a g) b k = hput (hput u b k) a g := by
  obtain ⟨K, N, V, F, B⟩ := u
  unfold hput
  simp only [Prod.mk.injEq, and_true, true_and]
  funext c j
  by_cases e : c = b
  · rw [if_pos e, if_neg (by omega), if_pos e]
  · rw [if_neg e]
    by_cases e2 : c = a
    · rw [if_pos e2, if_pos e2]
    · rw [if_neg e2, if_neg e2, if_neg e]
theorem y_gR {u : hS} (hs : shp u) {S : Nat → Int} (K : Nat → Int → Int → hM) (b p : Nat) (l4 : Int) (h236 : ∀ j, j < 72 → hV u 236 j = S (22 + j)) : ∀ (k n i : Nat) (G : Nat → Int), k < n → i + k = 72 → (∀ j, j < 22 + i ∨ 94 ≤ j → G j = S j) → m_X10_grows_L80 K n 220 b p l4 i (hput u 230 G) = m_X10_grows_L80 K 1 220 b p l4 72 (hput u 230 S) := by
  intro k
  induction k with
  | zero =>
    intro n i G hn hi hG
    obtain ⟨n, rfl⟩ : ∃ k, n = k + 1 := ⟨n - 1, by omega⟩
    obtain rfl : i = 72 := by omega
    have e : G = S := by
      funext j
      exact hG j (by omega)
    rw [e]
    simp only [m_X10_grows_L80, hgI_k, hgR_k, hpI_k, hpR_k, hpZ_k, haI_k, haR_k, hsI_k, hsZ_k, hlen_k, hlet_p, hret_p, hretZ_0, hretZ_1, hif_p, okk_setV, okk_setF, nV, nF, fV, vF]
    rw [if_pos (by decide), if_pos (by decide)]
  | succ k ih =>
    intro n i G hn hi hG
    obtain ⟨n, rfl⟩ : ∃ k, n = k + 1 := ⟨n - 1, by omega⟩
    have i72 : i < 72 := by omega
    have i160 : 22 + i < 160 := by omega
    have ix : w32 (22 + (i : Int)) = ((22 + i : Nat) : Int) := by
      rw [w32_id ⟨by omega, by omega⟩]
      omega
    have e := ih n (i + 1) (sup G (22 + i) (S (22 + i))) (by omega) (by omega) (fun j hj => by
      by_cases q : j = 22 + i
      · rw [q, sup_s]
      · rw [sup_n q]
        exact hG j (by omega))
    rw [← e]
    simp only [m_X10_grows_L80, hgI_k, hgR_k, hpI_k, hpR_k, hpZ_k, haI_k, haR_k, hsI_k, hsZ_k, hlen_k, hlet_p, hret_p, hretZ_0, hretZ_1, hif_p, okk_setV, okk_setF, nV, nF, fV, vF, okk_put, nP, fP, haI_n, hsI_n, kk_220 hs, kk_230 hs, kk_236 hs, rf_220_20 hs, rf_220_29 hs, ln_230 hs, ln_236 hs, i72, i160, ix, hV_put_n (show 236 ≠ 230 by decide), h236 i i72, setV_put, ix_s (show i < 1000000 by omega)]
    rw [if_neg (by omega)]
theorem y_growL {S : Nat → Int} (ws : WS S) (wv : WV S) {b : Nat} (hb : (b : Int) < S 2) (s1 : 1 ≤ S 1) {f g : Nat → Nat} (hf : ∀ p : Nat, (p : Int) < S 4 → isRch S (-1) p (f p)) (hg : ∀ p : Nat, (p : Int) < S 4 → isRch S b p (g p)) : ∀ (k n i : Nat) (u : hS), k < n → S 4 = ((i + k : Nat) : Int) → shp u → hV u 230 = S → (∀ c, c < 9 → hV u 231 c = 0) → (∀ j, j < 72 → hV u 236 j = S (22 + j)) → 0 ≤ hV u 220 30 → hV u 220 30 + 9 * k ≤ 100 → inI (hV u 220 31) → ∃ D G, m_X10_grows_L41 n 220 b i u = some (0, hput (hput u 232 D) 220 G) ∧ G 30 = hV u 220 30 + sumU (dif g f) k i ∧ G 31 = accN (gai g f) k i (hV u 220 31) ∧ ∀ j, j ≠ 30 → j ≠ 31 → G j = hV u 220 j := by
  have w2 := ws.2.2.1
  have w4 := ws.2.2.2.2.1
  have b9 : b < 9 := by omega
  intro k
  induction k with
  | zero =>
    intro n i u hn hv hs hS ex hK h0 h1 h2
    obtain ⟨n, rfl⟩ : ∃ k, n = k + 1 := ⟨n - 1, by omega⟩
    refine ⟨hV u 232, hV u 220, ?_, ?_, rfl, fun _ _ _ => rfl⟩
    · rw [hput_self, hput_self]
      simp only [m_X10_grows_L41, hgI_k, hgR_k, hpI_k, hpR_k, hpZ_k, haI_k, haR_k, hsI_k, hsZ_k, hlen_k, hlet_p, hret_p, hretZ_0, hretZ_1, hif_p, okk_setV, okk_setF, nV, nF, fV, vF, haI_4, kk_220 hs, kk_230 hs, rf_220_20 hs, ln_230 hs, lt_c 4 160 rfl, hS]
      rw [if_pos (by omega)]
    · show _ = hV u 220 30 + 0
      omega
  | succ k ih =>
    intro n i u hn hv hs hS ex hK h0 h1 h2
    obtain ⟨n, rfl⟩ : ∃ k, n = k + 1 := ⟨n - 1, by omega⟩
    have hi : (i : Int) < S 4 := by omega
    have i4 : i < 4 := by omega
    have sb := rch_sub (hf i hi) (hg i hi)
    have l1 := rch_lt (hf i hi)
    have l2 := rch_lt (hg i hi)
    have bd := dif_in (hf i hi) (hg i hi)
    obtain ⟨D1, d1⟩ := y_rch hs (by rw [hS]; exact ws) (by rw [hS]; exact wv) (p := i) (by rw [hS]; exact hi) (e := -1) (fun c hc => by rw [ex c hc, if_neg (by omega)]) (by rw [hS]; exact hf i hi)
    have hs1 : shp (hput u 232 D1) := hs
    have f1 : hV (hput u 232 D1) 230 = S := by rw [hV_put_n (by decide), hS]
    have fo := y_forgets hs1 (by rw [f1]; exact ws) b9
    rw [f1] at fo
    have hs2 : shp (hput (hput u 232 D1) 230 (qForg b (S 4).toNat 0 S)) := hs
    obtain ⟨D2, d2⟩ := y_rchF hs2 ws wv hi hb s1 (fun c hc => by rw [hV_put_n (by decide), hV_put_n (by decide)]; exact ex c hc) (hV_put_s _ _ _) (hg i hi)
    have w1 : w32 (cnt (g i) 9 - cnt (f i) 9) = dif g f i := w32_id ⟨by unfold dif at bd; omega, by unfold dif at bd; omega⟩
    have st : hput (hput (hput u 232 D1) 230 (qForg b (S 4).toNat 0 S)) 232 D2 = hput (hput u 232 D2) 230 (qForg b (S 4).toNat 0 S) := by
      rw [put_comm (by decide) (hput u 232 D1), hput_put]
    rw [st] at d2
    have hs3 : shp (hput u 232 D2) := hs
    have gr := y_gR hs3 (S := S) (m_X10_grows_L41 n) b i (dif g f i) (fun j hj => by rw [hV_put_n (by decide)]; exact hK j hj) 72 1000000000 0 (qForg b (S 4).toNat 0 S) (by omega) (by omega) (fun j hj => qForg_n _ _ _ _ (fun q h4 h5 => by omega))
    have sS : hput (hput u 232 D2) 230 S = hput u 232 D2 := by
      have q : hV (hput u 232 D2) 230 = S := by rw [hV_put_n (by decide), hS]
      rw [← q, hput_self]
    rw [sS] at gr
    have w3 : w32 (hV u 220 30 + dif g f i) = hV u 220 30 + dif g f i := w32_id ⟨by omega, by omega⟩
    have e220 : hV (hput u 232 D2) 220 = hV u 220 := hV_put_n (by decide)
    have E : m_X10_grows_L41 (n + 1) 220 b i u = m_X10_grows_L41 n 220 b ((i + 1 : Nat) : Int) (hput (hput u 232 D2) 220 (sup (sup (hV u 220) 30 (hV u 220 30 + dif g f i)) 31 (gai g f i (hV u 220 31)))) := by
      have E0 : m_X10_grows_L41 (n + 1) 220 b i u = m_X10_grows_L80 (m_X10_grows_L41 n) 1000000000 220 b i (dif g f i) 0 (hput (hput u 232 D2) 230 (qForg b (S 4).toNat 0 S)) := by
        have j4 : (i : Int) < S 4 := hi
        simp only [m_X10_grows_L41, hgI_k, hgR_k, hpI_k, hpR_k, hpZ_k, haI_k, haR_k, hsI_k, hsZ_k, hlen_k, hlet_p, hret_p, hretZ_0, hretZ_1, hif_p, okk_setV, okk_setF, nV, nF, fV, vF, hcallV_b, hcall_b, hbind_p, haI_4, kk_220 hs, kk_230 hs, rf_220_20 hs, ln_230 hs, lt_c 4 160 rfl, hS, d1, y_bits l1, kk_220 hs1, fo, kk_220 hs2, d2, y_bits l2, w1]
        rw [if_neg (by omega)]
      have E1 : m_X10_grows_L80 (m_X10_grows_L41 n) 1000000000 220 b i (dif g f i) ((0 : Nat) : Int) (hput (hput u 232 D2) 230 (qForg b (S 4).toNat 0 S)) = _ := gr
      rw [E0]
      refine Eq.trans E1 ?_
      have g0 : (72 : Int) ≥ 72 := by decide
      simp only [m_X10_grows_L80, m_X10_grows_L138, hgI_k, hgR_k, hpI_k, hpR_k, hpZ_k, haI_k, haR_k, hsI_k, hsZ_k, hlen_k, hlet_p, hret_p, hretZ_0, hretZ_1, hif_p, okk_setV, okk_setF, nV, nF, fV, vF, okk_put, nP, fP, kk_220 hs, e220, w3, ix_s (show i < 1000000 by omega), setV_put1 (hput u 232 D2), setV_put, hV_put_s]
      rw [if_pos g0]
      have a31 : sup (hV u 220) 30 (hV u 220 30 + dif g f i) 31 = hV u 220 31 := sup_n (by decide)
      rw [a31]
      unfold gai
      have ce := cnt_eq sb l2
      by_cases h : g i = f i
      · have d0 : dif g f i = 0 := by
          unfold dif
          rw [h]
          omega
        rw [if_pos (by omega), if_pos h, iorZ_0 h2]
      · have d0 : 0 < dif g f i := ce.mpr h
        rw [if_neg (by omega), if_neg h]
    rw [E]
    have in31 : inI (gai g f i (hV u 220 31)) := by
      unfold gai
      split
      · exact h2
      · exact iorZ_in _ _
    have hs4 : shp (hput (hput u 232 D2) 220 (sup (sup (hV u 220) 30 (hV u 220 30 + dif g f i)) 31 (gai g f i (hV u 220 31)))) := hs
    obtain ⟨D, G, q1, q2, q3, q4⟩ := ih n (i + 1) _ (by omega) (by omega) hs4 (by rw [hV_put_n (by decide), hV_put_n (by decide), hS]) (fun c hc => by rw [hV_put_n (by decide), hV_put_n (by decide)]; exact ex c hc) (fun j hj => by rw [hV_put_n (by decide), hV_put_n (by decide)]; exact hK j hj) (by rw [hV_put_s, sup_n (by decide), sup_s]; omega) (by rw [hV_put_s, sup_n (by decide), sup_s]; omega) (by rw [hV_put_s, sup_s]; exact in31)
    rw [hV_put_s] at q2 q3 q4
    refine ⟨D, G, ?_, ?_, ?_, fun j h3 h4 => ?_⟩
    · rw [q1, put_comm (show 220 ≠ 232 by decide) (hput u 232 D2), hput_put, hput_put]
    · rw [q2, sup_n (by decide), sup_s, sumU_s, Int.add_assoc]
    · rw [q3, sup_s, accN_s]
    · rw [q4 j h3 h4, sup_n h4, sup_n h3]
theorem y_gK {u : hS} (hs : shp u) (b : Nat) : ∀ (k n i : Nat) (K : Nat → Int), k < n → i + k = 72 → (∀ j, j < i → K j = hV u 230 (22 + j)) → ∃ K', m_X10_grows_L12 n 220 b i (hput u 236 K) = m_X10_grows_L41 1000000000 220 b 0 (hput u 236 K') ∧ ∀ j, j < 72 → K' j = hV u 230 (22 + j) := by
  intro k
  induction k with
  | zero =>
    intro n i K hn hi hK
    obtain ⟨n, rfl⟩ : ∃ k, n = k + 1 := ⟨n - 1, by omega⟩
    refine ⟨K, ?_, fun j hj => hK j (by omega)⟩
    simp only [m_X10_grows_L12, hgI_k, hgR_k, hpI_k, hpR_k, hpZ_k, haI_k, haR_k, hsI_k, hsZ_k, hlen_k, hlet_p, hret_p, hretZ_0, hretZ_1, hif_p, okk_setV, okk_setF, nV, nF, fV, vF]
    rw [if_pos (by omega)]
  | succ k ih =>
    intro n i K hn hi hK
    obtain ⟨n, rfl⟩ : ∃ k, n = k + 1 := ⟨n - 1, by omega⟩
    have i72 : i < 72 := by omega
    have i160 : 22 + i < 160 := by omega
    have ix : w32 (22 + (i : Int)) = ((22 + i : Nat) : Int) := by
      rw [w32_id ⟨by omega, by omega⟩]
      omega
    obtain ⟨K', e1, e2⟩ := ih n (i + 1) (sup K i (hV u 230 (22 + i))) (by omega) (by omega) (fun j hj => by
      by_cases q : j = i
      · rw [q, sup_s]
      · rw [sup_n q]
        exact hK j (by omega))
    refine ⟨K', ?_, e2⟩
    rw [← e1]
    simp only [m_X10_grows_L12, hgI_k, hgR_k, hpI_k, hpR_k, hpZ_k, haI_k, haR_k, hsI_k, hsZ_k, hlen_k, hlet_p, hret_p, hretZ_0, hretZ_1, hif_p, okk_setV, okk_setF, nV, nF, fV, vF, okk_put, nP, fP, haI_n, hsI_n, kk_220 hs, kk_230 hs, kk_236 hs, rf_220_20 hs, rf_220_29 hs, ln_230 hs, ln_236 hs, i72, i160, ix, hV_put_n (show 230 ≠ 236 by decide), setV_put, ix_s (show i < 1000000 by omega)]
    rw [if_neg (by omega)]
theorem y_grows {S : Nat → Int} (ws : WS S) (wv : WV S) {b : Nat} (hb : (b : Int) < S 2) (s1 : 1 ≤ S 1) {f g : Nat → Nat} (hf : ∀ p : Nat, (p : Int) < S 4 → isRch S (-1) p (f p)) (hg : ∀ p : Nat, (p : Int) < S 4 → isRch S b p (g p)) {u : hS} (hs : shp u) (hS : hV u 230 = S) (ex : ∀ c, c < 9 → hV u 231 c = 0) : ∃ K D G, m_X10_grows 220 b u = some (0, hput (hput (hput u 236 K) 232 D) 220 G) ∧ G 30 = sumU (dif g f) (S 4).toNat 0 ∧ G 31 = accN (gai g f) (S 4).toNat 0 0 ∧ ∀ j, j ≠ 30 → j ≠ 31 → G j = hV u 220 j := by
  have w4 := ws.2.2.2.2.1
  have hs1 : shp (hput u 220 (sup (sup (hV u 220) 30 0) 31 0)) := hs
  obtain ⟨K, k1, k2⟩ := y_gK hs1 b 72 1000000000 0 (hV u 236) (by omega) (by omega) (fun j hj => by omega)
  have q236 : hV (hput u 220 (sup (sup (hV u 220) 30 0) 31 0)) 236 = hV u 236 := hV_put_n (by decide)
  rw [← q236, hput_self] at k1
  have hs2 : shp (hput (hput u 220 (sup (sup (hV u 220) 30 0) 31 0)) 236 K) := hs
  have e220 : hV (hput (hput u 220 (sup (sup (hV u 220) 30 0) 31 0)) 236 K) 220 = sup (sup (hV u 220) 30 0) 31 0 := by rw [hV_put_n (by decide), hV_put_s]
  have e30 : sup (sup (hV u 220) 30 0) 31 0 30 = 0 := by rw [sup_n (by decide), sup_s]
  have e31 : sup (sup (hV u 220) 30 0) 31 0 31 = 0 := sup_s
  obtain ⟨D, G, q1, q2, q3, q4⟩ := y_growL ws wv hb s1 hf hg (S 4).toNat 1000000000 0 _ (by omega) (by omega) hs2 (by rw [hV_put_n (by decide), hV_put_n (by decide), hS]) (fun c hc => by rw [hV_put_n (by decide), hV_put_n (by decide)]; exact ex c hc) (fun j hj => by rw [hV_put_s, k2 j hj, hV_put_n (by decide), hS]) (by rw [e220, e30]; omega) (by rw [e220, e30]; omega) (by rw [e220, e31]; exact ⟨by omega, by omega⟩)
  rw [e220] at q2 q3 q4
  refine ⟨K, D, G, ?_, ?_, ?_, fun j h3 h4 => ?_⟩
  · have e : hput (hput (hput (hput u 220 (sup (sup (hV u 220) 30 0) 31 0)) 236 K) 232 D) 220 G = hput (hput (hput u 236 K) 232 D) 220 G := by
      rw [put_comm (show 220 ≠ 236 by decide) u, put_comm (show 220 ≠ 232 by decide) (hput u 236 K), hput_put]
    rw [← e, ← q1]
    simp only [m_X10_grows, hgI_k, hgR_k, hpI_k, hpR_k, hpZ_k, haI_k, haR_k, hsI_k, hsZ_k, hlen_k, hlet_p, hret_p, hretZ_0, hretZ_1, hif_p, okk_setV, okk_setF, nV, nF, fV, vF, okk_put, nP, fP, kk_220 hs, setV_put1 u, setV_put]
    exact k1
  · rw [q2, e30, Int.zero_add]
  · rw [q3, e31]
  · rw [q4 j h3 h4, sup_n h4, sup_n h3]
