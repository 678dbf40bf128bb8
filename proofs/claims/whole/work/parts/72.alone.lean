/-! the bridge best rebuilt: both -/
theorem put3 (u : hS) (K K' D D' G G' : Nat → Int) : hput (hput (hput (hput (hput (hput u 236 K) 232 D) 220 G) 236 K') 232 D') 220 G' = hput (hput (hput u 236 K') 232 D') 220 G' := by
  rw [put_comm (show 220 ≠ 236 by decide) (hput (hput u 236 K) 232 D), put_comm (show 220 ≠ 232 by decide) (hput (hput (hput u 236 K) 232 D) 236 K'), hput_put, put_comm (show 232 ≠ 236 by decide) (hput u 236 K), hput_put, hput_put]
theorem y_bestL {S : Nat → Int} (ws : WS S) (wv : WV S) (s1 : 0 < S 2 → 1 ≤ S 1) {f : Nat → Nat} {g : Int → Nat → Nat} (hg : ∀ (e : Int) (p : Nat), (p : Int) < S 4 → isRch S e p (g e p)) (hf : ∀ p : Nat, (p : Int) < S 4 → isRch S (-1) p (f p)) (w : Int) : ∀ (k n i : Nat) (b m : Int) (u : hS), k < n → S 2 = ((i + k : Nat) : Int) → shp u → hV u 230 = S → (∀ c, c < 9 → hV u 231 c = 0) → ∃ K D G, m_X10_best_L32 n 220 w b m (accN (gai (g b) f) (S 4).toNat 0 0) i u = some (let z := bst (fun c => sumU (dif (g c) f) (S 4).toNat 0) k i b m; if w = 0 then z.1 else if w = 1 then z.2 else accN (gai (g z.1) f) (S 4).toNat 0 0, hput (hput (hput u 236 K) 232 D) 220 G) ∧ ∀ j, j ≠ 30 → j ≠ 31 → G j = hV u 220 j := by
  have w2 := ws.2.2.1
  intro k
  induction k with
  | zero =>
    intro n i b m u hn hv hs hS ex
    obtain ⟨n, rfl⟩ : ∃ k, n = k + 1 := ⟨n - 1, by omega⟩
    refine ⟨hV u 236, hV u 232, hV u 220, ?_, fun _ _ _ => rfl⟩
    rw [hput_self, hput_self, hput_self]
    simp only [m_X10_best_L32, m_X10_best_L99, hgI_k, hgR_k, hpI_k, hpR_k, hpZ_k, haI_k, haR_k, hsI_k, hsZ_k, hlen_k, hlet_p, hret_p, hretZ_0, hretZ_1, hif_p, okk_setV, okk_setF, nV, nF, fV, vF, haI_2, kk_220 hs, kk_230 hs, rf_220_20 hs, ln_230 hs, lt_c 2 160 rfl, hS, bst]
    rw [if_pos (by omega)]
    by_cases h0 : w = 0
    · rw [if_neg (fun z => z h0), if_pos h0]
    · rw [if_pos h0, if_neg h0]
      by_cases h1 : w = 1
      · rw [if_neg (fun z => z h1), if_pos h1]
      · rw [if_pos h1, if_neg h1]
  | succ k ih =>
    intro n i b m u hn hv hs hS ex
    obtain ⟨n, rfl⟩ : ∃ k, n = k + 1 := ⟨n - 1, by omega⟩
    obtain ⟨K, D, G, q1, q2, q3, q4⟩ := y_grows ws wv (b := i) (by omega) (s1 (by omega)) hf (hg i) hs hS ex
    have hs1 : shp (hput (hput (hput u 236 K) 232 D) 220 G) := hs
    have g230 : hV (hput (hput (hput u 236 K) 232 D) 220 G) 230 = S := by rw [hV_put_n (by decide), hV_put_n (by decide), hV_put_n (by decide), hS]
    have g231 : ∀ c, c < 9 → hV (hput (hput (hput u 236 K) 232 D) 220 G) 231 c = 0 := fun c hc => by
      rw [hV_put_n (by decide), hV_put_n (by decide), hV_put_n (by decide)]
      exact ex c hc
    rw [bst_s]
    by_cases h : m < sumU (dif (g i) f) (S 4).toNat 0
    · obtain ⟨K', D', G', e1, e2⟩ := ih n (i + 1) i (sumU (dif (g i) f) (S 4).toNat 0) _ (by omega) (by omega) hs1 g230 g231
      rw [put3] at e1
      refine ⟨K', D', G', ?_, fun j h1 h2 => ?_⟩
      · simp only [if_pos h]
        rw [← e1]
        simp only [m_X10_best_L32, m_X10_best_L74, hgI_k, hgR_k, hpI_k, hpR_k, hpZ_k, haI_k, haR_k, hsI_k, hsZ_k, hlen_k, hlet_p, hret_p, hretZ_0, hretZ_1, hif_p, okk_setV, okk_setF, nV, nF, fV, vF, okk_put, nP, fP, hcallV_b, hbind_p, haI_2, kk_220 hs, kk_230 hs, rf_220_20 hs, ln_230 hs, lt_c 2 160 rfl, hS, q1, hV_put_s, q2, q3, ix_s (show i < 1000000 by omega)]
        rw [if_neg (by omega), if_pos (by omega)]
      · rw [e2 j h1 h2, hV_put_s, q4 j h1 h2]
    · obtain ⟨K', D', G', e1, e2⟩ := ih n (i + 1) b m _ (by omega) (by omega) hs1 g230 g231
      rw [put3] at e1
      refine ⟨K', D', G', ?_, fun j h1 h2 => ?_⟩
      · simp only [if_neg h]
        rw [← e1]
        simp only [m_X10_best_L32, m_X10_best_L74, hgI_k, hgR_k, hpI_k, hpR_k, hpZ_k, haI_k, haR_k, hsI_k, hsZ_k, hlen_k, hlet_p, hret_p, hretZ_0, hretZ_1, hif_p, okk_setV, okk_setF, nV, nF, fV, vF, okk_put, nP, fP, hcallV_b, hbind_p, haI_2, kk_220 hs, kk_230 hs, rf_220_20 hs, ln_230 hs, lt_c 2 160 rfl, hS, q1, hV_put_s, q2, q3, ix_s (show i < 1000000 by omega)]
        rw [if_neg (by omega), if_neg (by omega)]
      · rw [e2 j h1 h2, hV_put_s, q4 j h1 h2]
theorem gai_0 {g f : Nat → Nat} : ∀ k i, (∀ p, i ≤ p → p < i + k → g p = f p) → ∀ a, accN (gai g f) k i a = a := by
  intro k
  induction k with
  | zero =>
    intro i h a
    rfl
  | succ k ih =>
    intro i h a
    rw [accN_s, ih (i + 1) (fun p h1 h2 => h p (by omega) (by omega))]
    unfold gai
    rw [if_pos (h i (by omega) (by omega))]
theorem RepF.lim {u : hS} {s t : Nat} {S : Nat → Int} (r : RepF u s t S) (h : 0 < S 2) : 1 ≤ S 1 := by
  have z := r.2.2.1.2.2.1 (show 0 < twn S 2 from by
    unfold twn
    rw [if_pos (by omega)]
    exact h)
  rw [r.1.v1] at z
  exact z
theorem a_best {u : hS} (hs : shp u) (ai : actInv u) (ex : ∀ b, b < 9 → hV u 231 b = 0) (w : Int) : ∃ (r : Int) (E K D G : Nat → Int), m_X9_best 1 w u = some (r, hput u 10 E) ∧ m_X10_best 220 w (hput u 10 E) = some (r, hput (hput (hput (hput u 10 E) 236 K) 232 D) 220 G) ∧ ∀ j, j ≠ 30 → j ≠ 31 → G j = hV u 220 j := by
  obtain ⟨t, c, r, ru, h25⟩ := id ai
  have ws := r.2.2.2.1
  have wv := r.2.2.2.2
  have w2 := ws.2.2.1
  have w4 := ws.2.2.2.2.1
  have tz := r.2.1
  have n10 : ¬ (1 : Int) = 0 := by decide
  have n11 : (1 : Int) ≠ 0 := by decide
  by_cases h0 : hV u 230 0 ≤ 0
  · refine ⟨-1, hV u 10, hV u 236, hV u 232, hV u 220, ?_, ?_, fun _ _ _ => rfl⟩
    · rw [hput_self]
      simp only [m_X9_best, m_X9_best_L16, hgI_k, hgR_k, hpI_k, hpR_k, hpZ_k, haI_k, haR_k, hsI_k, hsZ_k, hlen_k, hlet_p, hret_p, hretZ_0, hretZ_1, hif_p, okk_setV, okk_setF, nV, nF, fV, vF, hcallV_b, hbind_p, x_hasTown hs r.1, kk_1 hs, if_pos h0, if_true]
    · rw [hput_self, hput_self, hput_self, hput_self]
      simp only [m_X10_best, m_X10_best_L19, hgI_k, hgR_k, hpI_k, hpR_k, hpZ_k, haI_k, haR_k, hsI_k, hsZ_k, hlen_k, hlet_p, hret_p, hretZ_0, hretZ_1, hif_p, okk_setV, okk_setF, nV, nF, fV, vF, hcallV_b, hbind_p, y_isTown hs, kk_220 hs, if_pos h0, if_true]
  by_cases hw : 0 ≤ w ∧ w ≤ 2
  case neg =>
    refine ⟨-1, hV u 10, hV u 236, hV u 232, hV u 220, ?_, ?_, fun _ _ _ => rfl⟩
    · rw [hput_self]
      simp only [m_X9_best, m_X9_best_L16, hgI_k, hgR_k, hpI_k, hpR_k, hpZ_k, haI_k, haR_k, hsI_k, hsZ_k, hlen_k, hlet_p, hret_p, hretZ_0, hretZ_1, hif_p, okk_setV, okk_setF, nV, nF, fV, vF, hcallV_b, hbind_p, x_hasTown hs r.1, kk_1 hs, if_neg h0, if_neg n10]
      by_cases h1 : w < 0
      · rw [if_pos h1]
      · rw [if_neg h1, if_neg (by omega)]
    · rw [hput_self, hput_self, hput_self, hput_self]
      simp only [m_X10_best, m_X10_best_L19, hgI_k, hgR_k, hpI_k, hpR_k, hpZ_k, haI_k, haR_k, hsI_k, hsZ_k, hlen_k, hlet_p, hret_p, hretZ_0, hretZ_1, hif_p, okk_setV, okk_setF, nV, nF, fV, vF, hcallV_b, hcall_b, hbind_p, y_isTown hs, y_in, kk_220 hs, if_neg h0, if_neg n10, if_neg hw, ne_eq, not_true_eq_false, if_false]
  obtain ⟨g, hg⟩ := rch_ex r.1 ws wv
  obtain ⟨E, e1, e2⟩ := x_findReaches hs r.1 tz ws wv (f := g (-1)) (hg (-1))
  have hs1 : shp (hput u 10 E) := hs
  have r1 := r.1.fr (ext.put u 10 E) (fun a _ _ => agr.put (by omega)) (fun a _ _ => agr.put (by omega))
  have k230 : hV (hput u 10 E) 230 = hV u 230 := hV_put_n (by decide)
  have k231 : ∀ b, b < 9 → hV (hput u 10 E) 231 b = 0 := fun b hb => by
    rw [hV_put_n (by decide)]
    exact ex b hb
  have X := x_bestL hs1 r1 ws wv (f := g (-1)) hg (hg (-1)) (fun p hp => by rw [hV_put_s, e2 p hp]) w (hV u 230 2).toNat 1000000000 0 (-2) 0 (by omega) (by omega)
  obtain ⟨K, D, G, Y, Z⟩ := y_bestL ws wv (fun z => r.lim z) (f := g (-1)) hg (hg (-1)) w (hV u 230 2).toNat 1000000000 0 (-2) 0 (hput u 10 E) (by omega) (by omega) hs1 k230 k231
  have z0 : accN (gai (g (-2)) (g (-1))) (hV u 230 4).toNat 0 0 = 0 := gai_0 _ _ (fun p _ hp => rch_one (fun b hb => by
    unfold opnX
    exact decide_eq_decide.mpr (by omega)) (hg (-2) p (by omega)) (hg (-1) p (by omega))) 0
  rw [z0] at Y
  refine ⟨let z := bst (fun c => sumU (dif (g c) (g (-1))) (hV u 230 4).toNat 0) (hV u 230 2).toNat 0 (-2) 0; if w = 0 then z.1 else if w = 1 then z.2 else accN (gai (g z.1) (g (-1))) (hV u 230 4).toNat 0 0, E, K, D, G, ?_, ?_, fun j h1 h2 => by rw [Z j h1 h2, hV_put_n (by decide)]⟩
  · simp only [m_X9_best, hgI_k, hgR_k, hpI_k, hpR_k, hpZ_k, haI_k, haR_k, hsI_k, hsZ_k, hlen_k, hlet_p, hret_p, hretZ_0, hretZ_1, hif_p, okk_setV, okk_setF, nV, nF, fV, vF, hcallV_b, hbind_p, x_hasTown hs r.1, kk_1 hs, if_neg h0, if_neg n10, e1, if_neg (show ¬ w < 0 by omega), if_pos hw.2]
    exact X
  · simp only [m_X10_best, hgI_k, hgR_k, hpI_k, hpR_k, hpZ_k, haI_k, haR_k, hsI_k, hsZ_k, hlen_k, hlet_p, hret_p, hretZ_0, hretZ_1, hif_p, okk_setV, okk_setF, nV, nF, fV, vF, hcallV_b, hcall_b, hbind_p, y_isTown hs1, y_in, kk_220 hs1, k230, if_neg h0, if_neg n10, if_pos hw, if_pos n11]
    exact Y
/-! who is alone -/
theorem bit_at : ∀ m : Nat, m < 512 → ∀ a : Nat, a < 8 → iandZ (ishrZ (m : Int) (a : Int)) 1 = if m.testBit a = true then 1 else 0 := by decide +kernel
def othr (f : Nat → Nat) (p a : Nat) : Nat → Bool := fun o => decide (o ≠ p ∧ (f o).testBit a = true)
theorem x_inR {u : hS} (hs : shp u) {t : Nat} {S : Nat → Int} (r : RepS u 30 t S) (ws : WS S) (wv : WV S) {f : Nat → Nat} (hf : ∀ p : Nat, (p : Int) < S 4 → f p < 512) (h10 : ∀ p : Nat, (p : Int) < S 4 → hV u 10 p = (f p : Int)) {p a : Nat} (hp : (p : Int) < S 4) (ha1 : S (10 + 3 * p) = a) : ∀ k n i : Nat, k < n → S 4 = ((i + k : Nat) : Int) → m_X9_isInReachOfOthers_L2 n 1 p i u = some (anyN (othr f p a) k i, u) := by
  have w0 := ws.1
  have w4 := ws.2.2.2.2.1
  have ht := r.ht
  have ha := r.ha
  have zq := (wv.2.2.1 p hp).1
  have a8 : a < 8 := by omega
  have p4 : p < 4 := by omega
  have at1 := r.at p hp
  intro k
  induction k with
  | zero =>
    intro n i hn hv
    obtain ⟨n, rfl⟩ : ∃ k, n = k + 1 := ⟨n - 1, by omega⟩
    simp only [m_X9_isInReachOfOthers_L2, hgI_k, hgR_k, hpI_k, hpR_k, hpZ_k, haI_k, haR_k, hsI_k, hsZ_k, hlen_k, hlet_p, hret_p, hretZ_0, hretZ_1, hif_p, okk_setV, okk_setF, nV, nF, fV, vF, kk_1 hs, kk_30 hs, rf_1_3 hs, r.to, TwA.k0 ht, TwA.k1 ht, TwA.k2 ht, TwA.k3 ht, TwA.k4 ht, TwA.k5 ht, TwA.k6 ht, TwA.k7 ht, TwA.k8 ht, TwA.k9 ht, TwA.k10 ht, TwA.k11 ht, TwA.k12 ht, TwA.k13 ht, TwA.k14 ht, TwA.k15 ht, TwA.k16 ht, TwA.k17 ht, TwA.n2 ht, TwA.n3 ht, TwA.n4 ht, TwA.n6 ht, TwA.n7 ht, TwA.n8 ht, TwA.n9 ht, TwA.n10 ht, TwA.n11 ht, TwA.n12 ht, TwA.n13 ht, TwA.n14 ht, TwA.n15 ht, TwA.n16 ht, TwA.n17 ht, TwA.f2 ht, TwA.f3 ht, TwA.f5 ht, TwA.f6 ht, TwA.f8 ht, TwA.f9 ht, TwA.f11 ht, TwA.f12 ht, TwA.f13 ht, TwA.f14 ht, TwA.f15 ht, TwA.b0 ht, TwA.b1 ht, TwA.b2 ht, TwA.g0 ht, TwA.g1 ht, TwA.g2 ht, r.v4]
    rw [if_pos (by omega)]
    rfl
  | succ k ih =>
    intro n i hn hv
    obtain ⟨n, rfl⟩ : ∃ k, n = k + 1 := ⟨n - 1, by omega⟩
    have hi : (i : Int) < S 4 := by omega
    have i4 : i < 4 := by omega
    have bt := bit_at (f i) (hf i hi) a a8
    simp only [m_X9_isInReachOfOthers_L2, m_X9_isInReachOfOthers_L44, hgI_k, hgR_k, hpI_k, hpR_k, hpZ_k, haI_k, haR_k, hsI_k, hsZ_k, hlen_k, hlet_p, hret_p, hretZ_0, hretZ_1, hif_p, okk_setV, okk_setF, nV, nF, fV, vF, haI_n, kk_1 hs, kk_30 hs, kk_10 hs, rf_1_3 hs, rf_1_16 hs, ln_10 hs, r.to, TwA.k0 ht, TwA.k1 ht, TwA.k2 ht, TwA.k3 ht, TwA.k4 ht, TwA.k5 ht, TwA.k6 ht, TwA.k7 ht, TwA.k8 ht, TwA.k9 ht, TwA.k10 ht, TwA.k11 ht, TwA.k12 ht, TwA.k13 ht, TwA.k14 ht, TwA.k15 ht, TwA.k16 ht, TwA.k17 ht, TwA.n2 ht, TwA.n3 ht, TwA.n4 ht, TwA.n6 ht, TwA.n7 ht, TwA.n8 ht, TwA.n9 ht, TwA.n10 ht, TwA.n11 ht, TwA.n12 ht, TwA.n13 ht, TwA.n14 ht, TwA.n15 ht, TwA.n16 ht, TwA.n17 ht, TwA.f2 ht, TwA.f3 ht, TwA.f5 ht, TwA.f6 ht, TwA.f8 ht, TwA.f9 ht, TwA.f11 ht, TwA.f12 ht, TwA.f13 ht, TwA.f14 ht, TwA.f15 ht, TwA.b0 ht, TwA.b1 ht, TwA.b2 ht, TwA.g0 ht, TwA.g1 ht, TwA.g2 ht, StA.k0 ha, StA.k1 ha, StA.k2 ha, StA.k3 ha, StA.k4 ha, StA.n1 ha, StA.n2 ha, StA.n3 ha, StA.n4 ha, StA.f2 ha, StA.f3 ha, StA.f4 ha, StA.f5 ha, r.v4, i4, p4, h10 i hi, at1, ha1, bt, ix_s (show i < 1000000 by omega)]
    rw [if_neg (by omega), ih n (i + 1) (by omega) (by omega), anyN_s]
    unfold othr
    by_cases e : i = p
    · rw [if_pos (by omega), if_neg (fun z => (of_decide_eq_true z).1 e)]
    · rw [if_neg (by omega)]
      by_cases h : (f i).testBit a = true
      · rw [if_pos h, if_neg (by decide), if_pos (decide_eq_true ⟨e, h⟩)]
      · rw [if_neg h, if_pos rfl, if_neg (fun z => h (of_decide_eq_true z).2)]
/-- alone: nobody else comes to where one is -/
def aln (f : Nat → Nat) (S : Nat → Int) (p : Nat) (b : Int) : Int := if anyN (othr f p (S (10 + 3 * p)).toNat) (S 4).toNat 0 = 0 then iorZ b (ishlZ 1 p) else b
theorem x_alL {u : hS} (hs : shp u) {t : Nat} {S : Nat → Int} (r : RepS u 30 t S) (ws : WS S) (wv : WV S) {f : Nat → Nat} (hf : ∀ p : Nat, (p : Int) < S 4 → f p < 512) (h10 : ∀ p : Nat, (p : Int) < S 4 → hV u 10 p = (f p : Int)) : ∀ (k n i : Nat) (b : Int), k < n → S 4 = ((i + k : Nat) : Int) → m_X9_alone_L17 n 1 b i u = some (accN (aln f S) k i b, u) := by
  have w4 := ws.2.2.2.2.1
  have ht := r.ht
  intro k
  induction k with
  | zero =>
    intro n i b hn hv
    obtain ⟨n, rfl⟩ : ∃ k, n = k + 1 := ⟨n - 1, by omega⟩
    simp only [m_X9_alone_L17, hgI_k, hgR_k, hpI_k, hpR_k, hpZ_k, haI_k, haR_k, hsI_k, hsZ_k, hlen_k, hlet_p, hret_p, hretZ_0, hretZ_1, hif_p, okk_setV, okk_setF, nV, nF, fV, vF, kk_1 hs, kk_30 hs, rf_1_3 hs, r.to, TwA.k0 ht, TwA.k1 ht, TwA.k2 ht, TwA.k3 ht, TwA.k4 ht, TwA.k5 ht, TwA.k6 ht, TwA.k7 ht, TwA.k8 ht, TwA.k9 ht, TwA.k10 ht, TwA.k11 ht, TwA.k12 ht, TwA.k13 ht, TwA.k14 ht, TwA.k15 ht, TwA.k16 ht, TwA.k17 ht, TwA.n2 ht, TwA.n3 ht, TwA.n4 ht, TwA.n6 ht, TwA.n7 ht, TwA.n8 ht, TwA.n9 ht, TwA.n10 ht, TwA.n11 ht, TwA.n12 ht, TwA.n13 ht, TwA.n14 ht, TwA.n15 ht, TwA.n16 ht, TwA.n17 ht, TwA.f2 ht, TwA.f3 ht, TwA.f5 ht, TwA.f6 ht, TwA.f8 ht, TwA.f9 ht, TwA.f11 ht, TwA.f12 ht, TwA.f13 ht, TwA.f14 ht, TwA.f15 ht, TwA.b0 ht, TwA.b1 ht, TwA.b2 ht, TwA.g0 ht, TwA.g1 ht, TwA.g2 ht, r.v4]
    rw [if_pos (by omega)]
    rfl
  | succ k ih =>
    intro n i b hn hv
    obtain ⟨n, rfl⟩ : ∃ k, n = k + 1 := ⟨n - 1, by omega⟩
    have hi : (i : Int) < S 4 := by omega
    have zq := (wv.2.2.1 i hi).1
    have X := x_inR hs r ws wv hf h10 hi (a := (S (10 + 3 * i)).toNat) (by omega) (S 4).toNat 1000000000 0 (by omega) (by omega)
    have X' : m_X9_isInReachOfOthers 1 i u = some (anyN (othr f i (S (10 + 3 * i)).toNat) (S 4).toNat 0, u) := by
      simp only [m_X9_isInReachOfOthers, hlet_p]
      exact X
    simp only [m_X9_alone_L17, m_X9_alone_L45, hgI_k, hgR_k, hpI_k, hpR_k, hpZ_k, haI_k, haR_k, hsI_k, hsZ_k, hlen_k, hlet_p, hret_p, hretZ_0, hretZ_1, hif_p, okk_setV, okk_setF, nV, nF, fV, vF, hcallV_b, hbind_p, kk_1 hs, kk_30 hs, rf_1_3 hs, r.to, TwA.k0 ht, TwA.k1 ht, TwA.k2 ht, TwA.k3 ht, TwA.k4 ht, TwA.k5 ht, TwA.k6 ht, TwA.k7 ht, TwA.k8 ht, TwA.k9 ht, TwA.k10 ht, TwA.k11 ht, TwA.k12 ht, TwA.k13 ht, TwA.k14 ht, TwA.k15 ht, TwA.k16 ht, TwA.k17 ht, TwA.n2 ht, TwA.n3 ht, TwA.n4 ht, TwA.n6 ht, TwA.n7 ht, TwA.n8 ht, TwA.n9 ht, TwA.n10 ht, TwA.n11 ht, TwA.n12 ht, TwA.n13 ht, TwA.n14 ht, TwA.n15 ht, TwA.n16 ht, TwA.n17 ht, TwA.f2 ht, TwA.f3 ht, TwA.f5 ht, TwA.f6 ht, TwA.f8 ht, TwA.f9 ht, TwA.f11 ht, TwA.f12 ht, TwA.f13 ht, TwA.f14 ht, TwA.f15 ht, TwA.b0 ht, TwA.b1 ht, TwA.b2 ht, TwA.g0 ht, TwA.g1 ht, TwA.g2 ht, r.v4, X', ix_s (show i < 1000000 by omega)]
    rw [if_neg (by omega), ih n (i + 1) _ (by omega) (by omega), ih n (i + 1) _ (by omega) (by omega), accN_s]
    unfold aln
    by_cases h : anyN (othr f i (S (10 + 3 * i)).toNat) (S 4).toNat 0 = 0
    · rw [if_neg (fun z => z h), if_pos h]
    · rw [if_pos h, if_neg h]
theorem y_alI {u : hS} (hs : shp u) (ws : WS (hV u 230)) (wv : WV (hV u 230)) (ex : ∀ c, c < 9 → hV u 231 c = 0) {f : Nat → Nat} (hf : ∀ p : Nat, (p : Int) < hV u 230 4 → isRch (hV u 230) (-1) p (f p)) {p a : Nat} (hp : (p : Int) < hV u 230 4) (ha1 : hV u 230 (10 + 3 * p) = a) (K : Nat → Int → Int → hM) (l1 : Int) : ∀ (k n i : Nat) (l3 : Int) (D : Nat → Int), k < n → hV u 230 4 = ((i + k : Nat) : Int) → (l3 = 0 ∨ l3 = 1) → ∃ D', m_X10_alone_L28 K n 220 l1 p l3 i (hput u 232 D) = K 220 (iorZ l1 (if l3 = 0 ∨ anyN (othr f p a) k i = 1 then 0 else ishlZ 1 p)) ((p + 1 : Nat) : Int) (hput u 232 D') := by
  have w0 := ws.1
  have w4 := ws.2.2.2.2.1
  have zq := (wv.2.2.1 p hp).1
  have a8 : a < 8 := by omega
  have p4 : p < 4 := by omega
  intro k
  induction k with
  | zero =>
    intro n i l3 D hn hv h3
    obtain ⟨n, rfl⟩ : ∃ k, n = k + 1 := ⟨n - 1, by omega⟩
    refine ⟨D, ?_⟩
    simp only [m_X10_alone_L28, m_X10_alone_L91, hgI_k, hgR_k, hpI_k, hpR_k, hpZ_k, haI_k, haR_k, hsI_k, hsZ_k, hlen_k, hlet_p, hret_p, hretZ_0, hretZ_1, hif_p, okk_setV, okk_setF, nV, nF, fV, vF, okk_put, nP, fP, haI_4, kk_220 hs, kk_230 hs, rf_220_20 hs, ln_230 hs, lt_c 4 160 rfl, hV_put_n (show 230 ≠ 232 by decide), ix_s (show p < 1000000 by omega)]
    rw [if_pos (by omega)]
    have z : ¬ anyN (othr f p a) 0 i = 1 := by
      show ¬ (0 : Int) = 1
      decide
    rcases h3 with rfl | rfl
    · rw [if_pos rfl, if_pos (Or.inl rfl)]
    · rw [if_neg (by decide), if_neg (by
        intro y
        rcases y with y | y
        · exact absurd y (by decide)
        · exact z y)]
  | succ k ih =>
    intro n i l3 D hn hv h3
    obtain ⟨n, rfl⟩ : ∃ k, n = k + 1 := ⟨n - 1, by omega⟩
    have hi : (i : Int) < hV u 230 4 := by omega
    have e0 : ∀ q : Nat, q < 4 → hV (hput u 232 D) 230 = hV u 230 := fun _ _ => hV_put_n (by decide)
    have hs1 : shp (hput u 232 D) := hs
    have k230 : hV (hput u 232 D) 230 = hV u 230 := hV_put_n (by decide)
    obtain ⟨D1, d1⟩ := y_rch hs1 (by rw [k230]; exact ws) (by rw [k230]; exact wv) (p := i) (by rw [k230]; exact hi) (e := -1) (fun c hc => by rw [hV_put_n (by decide), ex c hc, if_neg (by omega)]) (by rw [k230]; exact hf i hi)
    rw [hput_put] at d1
    have hs2 : shp (hput u 232 D1) := hs
    have po := y_personOf0 hs2 p4
    rw [hV_put_n (by decide), ha1] at po
    have bt := bit_at (f i) (rch_lt (hf i hi)) a a8
    rw [anyN_s]
    have stp0 : ∀ (v : hS) (l3 : Int), m_X10_alone_L72 K (m_X10_alone_L28 K n) 220 l1 p i l3 v = m_X10_alone_L28 K n 220 l1 p l3 ((i + 1 : Nat) : Int) v := fun v l3 => by
      simp only [m_X10_alone_L72, hgI_k, hgR_k, hpI_k, hpR_k, hpZ_k, haI_k, haR_k, hsI_k, hsZ_k, hlen_k, hlet_p, hret_p, hretZ_0, hretZ_1, hif_p, okk_setV, okk_setF, nV, nF, fV, vF, ix_s (show i < 1000000 by omega)]
    by_cases e3 : l3 = 0
    · subst e3
      obtain ⟨D', q⟩ := ih n (i + 1) 0 D (by omega) (by omega) (Or.inl rfl)
      refine ⟨D', ?_⟩
      rw [if_pos (Or.inl rfl)] at q ⊢
      rw [← q]
      simp only [m_X10_alone_L28, m_X10_alone_L71, stp0, hgI_k, hgR_k, hpI_k, hpR_k, hpZ_k, haI_k, haR_k, hsI_k, hsZ_k, hlen_k, hlet_p, hret_p, hretZ_0, hretZ_1, hif_p, okk_setV, okk_setF, nV, nF, fV, vF, okk_put, nP, fP, haI_4, kk_220 hs, kk_230 hs, rf_220_20 hs, ln_230 hs, lt_c 4 160 rfl, k230]
      rw [if_neg (by omega), if_pos trivial]
    · have l31 : l3 = 1 := by omega
      subst l31
      have n10 : ¬ (1 : Int) = 0 := by decide
      by_cases e : i = p
      · obtain ⟨D', q⟩ := ih n (i + 1) 1 D (by omega) (by omega) (Or.inr rfl)
        refine ⟨D', ?_⟩
        have ob : ¬ othr f p a i = true := fun z => (of_decide_eq_true z).1 e
        rw [if_neg ob]
        rw [← q]
        simp only [m_X10_alone_L28, m_X10_alone_L67, stp0, hgI_k, hgR_k, hpI_k, hpR_k, hpZ_k, haI_k, haR_k, hsI_k, hsZ_k, hlen_k, hlet_p, hret_p, hretZ_0, hretZ_1, hif_p, okk_setV, okk_setF, nV, nF, fV, vF, okk_put, nP, fP, haI_4, kk_220 hs, kk_230 hs, rf_220_20 hs, ln_230 hs, lt_c 4 160 rfl, k230]
        rw [if_neg (by omega), if_neg n10, if_pos (by omega)]
      · by_cases h : (f i).testBit a = true
        · obtain ⟨D', q⟩ := ih n (i + 1) 0 D1 (by omega) (by omega) (Or.inl rfl)
          refine ⟨D', ?_⟩
          have ob : othr f p a i = true := decide_eq_true ⟨e, h⟩
          rw [if_pos ob, if_pos (Or.inr rfl)]
          rw [if_pos (Or.inl rfl)] at q
          rw [← q]
          simp only [m_X10_alone_L28, m_X10_alone_L71, m_X10_isOf, m_X10_isOf_L14, stp0, hgI_k, hgR_k, hpI_k, hpR_k, hpZ_k, haI_k, haR_k, hsI_k, hsZ_k, hlen_k, hlet_p, hret_p, hretZ_0, hretZ_1, hif_p, okk_setV, okk_setF, nV, nF, fV, vF, okk_put, nP, fP, hcallV_b, hcall_b, hbind_p, haI_4, kk_220 hs, kk_230 hs, rf_220_20 hs, ln_230 hs, lt_c 4 160 rfl, k230, d1, po, bt, if_pos h]
          rw [if_neg (by omega), if_neg n10, if_neg (by omega), if_neg (by decide)]
          simp only [hbind_p, hif_p, m_X10_alone_L71, stp0]
          rw [if_pos (by decide)]
        · obtain ⟨D', q⟩ := ih n (i + 1) 1 D1 (by omega) (by omega) (Or.inr rfl)
          refine ⟨D', ?_⟩
          have ob : ¬ othr f p a i = true := fun z => h (of_decide_eq_true z).2
          rw [if_neg ob]
          rw [← q]
          simp only [m_X10_alone_L28, m_X10_alone_L67, m_X10_isOf, m_X10_isOf_L14, stp0, hgI_k, hgR_k, hpI_k, hpR_k, hpZ_k, haI_k, haR_k, hsI_k, hsZ_k, hlen_k, hlet_p, hret_p, hretZ_0, hretZ_1, hif_p, okk_setV, okk_setF, nV, nF, fV, vF, okk_put, nP, fP, hcallV_b, hcall_b, hbind_p, haI_4, kk_220 hs, kk_230 hs, rf_220_20 hs, ln_230 hs, lt_c 4 160 rfl, k230, d1, po, bt, if_neg h]
          rw [if_neg (by omega), if_neg n10, if_neg (by omega), if_pos (by decide)]
          simp only [hbind_p, hif_p, m_X10_alone_L67, stp0]
          rw [if_neg (by decide)]
theorem y_alL {u : hS} (hs : shp u) (ws : WS (hV u 230)) (wv : WV (hV u 230)) (ex : ∀ c, c < 9 → hV u 231 c = 0) {f : Nat → Nat} (hf : ∀ p : Nat, (p : Int) < hV u 230 4 → isRch (hV u 230) (-1) p (f p)) : ∀ (k n i : Nat) (b : Int) (D : Nat → Int), k < n → hV u 230 4 = ((i + k : Nat) : Int) → inI b → ∃ D', m_X10_alone_L13 n 220 b i (hput u 232 D) = some (accN (aln f (hV u 230)) k i b, hput u 232 D') := by
  have w4 := ws.2.2.2.2.1
  intro k
  induction k with
  | zero =>
    intro n i b D hn hv hb
    obtain ⟨n, rfl⟩ : ∃ k, n = k + 1 := ⟨n - 1, by omega⟩
    refine ⟨D, ?_⟩
    simp only [m_X10_alone_L13, hgI_k, hgR_k, hpI_k, hpR_k, hpZ_k, haI_k, haR_k, hsI_k, hsZ_k, hlen_k, hlet_p, hret_p, hretZ_0, hretZ_1, hif_p, okk_setV, okk_setF, nV, nF, fV, vF, okk_put, nP, fP, haI_4, kk_220 hs, kk_230 hs, rf_220_20 hs, ln_230 hs, lt_c 4 160 rfl, hV_put_n (show 230 ≠ 232 by decide)]
    rw [if_pos (by omega)]
    rfl
  | succ k ih =>
    intro n i b D hn hv hb
    obtain ⟨n, rfl⟩ : ∃ k, n = k + 1 := ⟨n - 1, by omega⟩
    have hi : (i : Int) < hV u 230 4 := by omega
    have zq := (wv.2.2.1 i hi).1
    obtain ⟨D1, d1⟩ := y_alI hs ws wv ex hf hi (a := (hV u 230 (10 + 3 * i)).toNat) (by omega) (m_X10_alone_L13 n) b (hV u 230 4).toNat 1000000000 0 1 D (by omega) (by omega) (Or.inr rfl)
    have e1 : m_X10_alone_L28 (m_X10_alone_L13 n) 1000000000 220 b i 1 0 (hput u 232 D) = _ := d1
    have E : m_X10_alone_L13 (n + 1) 220 b i (hput u 232 D) = m_X10_alone_L13 n 220 (aln f (hV u 230) i b) ((i + 1 : Nat) : Int) (hput u 232 D1) := by
      have v : iorZ b (if (1 : Int) = 0 ∨ anyN (othr f i (hV u 230 (10 + 3 * i)).toNat) (hV u 230 4).toNat 0 = 1 then 0 else ishlZ 1 i) = aln f (hV u 230) i b := by
        unfold aln
        rcases anyN_01 (othr f i (hV u 230 (10 + 3 * i)).toNat) (hV u 230 4).toNat 0 with h | h
        · rw [h, if_neg (by decide), if_pos rfl]
        · rw [h, if_pos (by decide), if_neg (by decide), iorZ_0 hb]
      rw [← v, ← e1]
      simp only [m_X10_alone_L13, hgI_k, hgR_k, hpI_k, hpR_k, hpZ_k, haI_k, haR_k, hsI_k, hsZ_k, hlen_k, hlet_p, hret_p, hretZ_0, hretZ_1, hif_p, okk_setV, okk_setF, nV, nF, fV, vF, okk_put, nP, fP, haI_4, kk_220 hs, kk_230 hs, rf_220_20 hs, ln_230 hs, lt_c 4 160 rfl, hV_put_n (show 230 ≠ 232 by decide)]
      rw [if_neg (by omega)]
    obtain ⟨D', q⟩ := ih n (i + 1) (aln f (hV u 230) i b) D1 (by omega) (by omega) (by
      unfold aln
      split
      · exact iorZ_in _ _
      · exact hb)
    exact ⟨D', by rw [E, q, accN_s]⟩
theorem a_alone {u : hS} (hs : shp u) (ai : actInv u) (ex : ∀ b, b < 9 → hV u 231 b = 0) : ∃ (r : Int) (E D : Nat → Int), m_X9_alone 1 u = some (r, hput u 10 E) ∧ m_X10_alone 220 (hput u 10 E) = some (r, hput (hput u 10 E) 232 D) := by
  obtain ⟨t, c, r, ru, h25⟩ := id ai
  have ws := r.2.2.2.1
  have wv := r.2.2.2.2
  have w4 := ws.2.2.2.2.1
  have tz := r.2.1
  have n10 : ¬ (1 : Int) = 0 := by decide
  have n11 : (1 : Int) ≠ 0 := by decide
  by_cases h0 : hV u 230 0 ≤ 0
  · refine ⟨-1, hV u 10, hV u 232, ?_, ?_⟩
    · rw [hput_self]
      simp only [m_X9_alone, hgI_k, hgR_k, hpI_k, hpR_k, hpZ_k, haI_k, haR_k, hsI_k, hsZ_k, hlen_k, hlet_p, hret_p, hretZ_0, hretZ_1, hif_p, okk_setV, okk_setF, nV, nF, fV, vF, hcallV_b, hbind_p, x_hasTown hs r.1, kk_1 hs, if_pos h0, ne_eq, not_true_eq_false, if_false]
    · rw [hput_self, hput_self]
      simp only [m_X10_alone, hgI_k, hgR_k, hpI_k, hpR_k, hpZ_k, haI_k, haR_k, hsI_k, hsZ_k, hlen_k, hlet_p, hret_p, hretZ_0, hretZ_1, hif_p, okk_setV, okk_setF, nV, nF, fV, vF, hcallV_b, hbind_p, y_isTown hs, kk_220 hs, if_pos h0, ne_eq, not_true_eq_false, if_false]
  obtain ⟨g, hg⟩ := rch_ex r.1 ws wv
  obtain ⟨E, e1, e2⟩ := x_findReaches hs r.1 tz ws wv (f := g (-1)) (hg (-1))
  have hs1 : shp (hput u 10 E) := hs
  have r1 := r.1.fr (ext.put u 10 E) (fun a _ _ => agr.put (by omega)) (fun a _ _ => agr.put (by omega))
  have k230 : hV (hput u 10 E) 230 = hV u 230 := hV_put_n (by decide)
  have X := x_alL hs1 r1 ws wv (f := g (-1)) (fun p hp => rch_lt (hg (-1) p hp)) (fun p hp => by rw [hV_put_s, e2 p hp]) (hV u 230 4).toNat 1000000000 0 0 (by omega) (by omega)
  obtain ⟨D, Y⟩ := y_alL hs1 (by rw [k230]; exact ws) (by rw [k230]; exact wv) (fun b hb => by rw [hV_put_n (by decide)]; exact ex b hb) (f := g (-1)) (by rw [k230]; exact hg (-1)) (hV u 230 4).toNat 1000000000 0 0 (hV u 232) (by omega) (by rw [k230]; omega) ⟨by omega, by omega⟩
  have s232 : hput (hput u 10 E) 232 (hV u 232) = hput u 10 E := by
    have q1 : hV (hput u 10 E) 232 = hV u 232 := hV_put_n (by decide)
    rw [← q1, hput_self]
  rw [s232, k230] at Y
  refine ⟨accN (aln (g (-1)) (hV u 230)) (hV u 230 4).toNat 0 0, E, D, ?_, ?_⟩
  · simp only [m_X9_alone, hgI_k, hgR_k, hpI_k, hpR_k, hpZ_k, haI_k, haR_k, hsI_k, hsZ_k, hlen_k, hlet_p, hret_p, hretZ_0, hretZ_1, hif_p, okk_setV, okk_setF, nV, nF, fV, vF, hcallV_b, hbind_p, x_hasTown hs r.1, kk_1 hs, if_neg h0, if_pos n11, e1]
    exact X
  · simp only [m_X10_alone, hgI_k, hgR_k, hpI_k, hpR_k, hpZ_k, haI_k, haR_k, hsI_k, hsZ_k, hlen_k, hlet_p, hret_p, hretZ_0, hretZ_1, hif_p, okk_setV, okk_setF, nV, nF, fV, vF, hcallV_b, hbind_p, y_isTown hs1, kk_220 hs1, k230, if_neg h0, if_pos n11]
    exact Y
