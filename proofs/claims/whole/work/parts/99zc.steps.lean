/-! the town's own distances -/
def bk (G : Nat → Int) (a : Nat) : Nat → Int := fun j => G (8 * a + j)
theorem bk_sup (G : Nat → Int) (a y : Nat) (v : Int) : bk (sup G (8 * a + y) v) a = sup (bk G a) y v := by
  funext j
  unfold bk sup
  by_cases h : j = y
  · rw [if_pos h, if_pos (by omega)]
  · rw [if_neg h, if_neg (by omega)]
theorem x_shorten {u : hS} {t : Nat} (ht : TwA u t) {a x y : Nat} (a8 : a < 8) (x8 : x < 8) (y8 : y < 8) (G : Nat → Int) (hx : 0 ≤ G (8 * a + x) ∧ G (8 * a + x) ≤ 99) : ∃ G' : Nat → Int, m_X7_shorten t (a : Int) (x : Int) (y : Int) (hput u (t + 17) G) = some (0, hput u (t + 17) G') ∧ bk G' a = relx (bk G a) x y ∧ ∀ i, i < 8 * a ∨ 8 * a + 8 ≤ i → G' i = G i := by
  have w1 : w32 (G (8 * a + x) + 1) = G (8 * a + x) + 1 := w32_id ⟨by omega, by omega⟩
  have i1 : 8 * a + x < 64 := by omega
  have i2 : 8 * a + y < 64 := by omega
  unfold relx
  by_cases h : G (8 * a + x) + 1 < G (8 * a + y)
  · refine ⟨sup G (8 * a + y) (G (8 * a + x) + 1), ?_, ?_, fun i hi => sup_n (by omega)⟩
    · simp only [m_X7_shorten, m_X7_shorten_L49, hgI_k, hgR_k, hpI_k, hpR_k, hpZ_k, haI_k, haR_k, hsI_k, hsZ_k, hlen_k, hlet_p, hret_p, hretZ_0, hretZ_1, hif_p, okk_setV, okk_setF, nV, nF, fV, vF, okk_put, nP, fP, haI_n, hsI_n, TwA.k0 ht, TwA.k1 ht, TwA.k2 ht, TwA.k3 ht, TwA.k4 ht, TwA.k5 ht, TwA.k6 ht, TwA.k7 ht, TwA.k8 ht, TwA.k9 ht, TwA.k10 ht, TwA.k11 ht, TwA.k12 ht, TwA.k13 ht, TwA.k14 ht, TwA.k15 ht, TwA.k16 ht, TwA.k17 ht, TwA.n2 ht, TwA.n3 ht, TwA.n4 ht, TwA.n6 ht, TwA.n7 ht, TwA.n8 ht, TwA.n9 ht, TwA.n10 ht, TwA.n11 ht, TwA.n12 ht, TwA.n13 ht, TwA.n14 ht, TwA.n15 ht, TwA.n16 ht, TwA.n17 ht, TwA.f2 ht, TwA.f3 ht, TwA.f5 ht, TwA.f6 ht, TwA.f8 ht, TwA.f9 ht, TwA.f11 ht, TwA.f12 ht, TwA.f13 ht, TwA.f14 ht, TwA.f15 ht, TwA.b0 ht, TwA.b1 ht, TwA.b2 ht, TwA.g0 ht, TwA.g1 ht, TwA.g2 ht, ix_8 a8 x8, ix_8 a8 y8, i1, i2, hV_put_s, setV_put, w1]
      rw [if_neg (by omega)]
    · rw [if_pos (show bk G a x + 1 < bk G a y from h), bk_sup]
      rfl
  · refine ⟨G, ?_, ?_, fun i hi => rfl⟩
    · simp only [m_X7_shorten, m_X7_shorten_L49, hgI_k, hgR_k, hpI_k, hpR_k, hpZ_k, haI_k, haR_k, hsI_k, hsZ_k, hlen_k, hlet_p, hret_p, hretZ_0, hretZ_1, hif_p, okk_setV, okk_setF, nV, nF, fV, vF, okk_put, nP, fP, haI_n, hsI_n, TwA.k0 ht, TwA.k1 ht, TwA.k2 ht, TwA.k3 ht, TwA.k4 ht, TwA.k5 ht, TwA.k6 ht, TwA.k7 ht, TwA.k8 ht, TwA.k9 ht, TwA.k10 ht, TwA.k11 ht, TwA.k12 ht, TwA.k13 ht, TwA.k14 ht, TwA.k15 ht, TwA.k16 ht, TwA.k17 ht, TwA.n2 ht, TwA.n3 ht, TwA.n4 ht, TwA.n6 ht, TwA.n7 ht, TwA.n8 ht, TwA.n9 ht, TwA.n10 ht, TwA.n11 ht, TwA.n12 ht, TwA.n13 ht, TwA.n14 ht, TwA.n15 ht, TwA.n16 ht, TwA.n17 ht, TwA.f2 ht, TwA.f3 ht, TwA.f5 ht, TwA.f6 ht, TwA.f8 ht, TwA.f9 ht, TwA.f11 ht, TwA.f12 ht, TwA.f13 ht, TwA.f14 ht, TwA.f15 ht, TwA.b0 ht, TwA.b1 ht, TwA.b2 ht, TwA.g0 ht, TwA.g1 ht, TwA.g2 ht, ix_8 a8 x8, ix_8 a8 y8, i1, i2, hV_put_s, setV_put, w1]
      rw [if_pos (by omega)]
    · rw [if_neg (show ¬ bk G a x + 1 < bk G a y from h)]
def fsT (u : hS) (t : Nat) (S : Nat → Int) : Prop := TwA u t ∧ hV u t 0 = S 0 ∧ hV u (t + 1) 3 = S 2 ∧ ∀ b : Nat, (b : Int) < S 2 → hV u (t + 2) b = S (94 + 2 * b) ∧ hV u (t + 3) b = S (94 + 2 * b + 1)
theorem x_fs1 {u : hS} {t a : Nat} {S : Nat → Int} (f : fsT u t S) (w0 : 0 ≤ S 0 ∧ S 0 ≤ 8) (w2 : 0 ≤ S 2 ∧ S 2 ≤ 9) (wv : WV S) (a8 : a < 8) (l2 : Int) (K1 : Nat → Int → hM) (K : Nat → Int → Int → hM) : ∀ (k n i : Nat) (G : Nat → Int), k < n → S 2 = ((i + k : Nat) : Int) → isPre S (fun _ => true) a (bk G a) → ∃ G' : Nat → Int, m_X7_findSteps_L43 K1 K n t (a : Int) l2 (i : Int) (hput u (t + 17) G) = K t (a : Int) (w32 (l2 + 1)) (hput u (t + 17) G') ∧ isPre S (fun _ => true) a (bk G' a) ∧ (∀ q, bk G' a q ≤ bk G a q) ∧ (∀ i, i < 8 * a ∨ 8 * a + 8 ≤ i → G' i = G i) ∧ ∀ b : Nat, i ≤ b → b < i + k → bk G' a (S (94 + 2 * b + 1)).toNat ≤ bk G a (S (94 + 2 * b)).toNat + 1 ∧ bk G' a (S (94 + 2 * b)).toNat ≤ bk G a (S (94 + 2 * b + 1)).toNat + 1 := by
  obtain ⟨ht, f0, f1, fb⟩ := f
  intro k
  induction k with
  | zero =>
    intro n i G hn hv hD
    obtain ⟨n, rfl⟩ : ∃ k, n = k + 1 := ⟨n - 1, by omega⟩
    refine ⟨G, ?_, hD, fun _ => Int.le_refl _, fun _ _ => rfl, fun b h1 h2 => by omega⟩
    simp only [m_X7_findSteps_L43, hgI_k, hgR_k, hpI_k, hpR_k, hpZ_k, haI_k, haR_k, hsI_k, hsZ_k, hlen_k, hlet_p, hret_p, hretZ_0, hretZ_1, hif_p, okk_setV, okk_setF, nV, nF, fV, vF, okk_put, nP, fP, TwA.k0 ht, TwA.k1 ht, TwA.k2 ht, TwA.k3 ht, TwA.k4 ht, TwA.k5 ht, TwA.k6 ht, TwA.k7 ht, TwA.k8 ht, TwA.k9 ht, TwA.k10 ht, TwA.k11 ht, TwA.k12 ht, TwA.k13 ht, TwA.k14 ht, TwA.k15 ht, TwA.k16 ht, TwA.k17 ht, TwA.n2 ht, TwA.n3 ht, TwA.n4 ht, TwA.n6 ht, TwA.n7 ht, TwA.n8 ht, TwA.n9 ht, TwA.n10 ht, TwA.n11 ht, TwA.n12 ht, TwA.n13 ht, TwA.n14 ht, TwA.n15 ht, TwA.n16 ht, TwA.n17 ht, TwA.f2 ht, TwA.f3 ht, TwA.f5 ht, TwA.f6 ht, TwA.f8 ht, TwA.f9 ht, TwA.f11 ht, TwA.f12 ht, TwA.f13 ht, TwA.f14 ht, TwA.f15 ht, TwA.b0 ht, TwA.b1 ht, TwA.b2 ht, TwA.g0 ht, TwA.g1 ht, TwA.g2 ht, hV_put_n (show t + 1 ≠ t + 17 by omega), f1]
    rw [if_pos (by omega)]
  | succ k ih =>
    intro n i G hn hv hD
    obtain ⟨n, rfl⟩ : ∃ k, n = k + 1 := ⟨n - 1, by omega⟩
    have hi : i < 9 := by omega
    have hi2 : (i : Int) < S 2 := by omega
    have z := wv.1 i hi2
    obtain ⟨x, hx⟩ : ∃ x : Nat, S (94 + 2 * i) = x := ⟨(S (94 + 2 * i)).toNat, by omega⟩
    obtain ⟨y, hy⟩ : ∃ y : Nat, S (94 + 2 * i + 1) = y := ⟨(S (94 + 2 * i + 1)).toNat, by omega⟩
    have g := fb i hi2
    rw [hx, hy] at z g
    have x8 : x < 8 := by omega
    have y8 : y < 8 := by omega
    have p1 := relx_pre hD hi2 rfl (x := x) (y := y) (by omega) (by omega) (by rw [← hx, ← hy]; exact qEnd_0 _ _)
    have p2 := relx_pre p1 hi2 rfl (x := y) (y := x) (by omega) (by omega) (by rw [← hx, ← hy]; exact qEnd_1 _ _)
    obtain ⟨G1, s1, s2, s3⟩ := x_shorten ht a8 x8 y8 G (hD.2 x (by omega)).1
    rw [← s2] at p1 p2
    obtain ⟨G2, r1, r2, r3⟩ := x_shorten ht a8 y8 x8 G1 (p1.2 y (by omega)).1
    rw [← r2] at p2
    obtain ⟨G', e1, e2, e3, e5, e4⟩ := ih n (i + 1) G2 (by omega) (by omega) p2
    have le1 : ∀ q, bk G1 a q ≤ bk G a q := fun q => by rw [s2]; exact relx_le _ _ _ q
    have le2 : ∀ q, bk G2 a q ≤ bk G1 a q := fun q => by rw [r2]; exact relx_le _ _ _ q
    refine ⟨G', ?_, e2, fun q => ?_, fun j hj => ?_, fun b h1 h2 => ?_⟩
    · rw [m_X7_findSteps_L43]
      simp only [hgI_k, hgR_k, hpI_k, hpR_k, hpZ_k, haI_k, haR_k, hsI_k, hsZ_k, hlen_k, hlet_p, hret_p, hretZ_0, hretZ_1, hif_p, okk_setV, okk_setF, nV, nF, fV, vF, okk_put, nP, fP, haI_n, hcallV_b, hbind_p, TwA.k0 ht, TwA.k1 ht, TwA.k2 ht, TwA.k3 ht, TwA.k4 ht, TwA.k5 ht, TwA.k6 ht, TwA.k7 ht, TwA.k8 ht, TwA.k9 ht, TwA.k10 ht, TwA.k11 ht, TwA.k12 ht, TwA.k13 ht, TwA.k14 ht, TwA.k15 ht, TwA.k16 ht, TwA.k17 ht, TwA.n2 ht, TwA.n3 ht, TwA.n4 ht, TwA.n6 ht, TwA.n7 ht, TwA.n8 ht, TwA.n9 ht, TwA.n10 ht, TwA.n11 ht, TwA.n12 ht, TwA.n13 ht, TwA.n14 ht, TwA.n15 ht, TwA.n16 ht, TwA.n17 ht, TwA.f2 ht, TwA.f3 ht, TwA.f5 ht, TwA.f6 ht, TwA.f8 ht, TwA.f9 ht, TwA.f11 ht, TwA.f12 ht, TwA.f13 ht, TwA.f14 ht, TwA.f15 ht, TwA.b0 ht, TwA.b1 ht, TwA.b2 ht, TwA.g0 ht, TwA.g1 ht, TwA.g2 ht, hV_put_n (show t + 1 ≠ t + 17 by omega), hV_put_n (show t + 2 ≠ t + 17 by omega), hV_put_n (show t + 3 ≠ t + 17 by omega), f1, hi, g.1, g.2, s1, r1, ix_s (show i < 1000000 by omega)]
      rw [if_neg (by omega)]
      exact e1
    · have q1 := le1 q
      have q2 := le2 q
      have q3 := e3 q
      omega
    · rw [e5 j hj, r3 j hj, s3 j hj]
    · by_cases eb : b = i
      · subst eb
        rw [hx, hy, Int.toNat_natCast, Int.toNat_natCast]
        have q1 := relx_to (bk G a) x y
        rw [← s2] at q1
        have q2 := relx_to (bk G1 a) y x
        rw [← r2] at q2
        have q3 := e3 y
        have q4 := e3 x
        have q5 := le2 y
        have q6 := le1 y
        omega
      · have q := e4 b (by omega) (by omega)
        have q1 := le1 (S (94 + 2 * b)).toNat
        have q2 := le2 (S (94 + 2 * b)).toNat
        have q3 := le1 (S (94 + 2 * b + 1)).toNat
        have q4 := le2 (S (94 + 2 * b + 1)).toNat
        omega
theorem x_fs2 {u : hS} {t a : Nat} {S : Nat → Int} (f : fsT u t S) (w0 : 0 ≤ S 0 ∧ S 0 ≤ 8) (w2 : 0 ≤ S 2 ∧ S 2 ≤ 9) (wv : WV S) (a8 : a < 8) (K1 : Nat → Int → hM) : ∀ (j n l : Nat) (G : Nat → Int), j < n → S 0 ≤ ((l + j : Nat) : Int) → l ≤ 8 → isPre S (fun _ => true) a (bk G a) → (∀ (k : Nat) (x : Int), k < l → wkO S (fun _ => true) a k x → bk G a x.toNat ≤ k) → ∃ G' : Nat → Int, m_X7_findSteps_L33 K1 n t (a : Int) (l : Int) (hput u (t + 17) G) = K1 t ((a + 1 : Nat) : Int) (hput u (t + 17) G') ∧ isPre S (fun _ => true) a (bk G' a) ∧ (∀ i, i < 8 * a ∨ 8 * a + 8 ≤ i → G' i = G i) ∧ ∀ (k : Nat) (x : Int), (k : Int) < S 0 → wkO S (fun _ => true) a k x → bk G' a x.toNat ≤ k := by
  obtain ⟨ht, f0, f1, fb⟩ := id f
  have a6 : a < 1000000 := by omega
  intro j
  induction j with
  | zero =>
    intro n l G hn hv hl hD hw
    obtain ⟨n, rfl⟩ : ∃ k, n = k + 1 := ⟨n - 1, by omega⟩
    refine ⟨G, ?_, hD, fun _ _ => rfl, fun k x hk => hw k x (by omega)⟩
    rw [m_X7_findSteps_L33]
    simp only [hgI_k, hgR_k, hpI_k, hpR_k, hpZ_k, haI_k, haR_k, hsI_k, hsZ_k, hlen_k, hlet_p, hret_p, hretZ_0, hretZ_1, hif_p, okk_setV, okk_setF, nV, nF, fV, vF, okk_put, nP, fP, TwA.k0 ht, TwA.k1 ht, TwA.k2 ht, TwA.k3 ht, TwA.k4 ht, TwA.k5 ht, TwA.k6 ht, TwA.k7 ht, TwA.k8 ht, TwA.k9 ht, TwA.k10 ht, TwA.k11 ht, TwA.k12 ht, TwA.k13 ht, TwA.k14 ht, TwA.k15 ht, TwA.k16 ht, TwA.k17 ht, TwA.n2 ht, TwA.n3 ht, TwA.n4 ht, TwA.n6 ht, TwA.n7 ht, TwA.n8 ht, TwA.n9 ht, TwA.n10 ht, TwA.n11 ht, TwA.n12 ht, TwA.n13 ht, TwA.n14 ht, TwA.n15 ht, TwA.n16 ht, TwA.n17 ht, TwA.f2 ht, TwA.f3 ht, TwA.f5 ht, TwA.f6 ht, TwA.f8 ht, TwA.f9 ht, TwA.f11 ht, TwA.f12 ht, TwA.f13 ht, TwA.f14 ht, TwA.f15 ht, TwA.b0 ht, TwA.b1 ht, TwA.b2 ht, TwA.g0 ht, TwA.g1 ht, TwA.g2 ht, hV_put_n (show t ≠ t + 17 by omega), f0, ix_s a6]
    rw [if_pos (by omega)]
  | succ j ih =>
    intro n l G hn hv hl hD hw
    obtain ⟨n, rfl⟩ : ∃ k, n = k + 1 := ⟨n - 1, by omega⟩
    by_cases hg : (l : Int) ≥ S 0
    · refine ⟨G, ?_, hD, fun _ _ => rfl, fun k x hk => hw k x (by omega)⟩
      rw [m_X7_findSteps_L33]
      simp only [hgI_k, hgR_k, hpI_k, hpR_k, hpZ_k, haI_k, haR_k, hsI_k, hsZ_k, hlen_k, hlet_p, hret_p, hretZ_0, hretZ_1, hif_p, okk_setV, okk_setF, nV, nF, fV, vF, okk_put, nP, fP, TwA.k0 ht, TwA.k1 ht, TwA.k2 ht, TwA.k3 ht, TwA.k4 ht, TwA.k5 ht, TwA.k6 ht, TwA.k7 ht, TwA.k8 ht, TwA.k9 ht, TwA.k10 ht, TwA.k11 ht, TwA.k12 ht, TwA.k13 ht, TwA.k14 ht, TwA.k15 ht, TwA.k16 ht, TwA.k17 ht, TwA.n2 ht, TwA.n3 ht, TwA.n4 ht, TwA.n6 ht, TwA.n7 ht, TwA.n8 ht, TwA.n9 ht, TwA.n10 ht, TwA.n11 ht, TwA.n12 ht, TwA.n13 ht, TwA.n14 ht, TwA.n15 ht, TwA.n16 ht, TwA.n17 ht, TwA.f2 ht, TwA.f3 ht, TwA.f5 ht, TwA.f6 ht, TwA.f8 ht, TwA.f9 ht, TwA.f11 ht, TwA.f12 ht, TwA.f13 ht, TwA.f14 ht, TwA.f15 ht, TwA.b0 ht, TwA.b1 ht, TwA.b2 ht, TwA.g0 ht, TwA.g1 ht, TwA.g2 ht, hV_put_n (show t ≠ t + 17 by omega), f0, ix_s a6]
      rw [if_pos hg]
    · obtain ⟨E, e1, e2, e3, e5, e4⟩ := x_fs1 f w0 w2 wv a8 (l : Int) K1 (m_X7_findSteps_L33 K1 n) (S 2).toNat 1000000000 0 G (by omega) (by omega) hD
      have e1 : m_X7_findSteps_L43 K1 (m_X7_findSteps_L33 K1 n) 1000000000 t (a : Int) (l : Int) 0 (hput u (t + 17) G) = _ := e1
      obtain ⟨G', g1, g2, g3, g4⟩ := ih n (l + 1) E (by omega) (by omega) (by omega) e2 (fun k x hk hx => by
        cases k with
        | zero =>
          have ex : x = a := hx
          rw [ex, Int.toNat_natCast]
          have q := e2.1
          omega
        | succ k =>
          obtain ⟨b, m, hb, ho, hm, he, h0⟩ := hx
          have q := e4 b (by omega) (by omega)
          have d := hw k m (by omega) hm
          rcases qEnd_cases he h0 with ⟨f1, f2⟩ | ⟨f1, f2⟩
          · rw [f1, f2] at q
            omega
          · rw [f1, f2] at q
            omega)
      refine ⟨G', ?_, g2, fun i hi => (g3 i hi).trans (e5 i hi), g4⟩
      rw [m_X7_findSteps_L33]
      simp only [hgI_k, hgR_k, hpI_k, hpR_k, hpZ_k, haI_k, haR_k, hsI_k, hsZ_k, hlen_k, hlet_p, hret_p, hretZ_0, hretZ_1, hif_p, okk_setV, okk_setF, nV, nF, fV, vF, okk_put, nP, fP, TwA.k0 ht, TwA.k1 ht, TwA.k2 ht, TwA.k3 ht, TwA.k4 ht, TwA.k5 ht, TwA.k6 ht, TwA.k7 ht, TwA.k8 ht, TwA.k9 ht, TwA.k10 ht, TwA.k11 ht, TwA.k12 ht, TwA.k13 ht, TwA.k14 ht, TwA.k15 ht, TwA.k16 ht, TwA.k17 ht, TwA.n2 ht, TwA.n3 ht, TwA.n4 ht, TwA.n6 ht, TwA.n7 ht, TwA.n8 ht, TwA.n9 ht, TwA.n10 ht, TwA.n11 ht, TwA.n12 ht, TwA.n13 ht, TwA.n14 ht, TwA.n15 ht, TwA.n16 ht, TwA.n17 ht, TwA.f2 ht, TwA.f3 ht, TwA.f5 ht, TwA.f6 ht, TwA.f8 ht, TwA.f9 ht, TwA.f11 ht, TwA.f12 ht, TwA.f13 ht, TwA.f14 ht, TwA.f15 ht, TwA.b0 ht, TwA.b1 ht, TwA.b2 ht, TwA.g0 ht, TwA.g1 ht, TwA.g2 ht, hV_put_n (show t ≠ t + 17 by omega), f0]
      rw [if_neg hg, e1, ix_s (show l < 1000000 by omega)]
      exact g1
def fsOk (S : Nat → Int) (G : Nat → Int) (a : Nat) : Prop := isPre S (fun _ => true) a (bk G a) ∧ ∀ (k : Nat) (x : Int), (k : Int) < S 0 → wkO S (fun _ => true) a k x → bk G a x.toNat ≤ k
theorem bk_cg {G G' : Nat → Int} {a : Nat} (h : ∀ j, j < 8 → G' (8 * a + j) = G (8 * a + j)) {S : Nat → Int} (w0 : 0 ≤ S 0 ∧ S 0 ≤ 8) (wv : WV S) (ha : (a : Int) < S 0) (f : fsOk S G a) : fsOk S G' a := by
  refine ⟨⟨?_, fun r hr => ?_⟩, fun k x hk hx => ?_⟩
  · have := f.1.1
    unfold bk at this ⊢
    rw [h a (by omega)]
    exact this
  · have := f.1.2 r hr
    unfold bk at this ⊢
    rw [h r (by omega)]
    exact this
  · have := f.2 k x hk hx
    have lx : x.toNat < 8 := by
      cases k with
      | zero =>
        have ex : x = a := hx
        omega
      | succ k =>
        obtain ⟨b, m, hb, ho, hm, he, h0⟩ := hx
        have z := wv.1 b hb
        rcases qEnd_cases he h0 with ⟨f1, f2⟩ | ⟨f1, f2⟩ <;> omega
    unfold bk at this ⊢
    rw [h _ lx]
    exact this
theorem x_fs3 {u : hS} {t : Nat} {S : Nat → Int} (f : fsT u t S) (w0 : 0 ≤ S 0 ∧ S 0 ≤ 8) (w2 : 0 ≤ S 2 ∧ S 2 ≤ 9) (wv : WV S) : ∀ (d n a : Nat) (G : Nat → Int), d < n → S 0 = ((a + d : Nat) : Int) → (∀ a', a' < a → fsOk S G a') → (∀ i, 8 * a ≤ i → i < 64 → G i = 99) → ∃ G' : Nat → Int, m_X7_findSteps_L11 n t (a : Int) (hput u (t + 17) G) = some (0, hput u (t + 17) G') ∧ ∀ a' : Nat, (a' : Int) < S 0 → fsOk S G' a' := by
  obtain ⟨ht, f0, f1, fb⟩ := id f
  intro d
  induction d with
  | zero =>
    intro n a G hn hv h1 h2
    obtain ⟨n, rfl⟩ : ∃ k, n = k + 1 := ⟨n - 1, by omega⟩
    refine ⟨G, ?_, fun a' h => h1 a' (by omega)⟩
    rw [m_X7_findSteps_L11]
    simp only [hgI_k, hgR_k, hpI_k, hpR_k, hpZ_k, haI_k, haR_k, hsI_k, hsZ_k, hlen_k, hlet_p, hret_p, hretZ_0, hretZ_1, hif_p, okk_setV, okk_setF, nV, nF, fV, vF, okk_put, nP, fP, TwA.k0 ht, TwA.k1 ht, TwA.k2 ht, TwA.k3 ht, TwA.k4 ht, TwA.k5 ht, TwA.k6 ht, TwA.k7 ht, TwA.k8 ht, TwA.k9 ht, TwA.k10 ht, TwA.k11 ht, TwA.k12 ht, TwA.k13 ht, TwA.k14 ht, TwA.k15 ht, TwA.k16 ht, TwA.k17 ht, TwA.n2 ht, TwA.n3 ht, TwA.n4 ht, TwA.n6 ht, TwA.n7 ht, TwA.n8 ht, TwA.n9 ht, TwA.n10 ht, TwA.n11 ht, TwA.n12 ht, TwA.n13 ht, TwA.n14 ht, TwA.n15 ht, TwA.n16 ht, TwA.n17 ht, TwA.f2 ht, TwA.f3 ht, TwA.f5 ht, TwA.f6 ht, TwA.f8 ht, TwA.f9 ht, TwA.f11 ht, TwA.f12 ht, TwA.f13 ht, TwA.f14 ht, TwA.f15 ht, TwA.b0 ht, TwA.b1 ht, TwA.b2 ht, TwA.g0 ht, TwA.g1 ht, TwA.g2 ht, hV_put_n (show t ≠ t + 17 by omega), f0]
    rw [if_pos (by omega)]
  | succ d ih =>
    intro n a G hn hv h1 h2
    obtain ⟨n, rfl⟩ : ∃ k, n = k + 1 := ⟨n - 1, by omega⟩
    have a8 : a < 8 := by omega
    have i64 : 8 * a + a < 64 := by omega
    have pre : isPre S (fun _ => true) a (bk (sup G (8 * a + a) 0) a) := by
      rw [bk_sup]
      refine ⟨sup_s, fun r hr => ?_⟩
      by_cases e : r = a
      · subst e
        rw [sup_s]
        exact ⟨by omega, fun _ => rfl⟩
      · rw [sup_n e]
        have : bk G a r = 99 := h2 _ (by omega) (by omega)
        rw [this]
        exact ⟨by omega, fun z => by omega⟩
    obtain ⟨E, e1, e2, e3, e4⟩ := x_fs2 f w0 w2 wv a8 (m_X7_findSteps_L11 n) 8 1000000000 1 (sup G (8 * a + a) 0) (by omega) (by omega) (by omega) pre (fun k x hk hx => by
      obtain rfl : k = 0 := by omega
      have ex : x = a := hx
      rw [ex, Int.toNat_natCast, pre.1]
      omega)
    have e1 : m_X7_findSteps_L33 (m_X7_findSteps_L11 n) 1000000000 t (a : Int) 1 (hput u (t + 17) (sup G (8 * a + a) 0)) = _ := e1
    obtain ⟨G', g1, g2⟩ := ih n (a + 1) E (by omega) (by omega) (fun a' ha' => by
      by_cases e : a' = a
      · subst e
        exact ⟨e2, e4⟩
      · refine bk_cg (G := G) (fun j hj => ?_) w0 wv (by omega) (h1 a' (by omega))
        rw [e3 _ (by omega), sup_n (by omega)]) (fun i hi hi' => by
      rw [e3 i (by omega), sup_n (by omega)]
      exact h2 i (by omega) hi')
    refine ⟨G', ?_, g2⟩
    rw [m_X7_findSteps_L11]
    simp only [hgI_k, hgR_k, hpI_k, hpR_k, hpZ_k, haI_k, haR_k, hsI_k, hsZ_k, hlen_k, hlet_p, hret_p, hretZ_0, hretZ_1, hif_p, okk_setV, okk_setF, nV, nF, fV, vF, okk_put, nP, fP, hsI_n, TwA.k0 ht, TwA.k1 ht, TwA.k2 ht, TwA.k3 ht, TwA.k4 ht, TwA.k5 ht, TwA.k6 ht, TwA.k7 ht, TwA.k8 ht, TwA.k9 ht, TwA.k10 ht, TwA.k11 ht, TwA.k12 ht, TwA.k13 ht, TwA.k14 ht, TwA.k15 ht, TwA.k16 ht, TwA.k17 ht, TwA.n2 ht, TwA.n3 ht, TwA.n4 ht, TwA.n6 ht, TwA.n7 ht, TwA.n8 ht, TwA.n9 ht, TwA.n10 ht, TwA.n11 ht, TwA.n12 ht, TwA.n13 ht, TwA.n14 ht, TwA.n15 ht, TwA.n16 ht, TwA.n17 ht, TwA.f2 ht, TwA.f3 ht, TwA.f5 ht, TwA.f6 ht, TwA.f8 ht, TwA.f9 ht, TwA.f11 ht, TwA.f12 ht, TwA.f13 ht, TwA.f14 ht, TwA.f15 ht, TwA.b0 ht, TwA.b1 ht, TwA.b2 ht, TwA.g0 ht, TwA.g1 ht, TwA.g2 ht, hV_put_n (show t ≠ t + 17 by omega), f0, ix_8 a8 a8, i64, setV_put]
    rw [if_neg (by omega), e1]
    exact g1
theorem x_findSteps {u : hS} {t : Nat} {S : Nat → Int} (f : fsT u t S) (w0 : 0 ≤ S 0 ∧ S 0 ≤ 8) (w2 : 0 ≤ S 2 ∧ S 2 ≤ 9) (wv : WV S) : ∃ G' : Nat → Int, m_X7_findSteps t u = some (0, hput u (t + 17) G') ∧ ∀ a' : Nat, (a' : Int) < S 0 → fsOk S G' a' := by
  have ht := f.1
  obtain ⟨G', g1, g2⟩ := x_fs3 f w0 w2 wv (S 0).toNat 1000000000 0 (fun j => if j < 64 then 99 else hV u (t + 17) j) (by omega) (by omega) (fun a' h => by omega) (fun i _ h => if_pos h)
  refine ⟨G', ?_, g2⟩
  simp only [m_X7_findSteps, hgI_k, hgR_k, hpI_k, hpR_k, hpZ_k, haI_k, haR_k, hsI_k, hsZ_k, hlen_k, hlet_p, hret_p, hretZ_0, hretZ_1, hif_p, okk_setV, okk_setF, nV, nF, fV, vF, hcall_b, hbind_p, TwA.k0 ht, TwA.k1 ht, TwA.k2 ht, TwA.k3 ht, TwA.k4 ht, TwA.k5 ht, TwA.k6 ht, TwA.k7 ht, TwA.k8 ht, TwA.k9 ht, TwA.k10 ht, TwA.k11 ht, TwA.k12 ht, TwA.k13 ht, TwA.k14 ht, TwA.k15 ht, TwA.k16 ht, TwA.k17 ht, TwA.n2 ht, TwA.n3 ht, TwA.n4 ht, TwA.n6 ht, TwA.n7 ht, TwA.n8 ht, TwA.n9 ht, TwA.n10 ht, TwA.n11 ht, TwA.n12 ht, TwA.n13 ht, TwA.n14 ht, TwA.n15 ht, TwA.n16 ht, TwA.n17 ht, TwA.f2 ht, TwA.f3 ht, TwA.f5 ht, TwA.f6 ht, TwA.f8 ht, TwA.f9 ht, TwA.f11 ht, TwA.f12 ht, TwA.f13 ht, TwA.f14 ht, TwA.f15 ht, TwA.b0 ht, TwA.b1 ht, TwA.b2 ht, TwA.g0 ht, TwA.g1 ht, TwA.g2 ht, x_fill (TwA.k17 ht) (TwA.n17 ht) (show 64 < 1000 by decide)]
  exact g1
