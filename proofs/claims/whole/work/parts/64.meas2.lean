theorem x_meO {u : hS} (hs : shp u) {s t p a : Nat} {S : Nat → Int} (r0 : RepS u s t S) {l8 : Nat} (kl : okk u l8 20) (nl : hN u l8 = 8) (lz : l8 = 8 ∨ l8 = 9) (sz : 30 ≤ s) (tz : t = 12 ∨ 243 ≤ t) (ws : WS S) (wv : WV S) (hp : (p : Int) < S 4) : ∀ (j n l : Nat) (D : Nat → Int), j < n → S 0 ≤ ((l + j : Nat) : Int) → l ≤ 8 → isPre S (opnX S (-1) p) a D → (∀ (k : Nat) (x : Int), k < l → wkO S (opnX S (-1) p) a k x → D x.toNat ≤ k) → ∃ E : Nat → Int, m_X4_measure_L13 n s p l8 l (hput u l8 D) = some (0, hput u l8 E) ∧ isPre S (opnX S (-1) p) a E ∧ ∀ (k : Nat) (x : Int), (k : Int) < S 0 → wkO S (opnX S (-1) p) a k x → E x.toNat ≤ k := by
  have w0 := ws.1
  have w2 := ws.2.2.1
  intro j
  induction j with
  | zero =>
    intro n l D hn hv hl hD hw
    obtain ⟨n, rfl⟩ : ∃ k, n = k + 1 := ⟨n - 1, by omega⟩
    have r := r0.fr (ext.put u l8 D) (fun a _ _ => agr.put (by omega)) (fun a _ _ => agr.put (by omega))
    have ht := r.ht
    have ha := r.ha
    refine ⟨D, ?_, hD, fun k x hk => hw k x (by omega)⟩
    simp only [m_X4_measure_L13, hgI_k, hgR_k, hpI_k, hpR_k, hpZ_k, haI_k, haR_k, hsI_k, hsZ_k, hlen_k, hlet_p, hret_p, hretZ_0, hretZ_1, hif_p, okk_setV, okk_setF, nV, nF, fV, vF, StA.k0 ha, StA.k1 ha, StA.k2 ha, StA.k3 ha, StA.k4 ha, StA.n1 ha, StA.n2 ha, StA.n3 ha, StA.n4 ha, StA.f2 ha, StA.f3 ha, StA.f4 ha, StA.f5 ha, r.to, TwA.k0 ht, TwA.k1 ht, TwA.k2 ht, TwA.k3 ht, TwA.k4 ht, TwA.k5 ht, TwA.k6 ht, TwA.k7 ht, TwA.k8 ht, TwA.k9 ht, TwA.k10 ht, TwA.k11 ht, TwA.k12 ht, TwA.k13 ht, TwA.k14 ht, TwA.k15 ht, TwA.k16 ht, TwA.k17 ht, TwA.n2 ht, TwA.n3 ht, TwA.n4 ht, TwA.n6 ht, TwA.n7 ht, TwA.n8 ht, TwA.n9 ht, TwA.n10 ht, TwA.n11 ht, TwA.n12 ht, TwA.n13 ht, TwA.n14 ht, TwA.n15 ht, TwA.n16 ht, TwA.n17 ht, TwA.f2 ht, TwA.f3 ht, TwA.f5 ht, TwA.f6 ht, TwA.f8 ht, TwA.f9 ht, TwA.f11 ht, TwA.f12 ht, TwA.f13 ht, TwA.f14 ht, TwA.f15 ht, TwA.b0 ht, TwA.b1 ht, TwA.b2 ht, TwA.g0 ht, TwA.g1 ht, TwA.g2 ht, r.v0]
    rw [if_pos (by omega)]
  | succ j ih =>
    intro n l D hn hv hl hD hw
    obtain ⟨n, rfl⟩ : ∃ k, n = k + 1 := ⟨n - 1, by omega⟩
    have r := r0.fr (ext.put u l8 D) (fun a _ _ => agr.put (by omega)) (fun a _ _ => agr.put (by omega))
    have ht := r.ht
    have ha := r.ha
    simp only [m_X4_measure_L13, hgI_k, hgR_k, hpI_k, hpR_k, hpZ_k, haI_k, haR_k, hsI_k, hsZ_k, hlen_k, hlet_p, hret_p, hretZ_0, hretZ_1, hif_p, okk_setV, okk_setF, nV, nF, fV, vF, StA.k0 ha, StA.k1 ha, StA.k2 ha, StA.k3 ha, StA.k4 ha, StA.n1 ha, StA.n2 ha, StA.n3 ha, StA.n4 ha, StA.f2 ha, StA.f3 ha, StA.f4 ha, StA.f5 ha, r.to, TwA.k0 ht, TwA.k1 ht, TwA.k2 ht, TwA.k3 ht, TwA.k4 ht, TwA.k5 ht, TwA.k6 ht, TwA.k7 ht, TwA.k8 ht, TwA.k9 ht, TwA.k10 ht, TwA.k11 ht, TwA.k12 ht, TwA.k13 ht, TwA.k14 ht, TwA.k15 ht, TwA.k16 ht, TwA.k17 ht, TwA.n2 ht, TwA.n3 ht, TwA.n4 ht, TwA.n6 ht, TwA.n7 ht, TwA.n8 ht, TwA.n9 ht, TwA.n10 ht, TwA.n11 ht, TwA.n12 ht, TwA.n13 ht, TwA.n14 ht, TwA.n15 ht, TwA.n16 ht, TwA.n17 ht, TwA.f2 ht, TwA.f3 ht, TwA.f5 ht, TwA.f6 ht, TwA.f8 ht, TwA.f9 ht, TwA.f11 ht, TwA.f12 ht, TwA.f13 ht, TwA.f14 ht, TwA.f15 ht, TwA.b0 ht, TwA.b1 ht, TwA.b2 ht, TwA.g0 ht, TwA.g1 ht, TwA.g2 ht, r.v0]
    by_cases hg : (l : Int) ≥ S 0
    · rw [if_pos hg]
      exact ⟨D, rfl, hD, fun k x hk => hw k x (by omega)⟩
    · rw [if_neg hg]
      obtain ⟨E, e1, e2, e3, e4⟩ := x_meL hs r0 kl nl lz sz tz ws wv hp (a := a) (l : Int) (m_X4_measure_L13 n) (S 2).toNat 1000000000 0 D (by omega) (by omega) hD
      have e1' : m_X4_measure_L28 (m_X4_measure_L13 n) 1000000000 s p l8 l 0 (hput u l8 D) = m_X4_measure_L13 n s p l8 (w32 ((l : Int) + 1)) (hput u l8 E) := e1
      rw [e1', ix_s (by omega)]
      refine ih n (l + 1) E (by omega) (by omega) (by omega) e2 (fun k x hk hx => ?_)
      cases k with
      | zero =>
        have ex : x = a := hx
        rw [ex, Int.toNat_natCast]
        have q := e2.1
        omega
      | succ k =>
        obtain ⟨b, m, hb, ho, hm, he, h0⟩ := hx
        have q := e4 b (by omega) (by omega) ho
        have d := hw k m (by omega) hm
        rcases qEnd_cases he h0 with ⟨f1, f2⟩ | ⟨f1, f2⟩
        · rw [f1, f2] at q
          omega
        · rw [f1, f2] at q
          omega
theorem x_measure {u : hS} (hs : shp u) {s t p a : Nat} {S : Nat → Int} (r0 : RepS u s t S) {l8 : Nat} (kl : okk u l8 20) (nl : hN u l8 = 8) (lz : l8 = 8 ∨ l8 = 9) (sz : 30 ≤ s) (tz : t = 12 ∨ 243 ≤ t) (ws : WS S) (wv : WV S) (hp : (p : Int) < S 4) (ha : (a : Int) < S 0) : ∃ E : Nat → Int, m_X4_measure s p a l8 u = some (0, hput u l8 E) ∧ isPre S (opnX S (-1) p) a E ∧ ∀ (k : Nat) (x : Int), (k : Int) < S 0 → wkO S (opnX S (-1) p) a k x → E x.toNat ≤ k := by
  have w0 := ws.1
  have a8 : a < 8 := by omega
  have pre : isPre S (opnX S (-1) p) a (sup (fun j => if j < 8 then 99 else hV u l8 j) a 0) := by
    refine ⟨sup_s, fun r hr => ?_⟩
    by_cases e : r = a
    · subst e
      rw [sup_s]
      exact ⟨by omega, fun _ => rfl⟩
    · rw [sup_n e, if_pos (by omega)]
      exact ⟨by omega, fun z => by omega⟩
  obtain ⟨E, e1, e2, e3⟩ := x_meO hs r0 kl nl lz sz tz ws wv hp (a := a) 8 1000000000 1 _ (by omega) (by omega) (by omega) pre (fun k x hk hx => by
    obtain rfl : k = 0 := by omega
    have ex : x = a := hx
    rw [ex, Int.toNat_natCast, sup_s]
    omega)
  refine ⟨E, ?_, e2, e3⟩
  simp only [m_X4_measure, hgI_k, hgR_k, hpI_k, hpR_k, hpZ_k, haI_k, haR_k, hsI_k, hsZ_k, hlen_k, hlet_p, hret_p, hretZ_0, hretZ_1, hif_p, okk_setV, okk_setF, nV, nF, fV, vF, okk_put, nP, fP, hcall_b, hbind_s, x_fill kl nl (by decide), hsI_n, kl, nl, a8, setV_put]
  exact e1
