/-! worth and more -/
theorem bit_at9 : ∀ m : Nat, m < 512 → ∀ a : Nat, a < 9 → iandZ (ishrZ (m : Int) (a : Int)) 1 = if m.testBit a = true then 1 else 0 := by decide +kernel
theorem x_gmL {w : hS} {t B m0 : Nat} {S : Nat → Int} (hs : shp w) (rs : ∀ D, RepS (hput w 41 D) 30 t S) (f5 : hF w 40 5 = t) (hB : S 2 = (B : Int)) (B9 : B ≤ 9) (m5 : m0 < 512) : ∀ (m fl i : Nat) (D : Nat → Int), m < fl → i + m = B → (∀ b, b < B → 0 ≤ D b ∧ D b ≤ 10) → ∃ D', m_X2_giveMore_L2 fl 40 m0 i (hput w 41 D) = some (0, hput w 41 D') ∧ (∀ b, b < i → D' b = D b) ∧ ∀ b, i ≤ b → b < B → D' b = D b + (if m0.testBit b = true then 1 else 0) := by
  intro m
  induction m with
  | zero =>
    intro fl i D hf hi hD
    obtain ⟨fl, rfl⟩ : ∃ x, fl = x + 1 := ⟨fl - 1, by omega⟩
    have h1 : shp (hput w 41 D) := hs
    have r := rs D
    have ht := r.ht
    have v2 := r.v2
    have f5' : hF (hput w 41 D) 40 5 = t := f5
    refine ⟨D, ?_, fun _ _ => rfl, fun b h1 h2 => by omega⟩
    simp only [m_X2_giveMore_L2, hgI_k, hgR_k, hpI_k, hpR_k, hpZ_k, haI_k, haR_k, hsI_k, hsZ_k, hlen_k, hlet_p, hret_p, hretZ_0, hretZ_1, hif_p, okk_setV, okk_setF, nV, nF, fV, vF, kk_40 h1, f5', TwA.k0 ht, TwA.k1 ht, TwA.k2 ht, TwA.k3 ht, TwA.k4 ht, TwA.k5 ht, TwA.k6 ht, TwA.k7 ht, TwA.k8 ht, TwA.k9 ht, TwA.k10 ht, TwA.k11 ht, TwA.k12 ht, TwA.k13 ht, TwA.k14 ht, TwA.k15 ht, TwA.k16 ht, TwA.k17 ht, TwA.n2 ht, TwA.n3 ht, TwA.n4 ht, TwA.n6 ht, TwA.n7 ht, TwA.n8 ht, TwA.n9 ht, TwA.n10 ht, TwA.n11 ht, TwA.n12 ht, TwA.n13 ht, TwA.n14 ht, TwA.n15 ht, TwA.n16 ht, TwA.n17 ht, TwA.f2 ht, TwA.f3 ht, TwA.f5 ht, TwA.f6 ht, TwA.f8 ht, TwA.f9 ht, TwA.f11 ht, TwA.f12 ht, TwA.f13 ht, TwA.f14 ht, TwA.f15 ht, TwA.b0 ht, TwA.b1 ht, TwA.b2 ht, TwA.g0 ht, TwA.g1 ht, TwA.g2 ht, v2, hB]
    rw [if_pos (by omega)]
  | succ m ih =>
    intro fl i D hf hi hD
    obtain ⟨fl, rfl⟩ : ∃ x, fl = x + 1 := ⟨fl - 1, by omega⟩
    have h1 : shp (hput w 41 D) := hs
    have r := rs D
    have ht := r.ht
    have v2 := r.v2
    have f5' : hF (hput w 41 D) 40 5 = t := f5
    have i9 : i < 9 := by omega
    have dj := hD i (by omega)
    have bt := bit_at9 m0 m5 i i9
    have w1 : w32 (D i + (if m0.testBit i = true then 1 else 0)) = D i + (if m0.testBit i = true then 1 else 0) := by
      split <;> exact w32_id ⟨by omega, by omega⟩
    sorry
