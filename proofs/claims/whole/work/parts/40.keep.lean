/-! a row put whole -/
def hput (u : hS) (a : Nat) (g : Nat → Int) : hS := (u.1, u.2.1, (fun b j => if b = a then g j else u.2.2.1 b j), u.2.2.2.1, u.2.2.2.2)
theorem okk_put (u : hS) (a : Nat) (g : Nat → Int) (b k : Nat) : okk (hput u a g) b k = okk u b k := propext ⟨fun h => h, fun h => h⟩
theorem nP (u : hS) (a : Nat) (g : Nat → Int) : hN (hput u a g) = hN u := Eq.trans (b := hN u) rfl rfl
theorem fP (u : hS) (a : Nat) (g : Nat → Int) : hF (hput u a g) = hF u := Eq.trans (b := hF u) rfl rfl
theorem hV_put_s (u : hS) (a : Nat) (g : Nat → Int) : hV (hput u a g) a = g := by
  funext j
  exact if_pos rfl
theorem hV_put_n {u : hS} {a b : Nat} {g : Nat → Int} (h : b ≠ a) : hV (hput u a g) b = hV u b := by
  funext j
  exact if_neg h
theorem hput_self (u : hS) (a : Nat) : hput u a (hV u a) = u := by
  obtain ⟨K, N, V, F, B⟩ := u
  unfold hput hV
  simp only [Prod.mk.injEq, and_true, true_and]
  funext b j
  by_cases h : b = a
  · rw [if_pos h, h]
  · rw [if_neg h]
theorem setV_put (u : hS) (a : Nat) (g : Nat → Int) (i : Nat) (x : Int) : hsetV (hput u a g) a i x = hput u a (sup g i x) := by
  obtain ⟨K, N, V, F, B⟩ := u
  unfold hput hsetV sup
  simp only [Prod.mk.injEq, and_true, true_and]
  funext b j
  by_cases h : b = a
  · by_cases h2 : j = i
    · rw [if_pos ⟨h, h2⟩, if_pos h, if_pos h2]
    · rw [if_neg (fun z => h2 z.2), if_pos h, if_pos h, if_neg h2]
  · rw [if_neg (fun z => h z.1), if_neg h, if_neg h]
theorem shp_put (u : hS) (a : Nat) (g : Nat → Int) : shp (hput u a g) = shp u := propext ⟨fun h => h, fun h => h⟩
theorem ext.put (u : hS) (a : Nat) (g : Nat → Int) : ext u (hput u a g) := ⟨Nat.le_refl _, fun _ _ => ⟨rfl, rfl⟩⟩
theorem agr.put {u : hS} {a b : Nat} {g : Nat → Int} (h : b ≠ a) : agr u (hput u a g) b := fun i => ⟨by rw [hV_put_n h], rfl⟩
/-! keeping an act: the reference -/
def qKeep (W : Nat → Int) (c : Nat) (S : Nat → Int) : Nat → Int :=
  if c = 20 then (fun i => if i < 1786 then W (i + 94) else if i < 1880 then S (i - 1786) else W i)
  else (fun i => if 94 * c ≤ i ∧ i < 94 * c + 94 then S (i - 94 * c) else W i)
def qKeepN (c : Nat) : Nat := if c = 20 then 20 else c + 1
def shW (W : Nat → Int) (i : Nat) : Nat → Int := fun j => if j + 94 < i then W (j + 94) else W j
def cpW (W S : Nat → Int) (c i : Nat) : Nat → Int := fun j => if 94 * c ≤ j ∧ j < 94 * c + i then S (j - 94 * c) else W j
theorem ix_k {c i : Nat} (hc : c < 20) (hi : i < 94) : w32 (w32 (94 * (c : Int)) + i) = ((94 * c + i : Nat) : Int) := by
  rw [w32_n (x := 94 * (c : Int)) (n := 94 * c) (by omega) (by omega)]
  exact w32_n (by omega) (by omega)
theorem ix_m {i : Nat} (h0 : 94 ≤ i) (hi : i < 100000) : w32 ((i : Int) - 94) = ((i - 94 : Nat) : Int) := w32_n (by omega) (by omega)
theorem y_keepL {u : hS} (hs : shp u) {c : Nat} (hc : c < 20) (h25 : hV u 220 25 = c) (W : Nat → Int) : ∀ k n i : Nat, k < n → i + k = 94 → m_X10_keepsAct_L52 n 220 i (hput u 233 (cpW W (hV u 230) c i)) = some (0, hsetV (hput u 233 (cpW W (hV u 230) c 94)) 220 25 ((c + 1 : Nat) : Int)) := by
  intro k
  induction k with
  | zero =>
    intro n i hn hi
    obtain ⟨m, rfl⟩ : ∃ m, n = m + 1 := ⟨n - 1, by omega⟩
    obtain rfl : i = 94 := by omega
    simp only [m_X10_keepsAct_L52, hgI_k, hgR_k, hpI_k, hpR_k, hpZ_k, haI_k, haR_k, hsI_k, hsZ_k, hlen_k, hlet_e, hret_e, hretZ_0, hretZ_1, hif_e, okk_setV, okk_setF, nV, nF, fV, vF, okk_put, nP, fP, kk_220 hs, hV_put_n (show 220 ≠ 233 by decide), h25]
    rw [if_pos (by omega), ix_s (by omega)]
  | succ k ih =>
    intro n i hn hi
    obtain ⟨m, rfl⟩ : ∃ m, n = m + 1 := ⟨n - 1, by omega⟩
    have i1 : i < 160 := by omega
    have i2 : 94 * c + i < 1880 := by omega
    have i3 : i < 94 := by omega
    have i4 : i < 1000000 := by omega
    simp only [m_X10_keepsAct_L52, hgI_k, hgR_k, hpI_k, hpR_k, hpZ_k, haI_k, haR_k, hsI_k, hsZ_k, hlen_k, hlet_e, hret_e, hretZ_0, hretZ_1, hif_e, okk_setV, okk_setF, nV, nF, fV, vF, okk_put, nP, fP, haI_n, hsI_n, kk_220 hs, kk_230 hs, kk_233 hs, rf_220_20 hs, rf_220_24 hs, ln_230 hs, ln_233 hs, hV_put_n (show 220 ≠ 233 by decide), hV_put_n (show 230 ≠ 233 by decide), h25, ix_k hc i3, ix_s i4, i1, i2, setV_put]
    rw [if_neg (by omega), ← ih m (i + 1) (by omega) (by omega)]
    congr 2
    funext j
    unfold sup cpW
    by_cases h : j = 94 * c + i
    · rw [if_pos h, if_pos (by omega), h]
      congr 1
      omega
    · rw [if_neg h]
      by_cases h1 : 94 * c ≤ j ∧ j < 94 * c + i
      · rw [if_pos h1, if_pos (by omega)]
      · rw [if_neg h1, if_neg (by omega)]
theorem cpW_0 (W S : Nat → Int) (c : Nat) : cpW W S c 0 = W := by
  funext j
  exact if_neg (by omega)
theorem y_shL {u : hS} (hs : shp u) (h25 : hV u 220 25 = 20) : ∀ k n i : Nat, k < n → 94 ≤ i → i + k = 1880 → m_X10_keepsAct_L12 n 220 i (hput u 233 (shW (hV u 233) i)) = m_X10_keepsAct_L50 220 (hsetV (hput u 233 (shW (hV u 233) 1880)) 220 25 19) := by
  intro k
  induction k with
  | zero =>
    intro n i hn h0 hi
    obtain ⟨m, rfl⟩ : ∃ m, n = m + 1 := ⟨n - 1, by omega⟩
    obtain rfl : i = 1880 := by omega
    simp only [m_X10_keepsAct_L12, hgI_k, hgR_k, hpI_k, hpR_k, hpZ_k, haI_k, haR_k, hsI_k, hsZ_k, hlen_k, hlet_e, hret_e, hretZ_0, hretZ_1, hif_e, okk_setV, okk_setF, nV, nF, fV, vF, okk_put, nP, fP, kk_220 hs, hV_put_n (show 220 ≠ 233 by decide), h25]
    rw [if_pos (by omega), show w32 (20 - 1) = 19 from rfl]
  | succ k ih =>
    intro n i hn h0 hi
    obtain ⟨m, rfl⟩ : ∃ m, n = m + 1 := ⟨n - 1, by omega⟩
    have i1 : i < 1880 := by omega
    have i2 : i - 94 < 1880 := by omega
    have i3 : i < 100000 := by omega
    have i4 : i < 1000000 := by omega
    simp only [m_X10_keepsAct_L12, hgI_k, hgR_k, hpI_k, hpR_k, hpZ_k, haI_k, haR_k, hsI_k, hsZ_k, hlen_k, hlet_e, hret_e, hretZ_0, hretZ_1, hif_e, okk_setV, okk_setF, nV, nF, fV, vF, okk_put, nP, fP, haI_n, hsI_n, kk_220 hs, kk_233 hs, rf_220_24 hs, ln_233 hs, hV_put_s, ix_m h0 i3, ix_s i4, i1, i2, setV_put]
    rw [if_neg (by omega), ← ih m (i + 1) (by omega) (by omega) (by omega)]
    congr 2
    funext j
    unfold sup shW
    by_cases h : j = i - 94
    · rw [if_pos h, if_neg (by omega), if_pos (by omega), h]
      congr 1
      omega
    · rw [if_neg h]
      by_cases h1 : j + 94 < i
      · rw [if_pos h1, if_pos (by omega)]
      · rw [if_neg h1, if_neg (by omega)]
theorem shW_0 (W : Nat → Int) : shW W 94 = W := by
  funext j
  exact if_neg (by omega)
theorem y_keepsAct {u : hS} (hs : shp u) {c : Nat} (hc : c ≤ 20) (h25 : hV u 220 25 = c) : m_X10_keepsAct 220 u = some (0, hsetV (hput u 233 (qKeep (hV u 233) c (hV u 230))) 220 25 (qKeepN c : Int)) := by
  simp only [m_X10_keepsAct, hgI_k, hgR_k, hpI_k, hpR_k, hpZ_k, haI_k, haR_k, hsI_k, hsZ_k, hlen_k, hlet_e, hret_e, hretZ_0, hretZ_1, hif_e, okk_setV, okk_setF, nV, nF, fV, vF, kk_220 hs]
  by_cases h : c = 20
  · subst h
    rw [h25, if_neg (by decide)]
    have e := y_shL hs h25 1786 1000000000 94 (by omega) (by omega) (by omega)
    rw [shW_0, hput_self] at e
    rw [show (94 : Int) = ((94 : Nat) : Int) from rfl, e]
    simp only [m_X10_keepsAct_L50, hlet_e]
    have hs' : shp (hsetV (hput u 233 (shW (hV u 233) 1880)) 220 25 19) := hs
    have e2 := y_keepL hs' (c := 19) (by omega) (hV_setV_s _ _ _ _) (hV (hsetV (hput u 233 (shW (hV u 233) 1880)) 220 25 19) 233) 94 1000000000 0 (by omega) (by omega)
    rw [cpW_0, hput_self] at e2
    rw [show (0 : Int) = ((0 : Nat) : Int) from rfl, e2]
    have k1 : hV (hsetV (hput u 233 (shW (hV u 233) 1880)) 220 25 19) 233 = shW (hV u 233) 1880 := by rw [hV_ne (by decide), hV_put_s]
    have k2 : hV (hsetV (hput u 233 (shW (hV u 233) 1880)) 220 25 19) 230 = hV u 230 := by rw [hV_ne (by decide), hV_put_n (by decide)]
    rw [k1, k2]
    have k3 : cpW (shW (hV u 233) 1880) (hV u 230) 19 94 = qKeep (hV u 233) 20 (hV u 230) := by
      unfold qKeep
      rw [if_pos rfl]
      funext j
      unfold cpW shW
      by_cases h1 : j < 1786
      · rw [if_pos h1, if_neg (by omega), if_pos (by omega)]
      · rw [if_neg h1]
        by_cases h2 : j < 1880
        · rw [if_pos h2, if_pos (by omega)]
        · rw [if_neg h2, if_neg (by omega), if_neg (by omega)]
    rw [k3]
    congr 2
    obtain ⟨K, N, V, F, B⟩ := u
    unfold hput hsetV
    simp only [Prod.mk.injEq, and_true, true_and]
    funext b j
    by_cases h1 : b = 220 ∧ j = 25
    · rw [if_pos h1, if_pos h1]
      rfl
    · by_cases h2 : b = 233
      · simp only [if_neg h1, if_pos h2]
      · simp only [if_neg h1, if_neg h2]
  · rw [h25, if_pos (by omega)]
    simp only [m_X10_keepsAct_L50, hlet_e]
    have e := y_keepL hs (c := c) (by omega) h25 (hV u 233) 94 1000000000 0 (by omega) (by omega)
    rw [cpW_0, hput_self] at e
    rw [show (0 : Int) = ((0 : Nat) : Int) from rfl, e]
    unfold qKeep qKeepN
    rw [if_neg h, if_neg h]
    rfl
