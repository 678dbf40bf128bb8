/-! the tape -/
theorem setV_self (u : hS) (a i : Nat) : hsetV u a i (hV u a i) = u := by
  obtain ⟨K, N, V, F, B⟩ := u
  unfold hsetV hV
  simp only [Prod.mk.injEq, and_true, true_and]
  funext b j
  by_cases h : b = a ∧ j = i
  · rw [if_pos h, h.1, h.2]
  · rw [if_neg h]
theorem put_set (u : hS) {a c : Nat} (g : Nat → Int) (j : Nat) (x : Int) (i : Nat) (y x' : Int) (h : c ≠ a) : hsetV (hsetV (hsetV (hput u a g) c j x) a i y) c j x' = hsetV (hput u a (sup g i y)) c j x' := by
  obtain ⟨K, N, V, F, B⟩ := u
  unfold hput hsetV sup
  simp only [Prod.mk.injEq, and_true, true_and]
  funext b k
  by_cases h1 : b = c ∧ k = j
  · rw [if_pos h1, if_pos h1]
  · by_cases h2 : b = a
    · by_cases h3 : k = i
      · simp only [if_neg h1, if_pos h2, if_pos (And.intro h2 h3), if_pos h3]
      · simp only [if_neg h1, if_pos h2, if_neg (fun z : b = a ∧ k = i => h3 z.2), if_neg h3]
    · simp only [if_neg h1, if_neg h2, if_neg (fun z : b = a ∧ k = i => h2 z.1)]
def byt (x l : Int) : Int := i2bZ (i2bZ (ishrZ x l))
def put4 (g : Nat → Int) (n : Nat) (x : Int) : Nat → Int := sup (sup (sup (sup g n (byt x 24)) (n + 1) (byt x 16)) (n + 2) (byt x 8)) (n + 3) (byt x 0)
theorem x_put1 {u : hS} (hs : shp u) (x l : Int) (hl : 0 ≤ l) (g : Nat → Int) (k n : Nat) (hk : k < 400) : m_X6_put_L3 (n + 1) 2 x l (hsetV (hput u 3 g) 2 1 (k : Int)) = m_X6_put_L3 n 2 x (w32 (l + -8)) (hsetV (hput u 3 (sup g k (byt x l))) 2 1 ((k + 1 : Nat) : Int)) := by
  have i4 : k < 1000000 := by omega
  have z : hV (hsetV (hsetV (hput u 3 g) 2 1 (k : Int)) 3 k (i2bZ (i2bZ (ishrZ x l)))) 2 1 = k := by rw [hV_setV_a (by decide), hV_setV_s]
  simp only [m_X6_put_L3, hgI_k, hgR_k, hpI_k, hpR_k, hpZ_k, haI_k, haR_k, hsI_k, hsZ_k, hlen_k, hlet_e, hret_e, hretZ_0, hretZ_1, hif_e, okk_setV, okk_setF, nV, nF, fV, vF, okk_put, nP, fP, hsI_n, kk_2 hs, kk_3 hs, rf_2_0 hs, ln_3 hs, hV_setV_s, hk, z, ix_s i4, put_set u g 1 (k : Int) k _ _ (show 2 ≠ 3 by decide)]
  rw [if_neg (by omega), if_neg (by omega)]
  rfl
theorem x_put0 (u : hS) (x : Int) (n : Nat) : m_X6_put_L3 (n + 1) 2 x (-8) u = some (0, u) := by
  simp only [m_X6_put_L3, m_X6_put_L46, hgI_k, hgR_k, hpI_k, hpR_k, hpZ_k, haI_k, haR_k, hsI_k, hsZ_k, hlen_k, hlet_e, hret_e, hretZ_0, hretZ_1, hif_e, okk_setV, okk_setF, nV, nF, fV, vF]
  rw [if_pos (by decide)]
theorem x_put {u : hS} (hs : shp u) (x : Int) (g : Nat → Int) (k : Nat) (hk : k + 4 ≤ 400) : m_X6_put 2 x (hsetV (hput u 3 g) 2 1 (k : Int)) = some (0, hsetV (hput u 3 (put4 g k x)) 2 1 ((k + 4 : Nat) : Int)) := by
  simp only [m_X6_put, hlet_e]
  rw [show (1000000000 : Nat) = 999999995 + 1 + 1 + 1 + 1 + 1 from rfl, x_put1 hs x 24 (by decide) g k _ (by omega), show w32 (24 + -8) = 16 from rfl, x_put1 hs x 16 (by decide) _ (k + 1) _ (by omega), show w32 (16 + -8) = 8 from rfl, x_put1 hs x 8 (by decide) _ (k + 1 + 1) _ (by omega), show w32 (8 + -8) = 0 from rfl, x_put1 hs x 0 (by decide) _ (k + 1 + 1 + 1) _ (by omega), show w32 (0 + -8) = -8 from rfl, x_put0]
  rfl
theorem y_four1 {u : hS} (hs : shp u) (x l : Int) (hl : 0 ≤ l) (g : Nat → Int) (k n : Nat) (hk : k < 400) : m_X10_four_L3 (n + 1) 220 x l (hsetV (hput u 221 g) 220 1 (k : Int)) = m_X10_four_L3 n 220 x (w32 (l + -8)) (hsetV (hput u 221 (sup g k (byt x l))) 220 1 ((k + 1 : Nat) : Int)) := by
  have i4 : k < 1000000 := by omega
  have z : hV (hsetV (hsetV (hput u 221 g) 220 1 (k : Int)) 221 k (i2bZ (i2bZ (ishrZ x l)))) 220 1 = k := by rw [hV_setV_a (by decide), hV_setV_s]
  simp only [m_X10_four_L3, hgI_k, hgR_k, hpI_k, hpR_k, hpZ_k, haI_k, haR_k, hsI_k, hsZ_k, hlen_k, hlet_e, hret_e, hretZ_0, hretZ_1, hif_e, okk_setV, okk_setF, nV, nF, fV, vF, okk_put, nP, fP, hsI_n, kk_220 hs, kk_221 hs, rf_220_0 hs, ln_221 hs, hV_setV_s, hk, z, ix_s i4, put_set u g 1 (k : Int) k _ _ (show 220 ≠ 221 by decide)]
  rw [if_neg (by omega)]
  rfl
theorem y_four0 (u : hS) (x : Int) (n : Nat) : m_X10_four_L3 (n + 1) 220 x (-8) u = some (0, u) := by
  simp only [m_X10_four_L3, hgI_k, hgR_k, hpI_k, hpR_k, hpZ_k, haI_k, haR_k, hsI_k, hsZ_k, hlen_k, hlet_e, hret_e, hretZ_0, hretZ_1, hif_e, okk_setV, okk_setF, nV, nF, fV, vF]
  rw [if_pos (by decide)]
theorem y_four {u : hS} (hs : shp u) (x : Int) (g : Nat → Int) (k : Nat) (hk : k + 4 ≤ 400) : m_X10_four 220 x (hsetV (hput u 221 g) 220 1 (k : Int)) = some (0, hsetV (hput u 221 (put4 g k x)) 220 1 ((k + 4 : Nat) : Int)) := by
  simp only [m_X10_four, hlet_e]
  rw [show (1000000000 : Nat) = 999999995 + 1 + 1 + 1 + 1 + 1 from rfl, y_four1 hs x 24 (by decide) g k _ (by omega), show w32 (24 + -8) = 16 from rfl, y_four1 hs x 16 (by decide) _ (k + 1) _ (by omega), show w32 (16 + -8) = 8 from rfl, y_four1 hs x 8 (by decide) _ (k + 1 + 1) _ (by omega), show w32 (8 + -8) = 0 from rfl, y_four1 hs x 0 (by decide) _ (k + 1 + 1 + 1) _ (by omega), show w32 (0 + -8) = -8 from rfl, y_four0]
  rfl
def put20 (g : Nat → Int) (n : Nat) (a b c d e : Int) : Nat → Int := put4 (put4 (put4 (put4 (put4 g n a) (n + 4) b) (n + 4 + 4) c) (n + 4 + 4 + 4) d) (n + 4 + 4 + 4 + 4) e
theorem x_feed {u : hS} (hs : shp u) {n : Nat} (h : hV u 2 1 = n) (hn : n ≤ 400) (a b c d e : Int) : m_X9_feed 1 a b c d e u = if n + 20 ≤ 400 then some (((n + 20 : Nat) : Int), hsetV (hput u 3 (put20 (hV u 3) n a b c d e)) 2 1 ((n + 20 : Nat) : Int)) else some (-1, u) := by
  have w : w32 ((n : Int) + 20) = ((n + 20 : Nat) : Int) := w32_n (by omega) (by omega)
  have e0 : u = hsetV (hput u 3 (hV u 3)) 2 1 (n : Int) := by rw [hput_self, ← h, setV_self]
  simp only [m_X9_feed, hgI_k, hgR_k, hpI_k, hpR_k, hpZ_k, haI_k, haR_k, hsI_k, hsZ_k, hlen_k, hlet_e, hret_e, hretZ_0, hretZ_1, hif_e, okk_setV, okk_setF, nV, nF, fV, vF, kk_1 hs, kk_2 hs, rf_1_0 hs, h, w]
  by_cases hc : n + 20 ≤ 400
  · rw [if_pos (by omega), if_pos hc]
    have p1 := x_put hs a (hV u 3) n (by omega)
    rw [← e0] at p1
    have p2 := x_put hs b (put4 (hV u 3) n a) (n + 4) (by omega)
    have p3 := x_put hs c (put4 (put4 (hV u 3) n a) (n + 4) b) (n + 4 + 4) (by omega)
    have p4 := x_put hs d (put4 (put4 (put4 (hV u 3) n a) (n + 4) b) (n + 4 + 4) c) (n + 4 + 4 + 4) (by omega)
    have p5 := x_put hs e (put4 (put4 (put4 (put4 (hV u 3) n a) (n + 4) b) (n + 4 + 4) c) (n + 4 + 4 + 4) d) (n + 4 + 4 + 4 + 4) (by omega)
    simp only [hcallV_b, hbind_s, hgI_k, hgR_k, hpI_k, hpR_k, hpZ_k, haI_k, haR_k, hsI_k, hsZ_k, hlen_k, hlet_e, hret_e, hretZ_0, hretZ_1, hif_e, okk_setV, okk_setF, nV, nF, fV, vF, okk_put, nP, fP, kk_1 hs, kk_2 hs, rf_1_0 hs, p1, p2, p3, p4, p5, hV_setV_s]
    rfl
  · rw [if_neg (by omega), if_neg hc]
theorem y_feed {u : hS} (hs : shp u) {n : Nat} (h : hV u 220 1 = n) (hn : n ≤ 400) (a b c d e : Int) : m_X10_feed 220 a b c d e u = if n + 20 ≤ 400 then some (((n + 20 : Nat) : Int), hsetV (hput u 221 (put20 (hV u 221) n a b c d e)) 220 1 ((n + 20 : Nat) : Int)) else some (-1, u) := by
  have w : w32 ((n : Int) + 20) = ((n + 20 : Nat) : Int) := w32_n (by omega) (by omega)
  have e0 : u = hsetV (hput u 221 (hV u 221)) 220 1 (n : Int) := by rw [hput_self, ← h, setV_self]
  simp only [m_X10_feed, hgI_k, hgR_k, hpI_k, hpR_k, hpZ_k, haI_k, haR_k, hsI_k, hsZ_k, hlen_k, hlet_e, hret_e, hretZ_0, hretZ_1, hif_e, okk_setV, okk_setF, nV, nF, fV, vF, kk_220 hs, h, w]
  by_cases hc : n + 20 ≤ 400
  · rw [if_pos (by omega), if_pos hc]
    have p1 := y_four hs a (hV u 221) n (by omega)
    rw [← e0] at p1
    have p2 := y_four hs b (put4 (hV u 221) n a) (n + 4) (by omega)
    have p3 := y_four hs c (put4 (put4 (hV u 221) n a) (n + 4) b) (n + 4 + 4) (by omega)
    have p4 := y_four hs d (put4 (put4 (put4 (hV u 221) n a) (n + 4) b) (n + 4 + 4) c) (n + 4 + 4 + 4) (by omega)
    have p5 := y_four hs e (put4 (put4 (put4 (put4 (hV u 221) n a) (n + 4) b) (n + 4 + 4) c) (n + 4 + 4 + 4) d) (n + 4 + 4 + 4 + 4) (by omega)
    simp only [hcallV_b, hbind_s, hgI_k, hgR_k, hpI_k, hpR_k, hpZ_k, haI_k, haR_k, hsI_k, hsZ_k, hlen_k, hlet_e, hret_e, hretZ_0, hretZ_1, hif_e, okk_setV, okk_setF, nV, nF, fV, vF, okk_put, nP, fP, kk_220 hs, p1, p2, p3, p4, p5, hV_setV_s]
    rfl
  · rw [if_neg (by omega), if_neg hc]
def RepP (u : hS) : Prop := ∃ n : Nat, n ≤ 400 ∧ hV u 2 1 = n ∧ hV u 220 1 = n ∧ ∀ i, i < n → hV u 3 i = hV u 221 i ∧ -128 ≤ hV u 3 i ∧ hV u 3 i ≤ 127
def sameP (n : Nat) (g g' : Nat → Int) : Prop := ∀ i, i < n → g i = g' i ∧ -128 ≤ g i ∧ g i ≤ 127
theorem byt_in (x l : Int) : -128 ≤ byt x l ∧ byt x l ≤ 127 := i2bZ_b _
theorem sameP_s {n : Nat} {g g' : Nat → Int} (h : sameP n g g') {x : Int} (hx : -128 ≤ x ∧ x ≤ 127) : sameP (n + 1) (sup g n x) (sup g' n x) := by
  intro i hi
  by_cases e : i = n
  · subst e
    rw [sup_s, sup_s]
    exact ⟨rfl, hx⟩
  · rw [sup_n e, sup_n e]
    exact h i (by omega)
theorem sameP_4 {n : Nat} {g g' : Nat → Int} (h : sameP n g g') (x : Int) : sameP (n + 4) (put4 g n x) (put4 g' n x) := sameP_s (sameP_s (sameP_s (sameP_s h (byt_in x 24)) (byt_in x 16)) (byt_in x 8)) (byt_in x 0)
theorem sameP_20 {n : Nat} {g g' : Nat → Int} (h : sameP n g g') (a b c d e : Int) : sameP (n + 20) (put20 g n a b c d e) (put20 g' n a b c d e) := sameP_4 (sameP_4 (sameP_4 (sameP_4 (sameP_4 h a) b) c) d) e
/-- what a call of the tape may change: the class's, then the reference's -/
def okTap (u v : hS) : Prop := ext u v ∧ shp v ∧ (∀ a, a ≠ 2 → a ≠ 3 → a ≠ 220 → a ≠ 221 → agr u v a) ∧ (∀ i, i ≠ 1 → hV v 220 i = hV u 220 i) ∧ ∀ a i, hF v a i = hF u a i
theorem a_feed {u : hS} (hs : shp u) (rp : RepP u) (a b c d e : Int) : ∃ r u1 u2, m_X9_feed 1 a b c d e u = some (r, u1) ∧ m_X10_feed 220 a b c d e u1 = some (r, u2) ∧ shp u1 ∧ okTap u u2 ∧ RepP u2 := by
  obtain ⟨n, hn, h2, h220, hp⟩ := id rp
  have x := x_feed hs h2 hn a b c d e
  by_cases hc : n + 20 ≤ 400
  · rw [if_pos hc] at x
    have hs1 : shp (hsetV (hput u 3 (put20 (hV u 3) n a b c d e)) 2 1 ((n + 20 : Nat) : Int)) := hs
    have k220 : hV (hsetV (hput u 3 (put20 (hV u 3) n a b c d e)) 2 1 ((n + 20 : Nat) : Int)) 220 = hV u 220 := by rw [hV_ne (by decide), hV_put_n (by decide)]
    have k221 : hV (hsetV (hput u 3 (put20 (hV u 3) n a b c d e)) 2 1 ((n + 20 : Nat) : Int)) 221 = hV u 221 := by rw [hV_ne (by decide), hV_put_n (by decide)]
    have y := y_feed hs1 (by rw [k220]; exact h220) hn a b c d e
    rw [if_pos hc, k221] at y
    refine ⟨_, _, _, x, y, hs1, ⟨⟨Nat.le_refl _, fun _ _ => ⟨rfl, rfl⟩⟩, hs, fun q z1 z2 z3 z4 => (((agr.put z2).tr (agr.setV z1)).tr (agr.put z4)).tr (agr.setV z3), fun i hi => ?_, fun _ _ => rfl⟩, ?_⟩
    · rw [hV_setV_i hi, hV_put_n (by decide), k220]
    · refine ⟨n + 20, hc, ?_, hV_setV_s _ _ _ _, ?_⟩
      · rw [hV_setV_a (by decide), hV_put_n (by decide), hV_setV_s]
      · rw [hV_ne (by decide), hV_ne (by decide), hV_put_s, hV_put_n (by decide), hV_ne (by decide), hV_put_s]
        exact sameP_20 hp a b c d e
  · rw [if_neg hc] at x
    have y := y_feed hs h220 hn a b c d e
    rw [if_neg hc] at y
    exact ⟨_, _, _, x, y, hs, ⟨ext.rf u, hs, fun _ _ _ _ _ _ => ⟨rfl, rfl⟩, fun _ _ => rfl, fun _ _ => rfl⟩, rp⟩
theorem a_end {u : hS} (hs : shp u) (rp : RepP u) (n : Int) : ∃ r u1 u2, m_X9_end 1 n u = some (r, u1) ∧ m_X10_end 220 n u1 = some (r, u2) ∧ shp u1 ∧ okTap u u2 ∧ RepP u2 := by
  obtain ⟨m, hm, h2, h220, hp⟩ := id rp
  have x := x_end u hs n
  by_cases h0 : n < 0
  · have y := y_end u hs n
    rw [if_pos h0] at x y
    exact ⟨_, _, _, x, y, hs, ⟨ext.rf u, hs, fun _ _ _ _ _ _ => ⟨rfl, rfl⟩, fun _ _ => rfl, fun _ _ => rfl⟩, rp⟩
  · rw [if_neg h0, h2] at x
    by_cases h1 : n ≤ m
    · rw [if_pos h1] at x
      have hs1 : shp (hsetV u 2 1 n) := hs
      have y := y_end (hsetV u 2 1 n) hs1 n
      rw [if_neg h0, hV_setV_a (by decide), h220, if_pos h1] at y
      obtain ⟨k, rfl⟩ : ∃ k : Nat, n = k := ⟨n.toNat, by omega⟩
      refine ⟨_, _, _, x, y, hs1, ⟨⟨Nat.le_refl _, fun _ _ => ⟨rfl, rfl⟩⟩, hs, fun q z1 z2 z3 z4 => (agr.setV z1).tr (agr.setV z3), fun i hi => ?_, fun _ _ => rfl⟩, ?_⟩
      · rw [hV_setV_i hi, hV_setV_a (by decide)]
      · refine ⟨k, by omega, ?_, hV_setV_s _ _ _ _, fun i hi => ?_⟩
        · rw [hV_setV_a (by decide), hV_setV_s]
        · rw [hV_setV_a (by decide), hV_setV_a (by decide), hV_setV_a (by decide), hV_setV_a (by decide)]
          exact hp i (by omega)
    · have y := y_end u hs n
      rw [if_neg h0, h220, if_neg h1] at y
      rw [if_neg h1] at x
      exact ⟨_, _, _, x, y, hs, ⟨ext.rf u, hs, fun _ _ _ _ _ _ => ⟨rfl, rfl⟩, fun _ _ => rfl, fun _ _ => rfl⟩, rp⟩
