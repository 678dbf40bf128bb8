/-! the tape as the class reads it -/
def tf (g : Nat → Int) (p s f : Int) : Nat → Int := fun i => if i = 2 then p else if i = 3 then s else if i = 4 then f else g i
def tS (u : hS) (p s f : Int) : hS := hput u 2 (tf (hV u 2) p s f)
theorem tS_2 (u : hS) (p s f : Int) : hV (tS u p s f) 2 2 = p := by
  unfold tS
  rw [hV_put_s]
  rfl
theorem tS_3 (u : hS) (p s f : Int) : hV (tS u p s f) 2 3 = s := by
  unfold tS
  rw [hV_put_s]
  rfl
theorem tS_4 (u : hS) (p s f : Int) : hV (tS u p s f) 2 4 = f := by
  unfold tS
  rw [hV_put_s]
  rfl
theorem tS_1 (u : hS) (p s f : Int) : hV (tS u p s f) 2 1 = hV u 2 1 := by
  unfold tS
  rw [hV_put_s]
  rfl
theorem tS_o {u : hS} {p s f : Int} {a : Nat} (h : a ≠ 2) : hV (tS u p s f) a = hV u a := hV_put_n h
theorem tS_k (u : hS) (p s f : Int) (a k : Nat) : okk (tS u p s f) a k = okk u a k := okk_put _ _ _ _ _
theorem tS_N (u : hS) (p s f : Int) : hN (tS u p s f) = hN u := nP _ _ _
theorem tS_F (u : hS) (p s f : Int) : hF (tS u p s f) = hF u := fP _ _ _
theorem tS_B (u : hS) (p s f : Int) : hB (tS u p s f) = hB u := Eq.trans (b := hB u) rfl rfl
theorem tS_shp (u : hS) (p s f : Int) : shp (tS u p s f) = shp u := shp_put _ _ _
theorem tS_w2 (u : hS) (p s f x : Int) : hsetV (tS u p s f) 2 2 x = tS u x s f := by
  unfold tS
  rw [setV_put]
  congr 1
  funext i
  unfold sup tf
  by_cases h : i = 2
  · rw [if_pos h, if_pos h]
  · rw [if_neg h, if_neg h, if_neg h]
theorem tS_w3 (u : hS) (p s f x : Int) : hsetV (tS u p s f) 2 3 x = tS u p x f := by
  unfold tS
  rw [setV_put]
  congr 1
  funext i
  unfold sup tf
  by_cases h : i = 3
  · subst h
    rfl
  · rw [if_neg h, if_neg h, if_neg h]
theorem tS_w4 (u : hS) (p s f x : Int) : hsetV (tS u p s f) 2 4 x = tS u p s x := by
  unfold tS
  rw [setV_put]
  congr 1
  funext i
  unfold sup tf
  by_cases h : i = 4
  · subst h
    rfl
  · rw [if_neg h, if_neg h, if_neg h]
theorem tS_tS (u : hS) (p s f p' s' f' : Int) : tS (tS u p s f) p' s' f' = tS u p' s' f' := by
  unfold tS
  rw [hV_put_s, put_put]
  congr 1
  funext i
  unfold tf
  split
  · rfl
  · split
    · rfl
    · split
      · rfl
      · rfl
theorem tS_self (u : hS) : tS u (hV u 2 2) (hV u 2 3) (hV u 2 4) = u := by
  unfold tS
  have e : tf (hV u 2) (hV u 2 2) (hV u 2 3) (hV u 2 4) = hV u 2 := by
    funext i
    unfold tf
    split
    · rename_i h
      rw [h]
    · split
      · rename_i h
        rw [h]
      · split
        · rename_i h
          rw [h]
        · rfl
  rw [e, hput_self]
theorem put_set_c (u : hS) {a b : Nat} (g : Nat → Int) (i : Nat) (x : Int) (h : b ≠ a) : hsetV (hput u a g) b i x = hput (hsetV u b i x) a g := by
  obtain ⟨K, N, V, F, B⟩ := u
  unfold hput hsetV
  simp only [Prod.mk.injEq, and_true, true_and]
  funext c j
  by_cases h1 : c = a
  · rw [if_neg (fun z => h (z.1.symm.trans h1)), if_pos h1, if_pos h1]
  · rw [if_neg h1, if_neg h1]
theorem tS_set {u : hS} {p s f : Int} {a i : Nat} {x : Int} (h : a ≠ 2) : hsetV (tS u p s f) a i x = tS (hsetV u a i x) p s f := by
  unfold tS
  have e : hV (hsetV u a i x) 2 = hV u 2 := by
    funext j
    exact hV_setV_a (Ne.symm h)
  rw [put_set_c u _ i x h, e]
/-! blanks -/
def skp (B : Nat → Int) : Nat → Nat → Nat
  | 0, p => p
  | k + 1, p => if B p = 32 then skp B k (p + 1) else p
theorem skp_s (B : Nat → Int) (k p : Nat) : skp B (k + 1) p = if B p = 32 then skp B k (p + 1) else p := rfl
def sk (B : Nat → Int) (n p : Nat) : Nat := skp B (n - p) p
theorem skp_b (B : Nat → Int) : ∀ k p, p ≤ skp B k p ∧ skp B k p ≤ p + k := by
  intro k
  induction k with
  | zero => exact fun p => ⟨Nat.le_refl _, Nat.le_refl _⟩
  | succ k ih =>
    intro p
    rw [skp_s]
    by_cases h : B p = 32
    · rw [if_pos h]
      have := ih (p + 1)
      omega
    · rw [if_neg h]
      omega
theorem skp_i (B : Nat → Int) : ∀ k p, skp B k p < p + k → B (skp B k p) ≠ 32 := by
  intro k
  induction k with
  | zero =>
    intro p h
    exact absurd h (Nat.lt_irrefl _)
  | succ k ih =>
    intro p h
    rw [skp_s] at h ⊢
    by_cases h1 : B p = 32
    · rw [if_pos h1] at h ⊢
      exact ih (p + 1) (by omega)
    · rw [if_neg h1]
      exact h1
theorem sk_le (B : Nat → Int) {n p : Nat} (h : p ≤ n) : p ≤ sk B n p ∧ sk B n p ≤ n := by
  have := skp_b B (n - p) p
  unfold sk
  omega
theorem sk_sk (B : Nat → Int) {n p : Nat} (h : p ≤ n) : sk B n (sk B n p) = sk B n p := by
  have a := sk_le B h
  by_cases e : sk B n p = n
  · rw [e]
    unfold sk
    rw [Nat.sub_self]
    rfl
  · have b : B (sk B n p) ≠ 32 := skp_i B (n - p) p (by unfold sk at a e; omega)
    have c : sk B n (sk B n p) = skp B (n - sk B n p) (sk B n p) := rfl
    rw [c]
    obtain ⟨k, hk⟩ : ∃ k, n - sk B n p = k + 1 := ⟨n - sk B n p - 1, by omega⟩
    rw [hk, skp_s, if_neg b]
def chr (B : Nat → Int) (n p : Nat) : Int := if p < n then iandZ (B p) 255 else -1
theorem x_nextL {u : hS} (hs : shp u) {n : Nat} (hn : hV u 2 1 = (n : Int)) (n4 : n ≤ 400) (s f : Int) : ∀ k m p : Nat, k < m → p + k = n → m_X6_next_L0 m 2 (tS u (p : Int) s f) = some (chr (hV u 3) n (skp (hV u 3) k p), tS u ((skp (hV u 3) k p : Nat) : Int) s f) := by
  intro k
  induction k with
  | zero =>
    intro m p hm hp
    obtain ⟨m, rfl⟩ : ∃ j, m = j + 1 := ⟨m - 1, by omega⟩
    simp only [m_X6_next_L0, m_X6_next_L38, m_X6_next_L66, hgI_k, hgR_k, hpI_k, hpR_k, hpZ_k, haI_k, haR_k, hsI_k, hsZ_k, hlen_k, hlet_e, hret_e, hretZ_0, hretZ_1, hif_e, okk_setV, okk_setF, nV, nF, fV, vF, tS_k, tS_N, tS_F, tS_1, tS_2, kk_2 hs, hn]
    rw [if_pos (by omega), if_pos (by omega)]
    show _ = some (chr (hV u 3) n p, tS u (p : Int) s f)
    unfold chr
    rw [if_neg (by omega)]
  | succ k ih =>
    intro m p hm hp
    obtain ⟨m, rfl⟩ : ∃ j, m = j + 1 := ⟨m - 1, by omega⟩
    have p4 : p < 400 := by omega
    have p6 : p < 1000000 := by omega
    simp only [m_X6_next_L0, m_X6_next_L38, m_X6_next_L66, hgI_k, hgR_k, hpI_k, hpR_k, hpZ_k, haI_k, haR_k, hsI_k, hsZ_k, hlen_k, hlet_e, hret_e, hretZ_0, hretZ_1, hif_e, okk_setV, okk_setF, nV, nF, fV, vF, haI_n, tS_k, tS_N, tS_F, tS_1, tS_2, tS_w2, tS_o (show 3 ≠ 2 by decide), kk_2 hs, kk_3 hs, ln_3 hs, rf_2_0 hs, hn, p4, ix_s p6, skp_s]
    rw [if_neg (by omega)]
    by_cases h : hV u 3 p = 32
    · rw [if_neg (by rw [h]; decide), if_pos h]
      exact ih m (p + 1) (by omega) (by omega)
    · rw [if_pos h, if_neg h, if_neg (by omega)]
      unfold chr
      rw [if_pos (by omega)]
theorem x_next {u : hS} (hs : shp u) {n : Nat} (hn : hV u 2 1 = (n : Int)) (n4 : n ≤ 400) (s f : Int) {p : Nat} (hp : p ≤ n) : m_X6_next 2 (tS u (p : Int) s f) = some (chr (hV u 3) n (sk (hV u 3) n p), tS u ((sk (hV u 3) n p : Nat) : Int) s f) := x_nextL hs hn n4 s f (n - p) 1000000000 p (by omega) (by omega)
theorem x_fail {u : hS} (hs : shp u) (p s f : Int) {w : Nat} (hw : w ≤ 400) {k : Nat} (hk : k ≤ 4) : m_X6_fail 2 (w : Int) (k : Int) (tS u p s f) = some (0, tS u p s (if f = 0 then ((1 + 8 * w + k : Nat) : Int) else f)) := by
  have e1 : w32 (8 * (w : Int)) = ((8 * w : Nat) : Int) := w32_n (by omega) (by omega)
  have e2 : w32 (1 + ((8 * w : Nat) : Int)) = ((1 + 8 * w : Nat) : Int) := w32_n (by omega) (by omega)
  have e3 : w32 (((1 + 8 * w : Nat) : Int) + (k : Int)) = ((1 + 8 * w + k : Nat) : Int) := w32_n (by omega) (by omega)
  simp only [m_X6_fail, m_X6_fail_L19, hgI_k, hgR_k, hpI_k, hpR_k, hpZ_k, haI_k, haR_k, hsI_k, hsZ_k, hlen_k, hlet_e, hret_e, hretZ_0, hretZ_1, hif_e, okk_setV, okk_setF, nV, nF, fV, vF, tS_k, tS_4, tS_w4, kk_2 hs, e1, e2, e3]
  by_cases h : f = 0
  · rw [if_neg (by rw [h]; decide), if_pos h]
  · rw [if_pos h, if_neg h]
theorem x_begin {u : hS} (hs : shp u) (p s f : Int) : m_X6_begin 2 (tS u p s f) = some (0, tS u 0 0 0) := by
  simp only [m_X6_begin, hgI_k, hgR_k, hpI_k, hpR_k, hpZ_k, haI_k, haR_k, hsI_k, hsZ_k, hlen_k, hlet_e, hret_e, hretZ_0, hretZ_1, hif_e, okk_setV, okk_setF, nV, nF, fV, vF, tS_k, tS_w2, tS_w3, tS_w4, kk_2 hs]
theorem x_takeSign {u : hS} (hs : shp u) {n : Nat} (hn : hV u 2 1 = (n : Int)) (n4 : n ≤ 400) (s f c : Int) {p : Nat} (hp : p ≤ n) : m_X6_takeSign 2 c (tS u (p : Int) s f) = if f ≠ 0 then some (0, tS u (p : Int) s f) else if chr (hV u 3) n (sk (hV u 3) n p) = c then some (1, tS u ((sk (hV u 3) n p + 1 : Nat) : Int) s f) else some (0, tS u ((sk (hV u 3) n p : Nat) : Int) s f) := by
  have b := sk_le (hV u 3) hp
  have p6 : sk (hV u 3) n p < 1000000 := by omega
  simp only [m_X6_takeSign, m_X6_takeSign_L15, hgI_k, hgR_k, hpI_k, hpR_k, hpZ_k, haI_k, haR_k, hsI_k, hsZ_k, hlen_k, hlet_p, hret_p, hretZ_0, hretZ_1, hif_p, okk_setV, okk_setF, nV, nF, fV, vF, hcallV_b, hbind_p, tS_k, tS_4, tS_2, tS_w2, kk_2 hs, x_next hs hn n4 s f hp, ix_s p6]
theorem x_takeNextClause {u : hS} (hs : shp u) {n : Nat} (hn : hV u 2 1 = (n : Int)) (n4 : n ≤ 400) (s f : Int) {p : Nat} (hp : p ≤ n) : m_X6_takeNextClause 2 (tS u (p : Int) s f) = if f = 0 then (if chr (hV u 3) n (sk (hV u 3) n p) = 59 then some (1, tS u ((sk (hV u 3) n p + 1 : Nat) : Int) s f) else if chr (hV u 3) n (sk (hV u 3) n p) = -1 then some (0, tS u ((sk (hV u 3) n p : Nat) : Int) s f) else some (0, tS u ((sk (hV u 3) n p : Nat) : Int) s ((1 + 8 * sk (hV u 3) n p : Nat) : Int))) else some (0, tS u (p : Int) s f) := by
  have b := sk_le (hV u 3) hp
  have p6 : sk (hV u 3) n p < 1000000 := by omega
  by_cases h0 : f = 0
  · have F := x_fail hs ((sk (hV u 3) n p : Nat) : Int) s f (w := sk (hV u 3) n p) (by omega) (k := 0) (by decide)
    rw [if_pos h0, Nat.add_zero] at F
    simp only [m_X6_takeNextClause, m_X6_takeNextClause_L46, hgI_k, hgR_k, hpI_k, hpR_k, hpZ_k, haI_k, haR_k, hsI_k, hsZ_k, hlen_k, hlet_p, hret_p, hretZ_0, hretZ_1, hif_p, okk_setV, okk_setF, nV, nF, fV, vF, hcallV_b, hbind_p, tS_k, tS_4, tS_2, tS_w2, kk_2 hs, x_next hs hn n4 s f hp, ix_s p6]
    rw [if_pos h0, if_pos h0]
    by_cases h1 : chr (hV u 3) n (sk (hV u 3) n p) = 59
    · rw [if_neg (fun z => z h1), if_pos h1]
    · rw [if_pos h1, if_neg h1]
      by_cases h2 : chr (hV u 3) n (sk (hV u 3) n p) = -1
      · rw [if_pos h2, if_pos h2]
      · rw [if_neg h2, if_neg h2]
        show hbind (m_X6_fail 2 ((sk (hV u 3) n p : Nat) : Int) ((0 : Nat) : Int) _) _ = _
        rw [F]
        rfl
  · simp only [m_X6_takeNextClause, hgI_k, hgR_k, hpI_k, hpR_k, hpZ_k, haI_k, haR_k, hsI_k, hsZ_k, hlen_k, hlet_p, hret_p, hretZ_0, hretZ_1, hif_p, okk_setV, okk_setF, nV, nF, fV, vF, tS_k, tS_4, kk_2 hs]
    rw [if_neg h0, if_neg h0]
