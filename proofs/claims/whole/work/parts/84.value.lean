/-! the value of a rule -/
def ev1 (cd op W : Nat → Int) (i j : Nat) : Int := evR cd op W (j - i) i (fun _ => 0) 0 0
def vlS (cd op W : Nat → Int) (a b e : Nat → Nat) : Nat → Nat → Int
  | 0, _ => 0
  | k + 1, c => if b c = e c ∨ ev1 cd op W (b c) (e c) ≠ 0 then ev1 cd op W (a c) (b c) else vlS cd op W a b e k (c + 1)
theorem vlS_s (cd op W : Nat → Int) (a b e : Nat → Nat) (k c : Nat) : vlS cd op W a b e (k + 1) c = if b c = e c ∨ ev1 cd op W (b c) (e c) ≠ 0 then ev1 cd op W (a c) (b c) else vlS cd op W a b e k (c + 1) := rfl
/-- one clause, as the class keeps it -/
def clS (cd : Nat → Int) (M : Nat) (a b e : Nat → Nat) (c : Nat) : Prop := a c ≤ b c ∧ b c ≤ e c ∧ e c ≤ M ∧ tyL cd (b c - a c) (a c) [] = some [false] ∧ (b c < e c → tyL cd (e c - b c) (b c) [] = some [true])
theorem typ_nil (D : Nat → Int) : typ D [] := trivial
theorem ev1_01 {cd op W : Nat → Int} {i j : Nat} (h : tyL cd (j - i) i [] = some [true]) : ev1 cd op W i j = 0 ∨ ev1 cd op W i j = 1 := by
  have z := ev_ty (op := op) (W := W) (j - i) i (fun _ => 0) [] [true] h (typ_nil _)
  exact z.1 rfl
theorem x_reckon {u : hS} (hs : shp u) {q M : Nat} (ru : RuA u q) (q54 : 54 ≤ q) (hM : M ≤ 400) (oo : ∀ j, j < M → okO (hV u (q + 1) j) (hV u (q + 2) j)) {i j : Nat} (ij : i ≤ j) (jM : j ≤ M) {b : Bool} (ty : tyL (hV u (q + 1)) (j - i) i [] = some [b]) (X : Nat → Int) : ∃ X', m_X3_reckon q i j 7 (hput u (q + 6) X) = some (ev1 (hV u (q + 1)) (hV u (q + 2)) (hV u 7) i j, hput u (q + 6) X') := by
  obtain ⟨X', h⟩ := x_reckL hs ru q54 hM oo (j - i) 1000000000 i X (fun _ => 0) [] [b] (by omega) (by omega) ty (by decide) (fun j hj => absurd hj (by simp))
  have e : i + (j - i) = j := by omega
  rw [e] at h
  refine ⟨X', ?_⟩
  simp only [m_X3_reckon, hlet_p]
  exact h
def RSZ (u : hS) (X : Nat → Int) (z : Int) : hS := hput (hput u 228 X) 220 (sup (hV u 220) 18 z)
theorem RSZ_n {u : hS} {X : Nat → Int} {z : Int} {a : Nat} (h : a ≠ 228) (h2 : a ≠ 220) : hV (RSZ u X z) a = hV u a := by
  unfold RSZ
  rw [hV_put_n h2, hV_put_n h]
theorem RSZ_shp {u : hS} (X : Nat → Int) (z : Int) (hs : shp u) : shp (RSZ u X z) := hs
theorem RSZ_self (u : hS) : RSZ u (hV u 228) (hV u 220 18) = u := by
  unfold RSZ
  rw [hput_self, sup_self, hput_self]
theorem y_reckons {u : hS} (hs : shp u) {r M : Nat} (hr : r < 6) (hM : M ≤ 400) {cd op : Nat → Int} (oo : ∀ j, j < M → okO (cd j) (op j)) (sg : ∀ j, j < M → hV u 222 (400 * r + j) = sgn (cd j) (op j)) {i j : Nat} (ij : i ≤ j) (jM : j ≤ M) {b : Bool} (ty : tyL cd (j - i) i [] = some [b]) (X : Nat → Int) (m : Int) : ∃ X', m_X10_reckons 220 r i j (RSZ u X m) = some (ev1 cd op (hV u 229) i j, RSZ u X' 0) := by
  obtain ⟨X', h⟩ := y_reckL hs hr hM oo sg (j - i) 1000000000 i X (fun _ => 0) [] [] b (by omega) (by omega) ty (by decide) (fun j hj => absurd hj (by simp)) (typ_nil _)
  have e : i + (j - i) = j := by omega
  rw [e] at h
  refine ⟨X', ?_⟩
  have hs1 := RSZ_shp X m hs
  have t0 : hsetV (RSZ u X m) 220 18 0 = RS u X 0 := by
    unfold RSZ RS
    rw [setV_put, sup_sup]
    rfl
  simp only [m_X10_reckons, hgI_k, hgR_k, hpI_k, hpR_k, hpZ_k, haI_k, haR_k, hsI_k, hsZ_k, hlen_k, hlet_p, hret_p, hretZ_0, hretZ_1, hif_p, okk_setV, okk_setF, nV, nF, fV, vF, kk_220 hs1, t0]
  exact h
theorem x_valL {u : hS} (hs : shp u) {q M C : Nat} (ru : RuA u q) (q54 : 54 ≤ q) (hM : M ≤ 400) (oo : ∀ j, j < M → okO (hV u (q + 1) j) (hV u (q + 2) j)) {a b e : Nat → Nat} (hC : hV u q 7 = (C : Int)) (C12 : C ≤ 12) (cl : ∀ c, c < C → clS (hV u (q + 1)) M a b e c ∧ hV u (q + 3) c = (a c : Int) ∧ hV u (q + 4) c = (b c : Int) ∧ hV u (q + 5) c = (e c : Int)) : ∀ (k n c : Nat) (X : Nat → Int), k < n → c + k = C → ∃ X', m_X3_valueFor_L2 n q 7 c (hput u (q + 6) X) = some (vlS (hV u (q + 1)) (hV u (q + 2)) (hV u 7) a b e k c, hput u (q + 6) X') := by
  have eq : ∀ X, hV (hput u (q + 6) X) q = hV u q := fun X => hV_put_n (by omega)
  have e3 : ∀ X, hV (hput u (q + 6) X) (q + 3) = hV u (q + 3) := fun X => hV_put_n (by omega)
  have e4 : ∀ X, hV (hput u (q + 6) X) (q + 4) = hV u (q + 4) := fun X => hV_put_n (by omega)
  have e5 : ∀ X, hV (hput u (q + 6) X) (q + 5) = hV u (q + 5) := fun X => hV_put_n (by omega)
  intro k
  induction k with
  | zero =>
    intro n c X hn hc
    obtain ⟨n, rfl⟩ : ∃ k, n = k + 1 := ⟨n - 1, by omega⟩
    refine ⟨X, ?_⟩
    simp only [m_X3_valueFor_L2, hgI_k, hgR_k, hpI_k, hpR_k, hpZ_k, haI_k, haR_k, hsI_k, hsZ_k, hlen_k, hlet_p, hret_p, hretZ_0, hretZ_1, hif_p, okk_setV, okk_setF, nV, nF, fV, vF, okk_put, nP, fP, RuA.k0 ru, eq, hC]
    rw [if_pos (by omega)]
    rfl
  | succ k ih =>
    intro n c X hn hc
    obtain ⟨n, rfl⟩ : ∃ k, n = k + 1 := ⟨n - 1, by omega⟩
    obtain ⟨⟨c1, c2, c3, c4, c5⟩, c6, c7, c8⟩ := cl c (by omega)
    have c12 : c < 12 := by omega
    rw [vlS_s]
    have su : ∀ X, ∃ X', m_X3_valueFor_L44 q 7 c (b c : Int) (hput u (q + 6) X) = some (ev1 (hV u (q + 1)) (hV u (q + 2)) (hV u 7) (a c) (b c), hput u (q + 6) X') := fun X => by
      obtain ⟨X1, x1⟩ := x_reckon hs ru q54 hM oo c1 (by omega) c4 X
      refine ⟨X1, ?_⟩
      simp only [m_X3_valueFor_L44, hgI_k, hgR_k, hpI_k, hpR_k, hpZ_k, haI_k, haR_k, hsI_k, hsZ_k, hlen_k, hlet_p, hret_p, hretZ_0, hretZ_1, hif_p, okk_setV, okk_setF, nV, nF, fV, vF, okk_put, nP, fP, haI_n, hcallV_b, hbind_p, RuA.k0 ru, RuA.f2 ru, RuA.k3 ru, RuA.n3 ru, c12, e3, c6, x1]
    by_cases be : b c = e c
    · obtain ⟨X1, x1⟩ := su X
      refine ⟨X1, ?_⟩
      rw [if_pos (Or.inl be), ← x1]
      simp only [m_X3_valueFor_L2, hgI_k, hgR_k, hpI_k, hpR_k, hpZ_k, haI_k, haR_k, hsI_k, hsZ_k, hlen_k, hlet_p, hret_p, hretZ_0, hretZ_1, hif_p, okk_setV, okk_setF, nV, nF, fV, vF, okk_put, nP, fP, haI_n, RuA.k0 ru, RuA.f3 ru, RuA.f4 ru, RuA.k4 ru, RuA.k5 ru, RuA.n4 ru, RuA.n5 ru, c12, eq, e4, e5, c7, c8, hC]
      rw [if_neg (by omega), if_pos (by omega)]
    · obtain ⟨X0, x0⟩ := x_reckon hs ru q54 hM oo c2 c3 (c5 (by omega)) X
      have lc := (lcmp_0 (ev1 (hV u (q + 1)) (hV u (q + 2)) (hV u 7) (b c) (e c)) 0).2.2.2.2.2
      by_cases v0 : ev1 (hV u (q + 1)) (hV u (q + 2)) (hV u 7) (b c) (e c) = 0
      · obtain ⟨X1, x1⟩ := ih n (c + 1) X0 (by omega) (by omega)
        refine ⟨X1, ?_⟩
        rw [if_neg (by
          intro z
          rcases z with z | z
          · exact be z
          · exact z v0), ← x1]
        simp only [m_X3_valueFor_L2, hgI_k, hgR_k, hpI_k, hpR_k, hpZ_k, haI_k, haR_k, hsI_k, hsZ_k, hlen_k, hlet_p, hret_p, hretZ_0, hretZ_1, hif_p, okk_setV, okk_setF, nV, nF, fV, vF, okk_put, nP, fP, haI_n, hcallV_b, hbind_p, RuA.k0 ru, RuA.f3 ru, RuA.f4 ru, RuA.k4 ru, RuA.k5 ru, RuA.n4 ru, RuA.n5 ru, c12, eq, e4, e5, c7, c8, hC, x0, ix_s (show c < 1000000 by omega)]
        rw [if_neg (by omega), if_neg (by omega), if_pos (lc.mpr v0)]
      · obtain ⟨X1, x1⟩ := su X0
        refine ⟨X1, ?_⟩
        rw [if_pos (Or.inr v0), ← x1]
        simp only [m_X3_valueFor_L2, hgI_k, hgR_k, hpI_k, hpR_k, hpZ_k, haI_k, haR_k, hsI_k, hsZ_k, hlen_k, hlet_p, hret_p, hretZ_0, hretZ_1, hif_p, okk_setV, okk_setF, nV, nF, fV, vF, okk_put, nP, fP, haI_n, hcallV_b, hbind_p, RuA.k0 ru, RuA.f3 ru, RuA.f4 ru, RuA.k4 ru, RuA.k5 ru, RuA.n4 ru, RuA.n5 ru, c12, eq, e4, e5, c7, c8, hC, x0]
        rw [if_neg (by omega), if_neg (by omega), if_neg (fun z => v0 (lc.mp z))]
theorem y_valL {u : hS} (hs : shp u) {r M C : Nat} (hr : r < 6) (hM : M ≤ 400) {cd op : Nat → Int} (oo : ∀ j, j < M → okO (cd j) (op j)) (sg : ∀ j, j < M → hV u 222 (400 * r + j) = sgn (cd j) (op j)) {a b e : Nat → Nat} (hC : hV u 225 r = (C : Int)) (C12 : C ≤ 12) (cl : ∀ c, c < C → clS cd M a b e c ∧ hV u 224 (48 * r + 4 * c) = (a c : Int) ∧ hV u 224 (48 * r + 4 * c + 1) = (b c : Int) ∧ hV u 224 (48 * r + 4 * c + 2) = (if b c = e c then -1 else (b c : Int)) ∧ hV u 224 (48 * r + 4 * c + 3) = (e c : Int)) : ∀ (k n c : Nat) (X : Nat → Int) (m : Int), k < n → c + k = C → ∃ X' m', m_X10_summedBy_L2 n 220 r c (RSZ u X m) = some (vlS cd op (hV u 229) a b e k c, RSZ u X' m') := by
  have e225 : ∀ X m, hV (RSZ u X m) 225 = hV u 225 := fun X m => RSZ_n (by decide) (by decide)
  have e224 : ∀ X m, hV (RSZ u X m) 224 = hV u 224 := fun X m => RSZ_n (by decide) (by decide)
  intro k
  induction k with
  | zero =>
    intro n c X m hn hc
    obtain ⟨n, rfl⟩ : ∃ k, n = k + 1 := ⟨n - 1, by omega⟩
    have hs1 := RSZ_shp X m hs
    refine ⟨X, m, ?_⟩
    simp only [m_X10_summedBy_L2, hgI_k, hgR_k, hpI_k, hpR_k, hpZ_k, haI_k, haR_k, hsI_k, hsZ_k, hlen_k, hlet_p, hret_p, hretZ_0, hretZ_1, hif_p, okk_setV, okk_setF, nV, nF, fV, vF, haI_n, kk_220 hs1, rf_220_6 hs1, kk_225 hs1, ln_225 hs1, hr, e225, hC]
    rw [if_pos (by omega)]
    rfl
  | succ k ih =>
    intro n c X m hn hc
    obtain ⟨n, rfl⟩ : ∃ k, n = k + 1 := ⟨n - 1, by omega⟩
    have hs1 := RSZ_shp X m hs
    obtain ⟨⟨c1, c2, c3, c4, c5⟩, c6, c7, c8, c9⟩ := cl c (by omega)
    have wc : w32 (w32 (48 * (r : Int)) + w32 (4 * (c : Int))) = ((48 * r + 4 * c : Nat) : Int) := by
      rw [w32_id (x := 48 * (r : Int)) ⟨by omega, by omega⟩, w32_id (x := 4 * (c : Int)) ⟨by omega, by omega⟩, w32_id ⟨by omega, by omega⟩]
      omega
    have i0 : 48 * r + 4 * c < 288 := by omega
    have i1 : 48 * r + 4 * c + 1 < 288 := by omega
    have i2 : 48 * r + 4 * c + 2 < 288 := by omega
    have i3 : 48 * r + 4 * c + 3 < 288 := by omega
    have im : 48 * r + 4 * c < 1000000 := by omega
    rw [vlS_s]
    have su : ∀ X m, ∃ X', m_X10_summedBy_L58 220 r ((48 * r + 4 * c : Nat) : Int) (RSZ u X m) = some (ev1 cd op (hV u 229) (a c) (b c), RSZ u X' 0) := fun X m => by
      obtain ⟨X1, x1⟩ := y_reckons hs hr hM oo sg c1 (by omega) c4 X m
      have hs2 := RSZ_shp X m hs
      refine ⟨X1, ?_⟩
      simp only [m_X10_summedBy_L58, hgI_k, hgR_k, hpI_k, hpR_k, hpZ_k, haI_k, haR_k, hsI_k, hsZ_k, hlen_k, hlet_p, hret_p, hretZ_0, hretZ_1, hif_p, okk_setV, okk_setF, nV, nF, fV, vF, haI_n, hcallV_b, hbind_p, kk_220 hs2, rf_220_5 hs2, kk_224 hs2, ln_224 hs2, i0, i1, ix_s im, e224, c6, c7, x1]
    by_cases be : b c = e c
    · obtain ⟨X1, x1⟩ := su X m
      refine ⟨X1, 0, ?_⟩
      rw [if_pos (Or.inl be), ← x1]
      rw [if_pos be] at c8
      simp only [m_X10_summedBy_L2, hgI_k, hgR_k, hpI_k, hpR_k, hpZ_k, haI_k, haR_k, hsI_k, hsZ_k, hlen_k, hlet_p, hret_p, hretZ_0, hretZ_1, hif_p, okk_setV, okk_setF, nV, nF, fV, vF, haI_n, kk_220 hs1, rf_220_6 hs1, kk_225 hs1, ln_225 hs1, hr, e225, hC, wc, rf_220_5 hs1, kk_224 hs1, ln_224 hs1, i2, ix_2 im, e224, c8]
      rw [if_neg (by omega), if_pos (by decide)]
    · rw [if_neg be] at c8
      obtain ⟨X0, x0⟩ := y_reckons hs hr hM oo sg c2 c3 (c5 (by omega)) X m
      have v01 := ev1_01 (op := op) (W := hV u 229) (c5 (by omega))
      have lc := (lcmp_0 (ev1 cd op (hV u 229) (b c) (e c)) 1).2.1
      by_cases v0 : ev1 cd op (hV u 229) (b c) (e c) = 0
      · obtain ⟨X1, m1, x1⟩ := ih n (c + 1) X0 0 (by omega) (by omega)
        refine ⟨X1, m1, ?_⟩
        rw [if_neg (by
          intro z
          rcases z with z | z
          · exact be z
          · exact z v0), ← x1]
        simp only [m_X10_summedBy_L2, hgI_k, hgR_k, hpI_k, hpR_k, hpZ_k, haI_k, haR_k, hsI_k, hsZ_k, hlen_k, hlet_p, hret_p, hretZ_0, hretZ_1, hif_p, okk_setV, okk_setF, nV, nF, fV, vF, haI_n, hcallV_b, hbind_p, kk_220 hs1, rf_220_6 hs1, kk_225 hs1, ln_225 hs1, hr, e225, hC, wc, rf_220_5 hs1, kk_224 hs1, ln_224 hs1, i2, i3, ix_2 im, ix_3 im, e224, c8, c9, x0, ix_s (show c < 1000000 by omega)]
        rw [if_neg (by omega), if_neg (by omega), if_pos (lc.mpr (by omega))]
      · obtain ⟨X1, x1⟩ := su X0 0
        refine ⟨X1, 0, ?_⟩
        rw [if_pos (Or.inr v0), ← x1]
        simp only [m_X10_summedBy_L2, hgI_k, hgR_k, hpI_k, hpR_k, hpZ_k, haI_k, haR_k, hsI_k, hsZ_k, hlen_k, hlet_p, hret_p, hretZ_0, hretZ_1, hif_p, okk_setV, okk_setF, nV, nF, fV, vF, haI_n, hcallV_b, hbind_p, kk_220 hs1, rf_220_6 hs1, kk_225 hs1, ln_225 hs1, hr, e225, hC, wc, rf_220_5 hs1, kk_224 hs1, ln_224 hs1, i2, i3, ix_2 im, ix_3 im, e224, c8, c9, x0]
        rw [if_neg (by omega), if_neg (by omega), if_neg (fun z => lc.mp z (by omega))]
theorem evD_W {c o : Int} {W W' D : Nat → Int} {n : Nat} (h : okO c o) (e : ∀ j, j < 12 → W j = W' j) : evD c o W D n = evD c o W' D n := by
  unfold evD
  by_cases c0 : c = 0
  · rw [if_pos c0, if_pos c0]
  · rw [if_neg c0, if_neg c0]
    by_cases c1 : c = 1
    · rw [if_pos c1, if_pos c1, e _ (by have := h.2 c1; omega)]
    · rw [if_neg c1, if_neg c1]
theorem evR_W {cd op W W' : Nat → Int} {M : Nat} (oo : ∀ j, j < M → okO (cd j) (op j)) (e : ∀ j, j < 12 → W j = W' j) : ∀ (k i : Nat) (D : Nat → Int) (n : Nat), i + k ≤ M → evR cd op W k i D n = evR cd op W' k i D n := by
  intro k
  induction k with
  | zero =>
    intro i D n _
    rfl
  | succ k ih =>
    intro i D n h
    show evR cd op W k (i + 1) (evD (cd i) (op i) W D n) (evN (cd i) n) = evR cd op W' k (i + 1) (evD (cd i) (op i) W' D n) (evN (cd i) n)
    rw [evD_W (oo i (by omega)) e, ih (i + 1) _ _ (by omega)]
theorem vlS_W {cd op W W' : Nat → Int} {M C : Nat} {a b e : Nat → Nat} (oo : ∀ j, j < M → okO (cd j) (op j)) (cl : ∀ c, c < C → clS cd M a b e c) (w : ∀ j, j < 12 → W j = W' j) : ∀ k c, c + k = C → vlS cd op W a b e k c = vlS cd op W' a b e k c := by
  intro k
  induction k with
  | zero =>
    intro c _
    rfl
  | succ k ih =>
    intro c h
    obtain ⟨c1, c2, c3, c4, c5⟩ := cl c (by omega)
    rw [vlS_s, vlS_s]
    unfold ev1
    rw [evR_W oo w (e c - b c) (b c) (fun _ => 0) 0 (by omega), evR_W oo w (b c - a c) (a c) (fun _ => 0) 0 (by omega), ih (c + 1) (by omega)]
/-- one rule, as both keep it -/
def RepR1 (u : hS) (r : Nat) : Prop := ∃ (C M : Nat) (a b e : Nat → Nat), hV u (54 + 7 * r) 7 = (C : Int) ∧ hV u 225 r = (C : Int) ∧ C ≤ 12 ∧ M ≤ 400 ∧ (∀ j, j < M → okO (hV u (54 + 7 * r + 1) j) (hV u (54 + 7 * r + 2) j) ∧ hV u 222 (400 * r + j) = sgn (hV u (54 + 7 * r + 1) j) (hV u (54 + 7 * r + 2) j)) ∧ ∀ c, c < C → clS (hV u (54 + 7 * r + 1)) M a b e c ∧ (hV u (54 + 7 * r + 3) c = (a c : Int) ∧ hV u (54 + 7 * r + 4) c = (b c : Int) ∧ hV u (54 + 7 * r + 5) c = (e c : Int)) ∧ (hV u 224 (48 * r + 4 * c) = (a c : Int) ∧ hV u 224 (48 * r + 4 * c + 1) = (b c : Int) ∧ hV u 224 (48 * r + 4 * c + 2) = (if b c = e c then -1 else (b c : Int)) ∧ hV u 224 (48 * r + 4 * c + 3) = (e c : Int))
def RepR (u : hS) : Prop := ∃ N : Nat, N ≤ 6 ∧ hV u 1 2 = (N : Int) ∧ hV u 220 2 = (N : Int) ∧ ∀ r, r < N → RepR1 u r
