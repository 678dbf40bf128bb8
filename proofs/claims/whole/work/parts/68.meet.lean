/-! where two meet -/
theorem hbind_p {r : Int} {u1 : hS} {f : Int → hM} : hbind (some (r, u1)) f = f r u1 := Eq.trans (b := f r u1) rfl rfl
theorem hput_put (u : hS) (a : Nat) (g h : Nat → Int) : hput (hput u a g) a h = hput u a h := by
  obtain ⟨K, N, V, F, B⟩ := u
  unfold hput
  simp only [Prod.mk.injEq, and_true, true_and]
  funext b j
  by_cases e : b = a
  · rw [if_pos e, if_pos e]
  · rw [if_neg e, if_neg e, if_neg e]
theorem row_ex {u : hS} (hs : shp u) (ws : WS (hV u 230)) (wv : WV (hV u 230)) (ex : ∀ b, b < 9 → hV u 231 b = 0) {p a : Nat} (hp : (p : Int) < hV u 230 4) (ha : (a : Int) < hV u 230 0) : ∃ D, isRow (hV u 230) (opnX (hV u 230) (-1) p) a D := by
  obtain ⟨D, d1, d2⟩ := y_wayOf hs ws wv hp ha
  exact ⟨D, isRow_cg (opn_opnX ws wv hp (e := -1) (fun k hk => by rw [ex k hk, if_neg (by omega)])) d2⟩
theorem meas_sym {u : hS} (hs : shp u) (ws : WS (hV u 230)) (wv : WV (hV u 230)) (ex : ∀ b, b < 9 → hV u 231 b = 0) {p a : Nat} (hp : (p : Int) < hV u 230 4) (ha : (a : Int) < hV u 230 0) {E : Nat → Int} (e : isPre (hV u 230) (opnX (hV u 230) (-1) p) a E) (h : ∀ (k : Nat) (x : Int), (k : Int) < hV u 230 0 → wkO (hV u 230) (opnX (hV u 230) (-1) p) a k x → E x.toNat ≤ k) {c : Nat} (hc : (c : Int) < hV u 230 0) {D : Nat → Int} (d : isRow (hV u 230) (opnX (hV u 230) (-1) p) c D) : D a = E c := by
  have w0 := ws.1
  obtain ⟨A, ra⟩ := row_ex hs ws wv ex hp ha
  rw [pre_row w0.1 wv ha ra e h c hc]
  exact row_sym wv d ra hc ha
def mxp (E F : Nat → Int) (i : Nat) : Int := if E i < F i then F i else E i
abbrev betP (E F : Nat → Int) (i j : Nat) : Prop := E i + F i < E j + F j ∨ E i + F i = E j + F j ∧ mxp E F i < mxp E F j
abbrev metC (E F : Nat → Int) (i : Nat) (b : Int) : Prop := E i < 99 ∧ F i < 99 ∧ (b < 0 ∨ betP E F i b.toNat)
def metG (E F : Nat → Int) : Nat → Nat → Int → Int
  | 0, _, b => b
  | k + 1, i, b => metG E F k (i + 1) (if metC E F i b then (i : Int) else b)
theorem metG_y {E F : Nat → Int} {k i : Nat} {b : Int} (h : metC E F i b) : metG E F (k + 1) i b = metG E F k (i + 1) i := by
  show metG E F k (i + 1) (if metC E F i b then (i : Int) else b) = _
  rw [if_pos h]
theorem metG_n {E F : Nat → Int} {k i : Nat} {b : Int} (h : ¬ metC E F i b) : metG E F (k + 1) i b = metG E F k (i + 1) b := by
  show metG E F k (i + 1) (if metC E F i b then (i : Int) else b) = _
  rw [if_neg h]
def metR (E F : Nat → Int) (f b : Int) : Int := if b < 0 then b else if f ≠ 0 then E b.toNat + F b.toNat else b
theorem J_max (a b : Int) (u : hS) : m_J9_max_7cf53 a b u = some (if a < b then b else a, u) := by
  simp only [m_J9_max_7cf53_L10, m_J9_max_7cf53, hgI_k, hgR_k, hpI_k, hpR_k, hpZ_k, haI_k, haR_k, hsI_k, hsZ_k, hlen_k, hlet_p, hret_p, hretZ_0, hretZ_1, hif_p, okk_setV, okk_setF, nV, nF, fV, vF]
  split <;> rfl
theorem x_meetL {u : hS} (hs : shp u) {t : Nat} {S E F : Nat → Int} (r : RepS u 30 t S) (ws : WS S) (e8 : hV u 8 = E) (e9 : hV u 9 = F) (bE : ∀ c : Nat, (c : Int) < S 0 → 0 ≤ E c ∧ E c ≤ 99) (bF : ∀ c : Nat, (c : Int) < S 0 → 0 ≤ F c ∧ F c ≤ 99) (f : Int) : ∀ (k n i : Nat) (b : Int), k < n → S 0 = ((i + k : Nat) : Int) → (b < 0 ∨ ∃ j : Nat, b = j ∧ j < i) → m_X9_meet_L69 n 1 f b i u = some (metR E F f (metG E F k i b), u) := by
  have w0 := ws.1
  have ht := r.ht
  have ha := r.ha
  intro k
  induction k with
  | zero =>
    intro n i b hn hv hb
    obtain ⟨n, rfl⟩ : ∃ k, n = k + 1 := ⟨n - 1, by omega⟩
    show _ = some (metR E F f b, u)
    unfold metR
    rcases hb with hb | ⟨j, rfl, hj⟩
    · simp only [m_X9_meet_L69, m_X9_meet_L143, m_X9_meet_L163, hgI_k, hgR_k, hpI_k, hpR_k, hpZ_k, haI_k, haR_k, hsI_k, hsZ_k, hlen_k, hlet_p, hret_p, hretZ_0, hretZ_1, hif_p, okk_setV, okk_setF, nV, nF, fV, vF, kk_1 hs, kk_30 hs, rf_1_3 hs, r.to, TwA.k0 ht, TwA.k1 ht, TwA.k2 ht, TwA.k3 ht, TwA.k4 ht, TwA.k5 ht, TwA.k6 ht, TwA.k7 ht, TwA.k8 ht, TwA.k9 ht, TwA.k10 ht, TwA.k11 ht, TwA.k12 ht, TwA.k13 ht, TwA.k14 ht, TwA.k15 ht, TwA.k16 ht, TwA.k17 ht, TwA.n2 ht, TwA.n3 ht, TwA.n4 ht, TwA.n6 ht, TwA.n7 ht, TwA.n8 ht, TwA.n9 ht, TwA.n10 ht, TwA.n11 ht, TwA.n12 ht, TwA.n13 ht, TwA.n14 ht, TwA.n15 ht, TwA.n16 ht, TwA.n17 ht, TwA.f2 ht, TwA.f3 ht, TwA.f5 ht, TwA.f6 ht, TwA.f8 ht, TwA.f9 ht, TwA.f11 ht, TwA.f12 ht, TwA.f13 ht, TwA.f14 ht, TwA.f15 ht, TwA.b0 ht, TwA.b1 ht, TwA.b2 ht, TwA.g0 ht, TwA.g1 ht, TwA.g2 ht, r.v0]
      rw [if_pos (by omega), if_pos hb, if_pos hb]
    · have j8 : j < 8 := by omega
      have x1 := bE j (by omega)
      have x2 := bF j (by omega)
      have w1 : w32 (E j + F j) = E j + F j := w32_id ⟨by omega, by omega⟩
      simp only [m_X9_meet_L69, m_X9_meet_L143, m_X9_meet_L163, hgI_k, hgR_k, hpI_k, hpR_k, hpZ_k, haI_k, haR_k, hsI_k, hsZ_k, hlen_k, hlet_p, hret_p, hretZ_0, hretZ_1, hif_p, okk_setV, okk_setF, nV, nF, fV, vF, haI_n, kk_1 hs, kk_30 hs, kk_8 hs, kk_9 hs, rf_1_3 hs, rf_1_14 hs, rf_1_15 hs, ln_8 hs, ln_9 hs, r.to, TwA.k0 ht, TwA.k1 ht, TwA.k2 ht, TwA.k3 ht, TwA.k4 ht, TwA.k5 ht, TwA.k6 ht, TwA.k7 ht, TwA.k8 ht, TwA.k9 ht, TwA.k10 ht, TwA.k11 ht, TwA.k12 ht, TwA.k13 ht, TwA.k14 ht, TwA.k15 ht, TwA.k16 ht, TwA.k17 ht, TwA.n2 ht, TwA.n3 ht, TwA.n4 ht, TwA.n6 ht, TwA.n7 ht, TwA.n8 ht, TwA.n9 ht, TwA.n10 ht, TwA.n11 ht, TwA.n12 ht, TwA.n13 ht, TwA.n14 ht, TwA.n15 ht, TwA.n16 ht, TwA.n17 ht, TwA.f2 ht, TwA.f3 ht, TwA.f5 ht, TwA.f6 ht, TwA.f8 ht, TwA.f9 ht, TwA.f11 ht, TwA.f12 ht, TwA.f13 ht, TwA.f14 ht, TwA.f15 ht, TwA.b0 ht, TwA.b1 ht, TwA.b2 ht, TwA.g0 ht, TwA.g1 ht, TwA.g2 ht, r.v0, j8, e8, e9, w1, Int.toNat_natCast]
      have j0 : ¬ ((j : Int) < 0) := by omega
      rw [if_pos (by omega), if_neg j0, if_neg j0]
      by_cases hf : f = 0
      · rw [if_neg (show ¬ f ≠ 0 from fun z => z hf), if_neg (show ¬ f ≠ 0 from fun z => z hf)]
      · rw [if_pos hf, if_pos hf]
  | succ k ih =>
    intro n i b hn hv hb
    obtain ⟨n, rfl⟩ : ∃ k, n = k + 1 := ⟨n - 1, by omega⟩
    have i8 : i < 8 := by omega
    have y1 := bE i (by omega)
    have y2 := bF i (by omega)
    have no : ¬ metC E F i b → m_X9_meet_L69 n 1 f b ((i + 1 : Nat) : Int) u = some (metR E F f (metG E F (k + 1) i b), u) := by
      intro h
      rw [metG_n h]
      exact ih n (i + 1) b (by omega) (by omega) (by
        rcases hb with hb | ⟨j, h1, h2⟩
        · exact Or.inl hb
        · exact Or.inr ⟨j, h1, by omega⟩)
    have ye : metC E F i b → m_X9_meet_L69 n 1 f i ((i + 1 : Nat) : Int) u = some (metR E F f (metG E F (k + 1) i b), u) := by
      intro h
      rw [metG_y h]
      exact ih n (i + 1) i (by omega) (by omega) (Or.inr ⟨i, rfl, by omega⟩)
    rcases hb with hb | ⟨j, rfl, hj⟩
    · simp only [m_X9_meet_L69, m_X9_meet_L128, m_X9_meet_L124, hgI_k, hgR_k, hpI_k, hpR_k, hpZ_k, haI_k, haR_k, hsI_k, hsZ_k, hlen_k, hlet_p, hret_p, hretZ_0, hretZ_1, hif_p, okk_setV, okk_setF, nV, nF, fV, vF, haI_n, kk_1 hs, kk_30 hs, kk_8 hs, kk_9 hs, rf_1_3 hs, rf_1_14 hs, rf_1_15 hs, ln_8 hs, ln_9 hs, r.to, TwA.k0 ht, TwA.k1 ht, TwA.k2 ht, TwA.k3 ht, TwA.k4 ht, TwA.k5 ht, TwA.k6 ht, TwA.k7 ht, TwA.k8 ht, TwA.k9 ht, TwA.k10 ht, TwA.k11 ht, TwA.k12 ht, TwA.k13 ht, TwA.k14 ht, TwA.k15 ht, TwA.k16 ht, TwA.k17 ht, TwA.n2 ht, TwA.n3 ht, TwA.n4 ht, TwA.n6 ht, TwA.n7 ht, TwA.n8 ht, TwA.n9 ht, TwA.n10 ht, TwA.n11 ht, TwA.n12 ht, TwA.n13 ht, TwA.n14 ht, TwA.n15 ht, TwA.n16 ht, TwA.n17 ht, TwA.f2 ht, TwA.f3 ht, TwA.f5 ht, TwA.f6 ht, TwA.f8 ht, TwA.f9 ht, TwA.f11 ht, TwA.f12 ht, TwA.f13 ht, TwA.f14 ht, TwA.f15 ht, TwA.b0 ht, TwA.b1 ht, TwA.b2 ht, TwA.g0 ht, TwA.g1 ht, TwA.g2 ht, r.v0, i8, e8, e9, ix_s (show i < 1000000 by omega)]
      rw [if_neg (by omega)]
      by_cases h1 : E i ≥ 99
      · rw [if_pos h1]
        exact no (fun z => by have := z.1; omega)
      rw [if_neg h1]
      by_cases h2 : F i ≥ 99
      · rw [if_pos h2]
        exact no (fun z => by have := z.2.1; omega)
      rw [if_neg h2, if_pos hb]
      exact ye ⟨by omega, by omega, Or.inl hb⟩
    · have j8 : j < 8 := by omega
      have x1 := bE j (by omega)
      have x2 := bF j (by omega)
      have w1 : w32 (E j + F j) = E j + F j := w32_id ⟨by omega, by omega⟩
      have w2 : w32 (E i + F i) = E i + F i := w32_id ⟨by omega, by omega⟩
      have j0 : ¬ ((j : Int) < 0) := by omega
      have bp : (E i + F i = E j + F j → (mxp E F i ≥ mxp E F j ↔ ¬ betP E F i j)) ∧ (¬ E i + F i = E j + F j → (E i + F i ≥ E j + F j ↔ ¬ betP E F i j)) := by
        unfold betP
        constructor <;> intro h <;> constructor <;> intro h2 <;> omega
      have better : m_X9_isBetterPlace 1 i j u = some (if betP E F i j then 1 else 0, u) := by
        simp only [m_X9_isBetterPlace_L85, m_X9_isBetterPlace_L46, m_X9_isBetterPlace, hgI_k, hgR_k, hpI_k, hpR_k, hpZ_k, haI_k, haR_k, hsI_k, hsZ_k, hlen_k, hlet_p, hret_p, hretZ_0, hretZ_1, hif_p, okk_setV, okk_setF, nV, nF, fV, vF, haI_n, hcall_b, hbind_p, J_max, kk_1 hs, kk_8 hs, kk_9 hs, rf_1_14 hs, rf_1_15 hs, ln_8 hs, ln_9 hs, i8, j8, e8, e9, w1, w2]
        by_cases h1 : E i + F i = E j + F j
        · rw [if_pos h1]
          by_cases h2 : betP E F i j
          · rw [if_pos h2]
            exact if_neg (fun z => ((bp.1 h1).mp z) h2)
          · rw [if_neg h2]
            exact if_pos ((bp.1 h1).mpr h2)
        · rw [if_neg h1]
          by_cases h2 : betP E F i j
          · rw [if_pos h2]
            exact if_neg (fun z => ((bp.2 h1).mp z) h2)
          · rw [if_neg h2]
            exact if_pos ((bp.2 h1).mpr h2)
      simp only [m_X9_meet_L69, m_X9_meet_L128, m_X9_meet_L124, hgI_k, hgR_k, hpI_k, hpR_k, hpZ_k, haI_k, haR_k, hsI_k, hsZ_k, hlen_k, hlet_p, hret_p, hretZ_0, hretZ_1, hif_p, okk_setV, okk_setF, nV, nF, fV, vF, haI_n, hcallV_b, hbind_p, better, kk_1 hs, kk_30 hs, kk_8 hs, kk_9 hs, rf_1_3 hs, rf_1_14 hs, rf_1_15 hs, ln_8 hs, ln_9 hs, r.to, TwA.k0 ht, TwA.k1 ht, TwA.k2 ht, TwA.k3 ht, TwA.k4 ht, TwA.k5 ht, TwA.k6 ht, TwA.k7 ht, TwA.k8 ht, TwA.k9 ht, TwA.k10 ht, TwA.k11 ht, TwA.k12 ht, TwA.k13 ht, TwA.k14 ht, TwA.k15 ht, TwA.k16 ht, TwA.k17 ht, TwA.n2 ht, TwA.n3 ht, TwA.n4 ht, TwA.n6 ht, TwA.n7 ht, TwA.n8 ht, TwA.n9 ht, TwA.n10 ht, TwA.n11 ht, TwA.n12 ht, TwA.n13 ht, TwA.n14 ht, TwA.n15 ht, TwA.n16 ht, TwA.n17 ht, TwA.f2 ht, TwA.f3 ht, TwA.f5 ht, TwA.f6 ht, TwA.f8 ht, TwA.f9 ht, TwA.f11 ht, TwA.f12 ht, TwA.f13 ht, TwA.f14 ht, TwA.f15 ht, TwA.b0 ht, TwA.b1 ht, TwA.b2 ht, TwA.g0 ht, TwA.g1 ht, TwA.g2 ht, r.v0, i8, e8, e9, ix_s (show i < 1000000 by omega)]
      rw [if_neg (by omega)]
      by_cases h1 : E i ≥ 99
      · rw [if_pos h1]
        exact no (fun z => by have := z.1; omega)
      rw [if_neg h1]
      by_cases h2 : F i ≥ 99
      · rw [if_pos h2]
        exact no (fun z => by have := z.2.1; omega)
      rw [if_neg h2, if_neg j0]
      by_cases h3 : betP E F i j
      · rw [if_pos h3, if_neg (by decide)]
        exact ye ⟨by omega, by omega, Or.inr h3⟩
      · rw [if_neg h3, if_pos rfl]
        exact no (fun z => by
          rcases z.2.2 with z | z
          · omega
          · exact h3 z)
theorem y_meetL {u : hS} (hs : shp u) (ws : WS (hV u 230)) {E F : Nat → Int} {p q : Nat} (wE : ∀ (D : Nat → Int) (i : Nat), (i : Int) < hV u 230 0 → ∃ D', m_X10_wayOf 220 p i (hput u 232 D) = some (E i, hput u 232 D')) (wF : ∀ (D : Nat → Int) (i : Nat), (i : Int) < hV u 230 0 → ∃ D', m_X10_wayOf 220 q i (hput u 232 D) = some (F i, hput u 232 D')) (bE : ∀ c : Nat, (c : Int) < hV u 230 0 → 0 ≤ E c ∧ E c ≤ 99) (bF : ∀ c : Nat, (c : Int) < hV u 230 0 → 0 ≤ F c ∧ F c ≤ 99) (f : Int) : ∀ (k n i : Nat) (b l5 l6 : Int) (D : Nat → Int), k < n → hV u 230 0 = ((i + k : Nat) : Int) → (b = -2 ∧ l5 = -2 ∨ ∃ j : Nat, b = j ∧ j < i ∧ l5 = E j + F j ∧ l6 = mxp E F j) → ∃ D', m_X10_meet_L47 n 220 p q f b l5 l6 i (hput u 232 D) = some (metR E F f (metG E F k i b), hput u 232 D') := by
  have w0 := ws.1
  intro k
  induction k with
  | zero =>
    intro n i b l5 l6 D hn hv hb
    obtain ⟨n, rfl⟩ : ∃ k, n = k + 1 := ⟨n - 1, by omega⟩
    refine ⟨D, ?_⟩
    show _ = some (metR E F f b, _)
    unfold metR
    simp only [m_X10_meet_L47, m_X10_meet_L176, hgI_k, hgR_k, hpI_k, hpR_k, hpZ_k, haI_k, haR_k, hsI_k, hsZ_k, hlen_k, hlet_p, hret_p, hretZ_0, hretZ_1, hif_p, okk_setV, okk_setF, nV, nF, fV, vF, okk_put, nP, fP, haI_0, kk_220 hs, kk_230 hs, rf_220_20 hs, ln_230 hs, lt_c 0 160 rfl, hV_put_n (show 230 ≠ 232 by decide)]
    rw [if_pos (by omega)]
    rcases hb with ⟨rfl, rfl⟩ | ⟨j, rfl, hj, rfl, rfl⟩
    · rw [if_pos (show (-2 : Int) < 0 by decide)]
      split <;> rfl
    · rw [if_neg (show ¬ ((j : Int) < 0) by omega), Int.toNat_natCast]
      by_cases hf : f = 0
      · rw [if_neg (fun z => z hf), if_neg (fun z => z hf)]
      · rw [if_pos hf, if_pos hf]
  | succ k ih =>
    intro n i b l5 l6 D hn hv hb
    obtain ⟨n, rfl⟩ : ∃ k, n = k + 1 := ⟨n - 1, by omega⟩
    have y1 := bE i (by omega)
    have y2 := bF i (by omega)
    obtain ⟨D1, d1⟩ := wE D i (by omega)
    obtain ⟨D2, d2⟩ := wF D1 i (by omega)
    have w2 : w32 (E i + F i) = E i + F i := w32_id ⟨by omega, by omega⟩
    have no : ¬ metC E F i b → ∃ D', m_X10_meet_L47 n 220 p q f b l5 l6 ((i + 1 : Nat) : Int) (hput u 232 D2) = some (metR E F f (metG E F (k + 1) i b), hput u 232 D') := by
      intro h
      rw [metG_n h]
      exact ih n (i + 1) b l5 l6 D2 (by omega) (by omega) (by
        rcases hb with hb | ⟨j, h1, h2, h3⟩
        · exact Or.inl hb
        · exact Or.inr ⟨j, h1, by omega, h3⟩)
    have ye : ∀ x, x = mxp E F i → metC E F i b → ∃ D', m_X10_meet_L47 n 220 p q f i (E i + F i) x ((i + 1 : Nat) : Int) (hput u 232 D2) = some (metR E F f (metG E F (k + 1) i b), hput u 232 D') := by
      intro x hx h
      rw [metG_y h]
      exact ih n (i + 1) i _ _ D2 (by omega) (by omega) (Or.inr ⟨i, rfl, by omega, rfl, hx⟩)
    simp only [m_X10_meet_L47, m_X10_meet_L107, m_X10_meet_L144, m_X10_meet_L159, hgI_k, hgR_k, hpI_k, hpR_k, hpZ_k, haI_k, haR_k, hsI_k, hsZ_k, hlen_k, hlet_p, hret_p, hretZ_0, hretZ_1, hif_p, okk_setV, okk_setF, nV, nF, fV, vF, okk_put, nP, fP, hcallV_b, hbind_p, haI_0, d1, d2, kk_220 hs, kk_230 hs, rf_220_20 hs, ln_230 hs, lt_c 0 160 rfl, hV_put_n (show 230 ≠ 232 by decide), w2, ix_s (show i < 1000000 by omega)]
    rw [if_neg (by omega)]
    by_cases h1 : E i = 99
    · rw [if_pos h1]
      exact no (fun z => by have := z.1; omega)
    rw [if_neg h1]
    by_cases h2 : F i = 99
    · rw [if_neg (fun z => z h2)]
      exact no (fun z => by have := z.2.1; omega)
    rw [if_pos h2]
    have go : ∀ x, x = mxp E F i → ∃ D', (if b < 0 then m_X10_meet_L47 n 220 p q f i (E i + F i) x ((i + 1 : Nat) : Int) (hput u 232 D2) else if E i + F i > l5 then m_X10_meet_L47 n 220 p q f b l5 l6 ((i + 1 : Nat) : Int) (hput u 232 D2) else if E i + F i ≠ l5 then m_X10_meet_L47 n 220 p q f i (E i + F i) x ((i + 1 : Nat) : Int) (hput u 232 D2) else if x < l6 then m_X10_meet_L47 n 220 p q f i (E i + F i) x ((i + 1 : Nat) : Int) (hput u 232 D2) else m_X10_meet_L47 n 220 p q f b l5 l6 ((i + 1 : Nat) : Int) (hput u 232 D2)) = some (metR E F f (metG E F (k + 1) i b), hput u 232 D') := by
      intro x hx
      rcases hb with ⟨rfl, rfl⟩ | ⟨j, rfl, hj, rfl, rfl⟩
      · rw [if_pos (show (-2 : Int) < 0 by decide)]
        exact ye x hx ⟨by omega, by omega, Or.inl (by decide)⟩
      · rw [if_neg (show ¬ ((j : Int) < 0) by omega)]
        have nb : ¬ betP E F i j → ¬ metC E F i j := fun h z => by
          rcases z.2.2 with z | z
          · omega
          · exact h z
        by_cases h3 : E i + F i > E j + F j
        · rw [if_pos h3]
          exact no (nb (fun z => by unfold betP at z; omega))
        rw [if_neg h3]
        by_cases h4 : E i + F i = E j + F j
        · rw [if_neg (fun z => z h4)]
          by_cases h5 : x < mxp E F j
          · rw [if_pos h5]
            exact ye x hx ⟨by omega, by omega, Or.inr (Or.inr ⟨h4, by rw [← hx]; exact h5⟩)⟩
          · rw [if_neg h5]
            exact no (nb (fun z => by unfold betP at z; rw [← hx] at z; omega))
        · rw [if_pos h4]
          exact ye x hx ⟨by omega, by omega, Or.inr (Or.inl (by rw [Int.toNat_natCast]; omega))⟩
    by_cases h3 : E i ≤ F i
    · rw [if_pos h3]
      exact go _ (by unfold mxp; split <;> omega)
    · rw [if_neg h3]
      exact go _ (by unfold mxp; rw [if_neg (by omega)])
theorem a_meet {u : hS} (hs : shp u) (ai : actInv u) (ex : ∀ b, b < 9 → hV u 231 b = 0) (p q f : Int) : ∃ (r : Int) (E F D : Nat → Int), m_X9_meet 1 p q f u = some (r, hput (hput u 8 E) 9 F) ∧ m_X10_meet 220 p q f (hput (hput u 8 E) 9 F) = some (r, hput (hput (hput u 8 E) 9 F) 232 D) := by
  obtain ⟨t, c, r, ru, h25⟩ := id ai
  have ws := r.2.2.2.1
  have wv := r.2.2.2.2
  have w0 := ws.1
  have w4 := ws.2.2.2.2.1
  have tz := r.2.1
  have n10 : ¬ (1 : Int) = 0 := by decide
  have n11 : (1 : Int) ≠ 0 := by decide
  by_cases hpq : (0 ≤ p ∧ p < hV u 230 4) ∧ (0 ≤ q ∧ q < hV u 230 4) ∧ p ≠ q
  case neg =>
    refine ⟨-1, hV u 8, hV u 9, hV u 232, ?_, ?_⟩
    · rw [hput_self, hput_self]
      simp only [m_X9_meet, m_X9_meet_L18, hgI_k, hgR_k, hpI_k, hpR_k, hpZ_k, haI_k, haR_k, hsI_k, hsZ_k, hlen_k, hlet_p, hret_p, hretZ_0, hretZ_1, hif_p, okk_setV, okk_setF, nV, nF, fV, vF, hcallV_b, hbind_p, x_arePair hs r.1, kk_1 hs, if_neg hpq, if_true]
    · rw [hput_self, hput_self, hput_self]
      simp only [m_X10_meet, m_X10_meet_L31, hgI_k, hgR_k, hpI_k, hpR_k, hpZ_k, haI_k, haR_k, hsI_k, hsZ_k, hlen_k, hlet_p, hret_p, hretZ_0, hretZ_1, hif_p, okk_setV, okk_setF, nV, nF, fV, vF, hcallV_b, hbind_p, y_isPerson hs, kk_220 hs]
      by_cases hp : 0 ≤ p ∧ p < hV u 230 4
      · rw [if_pos hp, if_neg n10]
        by_cases hq : 0 ≤ q ∧ q < hV u 230 4
        · rw [if_pos hq, if_neg n10, if_pos (by
            by_cases e : p = q
            · exact e
            · exact absurd ⟨hp, hq, e⟩ hpq)]
        · rw [if_neg hq, if_pos rfl]
      · rw [if_neg hp, if_pos rfl]
  by_cases hf : 0 ≤ f ∧ f ≤ 1
  case neg =>
    refine ⟨-1, hV u 8, hV u 9, hV u 232, ?_, ?_⟩
    · rw [hput_self, hput_self]
      simp only [m_X9_meet, m_X9_meet_L18, hgI_k, hgR_k, hpI_k, hpR_k, hpZ_k, haI_k, haR_k, hsI_k, hsZ_k, hlen_k, hlet_p, hret_p, hretZ_0, hretZ_1, hif_p, okk_setV, okk_setF, nV, nF, fV, vF, hcallV_b, hbind_p, x_arePair hs r.1, kk_1 hs, if_pos hpq, if_neg n10]
      by_cases h0 : f < 0
      · rw [if_pos h0]
      · rw [if_neg h0, if_neg (by omega)]
    · rw [hput_self, hput_self, hput_self]
      simp only [m_X10_meet, m_X10_meet_L31, hgI_k, hgR_k, hpI_k, hpR_k, hpZ_k, haI_k, haR_k, hsI_k, hsZ_k, hlen_k, hlet_p, hret_p, hretZ_0, hretZ_1, hif_p, okk_setV, okk_setF, nV, nF, fV, vF, hcallV_b, hcall_b, hbind_p, y_isPerson hs, y_in, kk_220 hs, if_pos hpq.1, if_pos hpq.2.1, if_neg hpq.2.2, if_neg n10, if_neg hf, ne_eq, not_true_eq_false, if_false]
  have f0 : ¬ f < 0 := by omega
  have f1 : f ≤ 1 := hf.2
  obtain ⟨p, rfl⟩ : ∃ n : Nat, p = n := ⟨p.toNat, by omega⟩
  obtain ⟨q, rfl⟩ : ∃ n : Nat, q = n := ⟨q.toNat, by omega⟩
  have hp := hpq.1.2
  have hq := hpq.2.1.2
  have zp := (wv.2.2.1 p hp).1
  have zq := (wv.2.2.1 q hq).1
  obtain ⟨a, ha1⟩ : ∃ a : Nat, hV u 230 (10 + 3 * p) = a := ⟨(hV u 230 (10 + 3 * p)).toNat, by omega⟩
  obtain ⟨c', hc1⟩ : ∃ a : Nat, hV u 230 (10 + 3 * q) = a := ⟨(hV u 230 (10 + 3 * q)).toNat, by omega⟩
  have ip : p < 4 := by omega
  have iq : q < 4 := by omega
  have pa : (a : Int) < hV u 230 0 := by omega
  have pc : (c' : Int) < hV u 230 0 := by omega
  obtain ⟨E, e1, e2, e3⟩ := x_measure hs r.1 (kk_8 hs) (ln_8 hs) (Or.inl rfl) (by omega) tz ws wv hp pa
  have hs1 : shp (hput u 8 E) := hs
  have r1 := r.1.fr (ext.put u 8 E) (fun a _ _ => agr.put (by omega)) (fun a _ _ => agr.put (by omega))
  obtain ⟨F, g1, g2, g3⟩ := x_measure hs1 r1 (kk_9 hs1) (ln_9 hs1) (Or.inr rfl) (by omega) tz ws wv hq pc
  have hs2 : shp (hput (hput u 8 E) 9 F) := hs
  have r2 := r1.fr (ext.put _ 9 F) (fun a _ _ => agr.put (by omega)) (fun a _ _ => agr.put (by omega))
  have k230 : hV (hput (hput u 8 E) 9 F) 230 = hV u 230 := by rw [hV_put_n (by decide), hV_put_n (by decide)]
  have k231 : hV (hput (hput u 8 E) 9 F) 231 = hV u 231 := by rw [hV_put_n (by decide), hV_put_n (by decide)]
  have bE : ∀ c : Nat, (c : Int) < hV u 230 0 → 0 ≤ E c ∧ E c ≤ 99 := fun c hc => (e2.2 c hc).1
  have bF : ∀ c : Nat, (c : Int) < hV u 230 0 → 0 ≤ F c ∧ F c ≤ 99 := fun c hc => (g2.2 c hc).1
  have way : ∀ (o : Nat), (o : Int) < hV u 230 4 → ∀ (G : Nat → Int) (x : Nat), hV u 230 (10 + 3 * o) = x → (x : Int) < hV u 230 0 → isPre (hV u 230) (opnX (hV u 230) (-1) o) x G → (∀ (k : Nat) (y : Int), (k : Int) < hV u 230 0 → wkO (hV u 230) (opnX (hV u 230) (-1) o) x k y → G y.toNat ≤ k) → ∀ (D : Nat → Int) (i : Nat), (i : Int) < hV u 230 0 → ∃ D', m_X10_wayOf 220 o i (hput (hput (hput u 8 E) 9 F) 232 D) = some (G i, hput (hput (hput u 8 E) 9 F) 232 D') := by
    intro o ho G x hx hx0 i1 i2 D i hi
    have hs3 : shp (hput (hput (hput u 8 E) 9 F) 232 D) := hs
    have j230 : hV (hput (hput (hput u 8 E) 9 F) 232 D) 230 = hV u 230 := by rw [hV_put_n (by decide), k230]
    have j231 : hV (hput (hput (hput u 8 E) 9 F) 232 D) 231 = hV u 231 := by rw [hV_put_n (by decide), k231]
    obtain ⟨D', d1, d2⟩ := y_wayOf hs3 (by rw [j230]; exact ws) (by rw [j230]; exact wv) (p := o) (a := i) (by rw [j230]; exact ho) (by rw [j230]; exact hi)
    rw [j230, hx, Int.toNat_natCast, hput_put] at d1
    rw [j230, j231] at d2
    have d3 := isRow_cg (opn_opnX ws wv ho (e := -1) (fun k hk => by rw [ex k hk, if_neg (by omega)])) d2
    have sy := meas_sym hs ws wv ex ho hx0 i1 i2 hi d3
    exact ⟨D', by rw [d1, sy]⟩
  have X := x_meetL hs2 r2 ws (E := E) (F := F) (by rw [hV_put_n (by decide), hV_put_s]) (hV_put_s _ _ _) bE bF f (hV u 230 0).toNat 1000000000 0 (-2) (by omega) (by omega) (Or.inl (by decide))
  obtain ⟨D, Y⟩ := y_meetL hs2 (by rw [k230]; exact ws) (E := E) (F := F) (p := p) (q := q) (by rw [k230]; exact way p hp E a ha1 pa e2 e3) (by rw [k230]; exact way q hq F c' hc1 pc g2 g3) (by rw [k230]; exact bE) (by rw [k230]; exact bF) f (hV u 230 0).toNat 1000000000 0 (-2) (-2) 0 (hV u 232) (by omega) (by rw [k230]; omega) (Or.inl ⟨rfl, rfl⟩)
  have s232 : hput (hput (hput u 8 E) 9 F) 232 (hV u 232) = hput (hput u 8 E) 9 F := by
    have q1 : hV (hput (hput u 8 E) 9 F) 232 = hV u 232 := by rw [hV_put_n (by decide), hV_put_n (by decide)]
    rw [← q1, hput_self]
  rw [s232] at Y
  refine ⟨metR E F f (metG E F (hV u 230 0).toNat 0 (-2)), E, F, D, ?_, ?_⟩
  · have at1 := r.1.at p hp
    have at2 := r1.at q hq
    have ha := r.1.ha
    have hb := r1.ha
    simp only [m_X9_meet, hgI_k, hgR_k, hpI_k, hpR_k, hpZ_k, haI_k, haR_k, hsI_k, hsZ_k, hlen_k, hlet_p, hret_p, hretZ_0, hretZ_1, hif_p, okk_setV, okk_setF, nV, nF, fV, vF, okk_put, nP, fP, haI_n, hcallV_b, hbind_p, x_arePair hs r.1, kk_1 hs, kk_30 hs, rf_1_3 hs, rf_1_14 hs, StA.k0 ha, StA.k1 ha, StA.k2 ha, StA.k3 ha, StA.k4 ha, StA.n1 ha, StA.n2 ha, StA.n3 ha, StA.n4 ha, StA.f2 ha, StA.f3 ha, StA.f4 ha, StA.f5 ha, ip, iq, at1, ha1, if_pos hpq, if_neg n10, if_neg f0, if_pos f1, e1, kk_1 hs1, kk_30 hs1, rf_1_3 hs1, rf_1_15 hs1, StA.k0 hb, StA.k1 hb, StA.k2 hb, StA.k3 hb, StA.k4 hb, StA.n1 hb, StA.n2 hb, StA.n3 hb, StA.n4 hb, StA.f2 hb, StA.f3 hb, StA.f4 hb, StA.f5 hb, at2, hc1, g1]
    exact X
  · simp only [m_X10_meet, hgI_k, hgR_k, hpI_k, hpR_k, hpZ_k, haI_k, haR_k, hsI_k, hsZ_k, hlen_k, hlet_p, hret_p, hretZ_0, hretZ_1, hif_p, okk_setV, okk_setF, nV, nF, fV, vF, hcallV_b, hcall_b, hbind_p, y_isPerson hs2, y_in, kk_220 hs2, k230, if_pos hpq.1, if_pos hpq.2.1, if_neg hpq.2.2, if_neg n10, if_pos hf, if_pos n11]
    exact Y
