/-! what can be reached, as a number -/
theorem wkO_mono {S : Nat → Int} {O O' : Nat → Bool} {a : Int} (h : ∀ b : Nat, (b : Int) < S 2 → O b = true → O' b = true) : ∀ (k : Nat) (r : Int), wkO S O a k r → wkO S O' a k r := by
  intro k
  induction k with
  | zero =>
    intro r hr
    exact hr
  | succ k ih =>
    intro r hr
    obtain ⟨b, m, hb, ho, hm, he, h0⟩ := hr
    exact ⟨b, m, hb, h b hb ho, ih m hm, he, h0⟩
theorem clo_has {S : Nat → Int} {O : Nat → Bool} {a m : Nat} (h : m.testBit a = true) (c : isClo S O m) : ∀ (k : Nat) (x : Int), wkO S O a k x → m.testBit x.toNat = true := by
  intro k
  induction k with
  | zero =>
    intro x hx
    have e : x = a := hx
    rw [e, Int.toNat_natCast]
    exact h
  | succ k ih =>
    intro x hx
    obtain ⟨b, y, hb, ho, hy, he, h0⟩ := hx
    have z := ih y hy
    have w := c b hb ho
    rcases qEnd_cases he h0 with ⟨e1, e2⟩ | ⟨e1, e2⟩
    · rw [e1, e2] at w
      rw [← w]
      exact z
    · rw [e1, e2] at w
      rw [w]
      exact z
theorem set_sub {S : Nat → Int} {O O' : Nat → Bool} {a m m' : Nat} (h : ∀ b : Nat, (b : Int) < S 2 → O b = true → O' b = true) (s : isSet S O a m) (s' : isSet S O' a m') (c' : isClo S O' m') : ∀ r, m.testBit r = true → m'.testBit r = true := by
  intro r hr
  obtain ⟨_, k, _, hk⟩ := s.2.2 r hr
  have z := clo_has s'.2.1 c' k r (wkO_mono h k r hk)
  rw [Int.toNat_natCast] at z
  exact z
theorem tb_ext {m m' : Nat} (h : ∀ r, m.testBit r = true → m'.testBit r = true) (h' : ∀ r, m'.testBit r = true → m.testBit r = true) : m = m' := by
  apply Nat.eq_of_testBit_eq
  intro r
  by_cases e : m.testBit r = true
  · rw [e, h r e]
  · have e' : ¬ m'.testBit r = true := fun z => e (h' r z)
    rw [Bool.not_eq_true] at e e'
    rw [e, e']
def isRch (S : Nat → Int) (e : Int) (p m : Nat) : Prop := ∃ a : Nat, S (10 + 3 * p) = a ∧ isSet S (opnX S e p) a m ∧ isClo S (opnX S e p) m
theorem rch_one {S : Nat → Int} {e e' : Int} {p m m' : Nat} (o : ∀ b : Nat, (b : Int) < S 2 → opnX S e p b = opnX S e' p b) (h : isRch S e p m) (h' : isRch S e' p m') : m = m' := by
  obtain ⟨a, a1, a2, a3⟩ := h
  obtain ⟨b, b1, b2, b3⟩ := h'
  obtain rfl : a = b := by omega
  exact tb_ext (set_sub (fun b hb z => by rw [← o b hb]; exact z) a2 b2 b3) (set_sub (fun b hb z => by rw [o b hb]; exact z) b2 a2 a3)
theorem rch_sub {S : Nat → Int} {e : Int} {p m m' : Nat} (h : isRch S (-1) p m) (h' : isRch S e p m') : ∀ r, m.testBit r = true → m'.testBit r = true := by
  obtain ⟨a, a1, a2, a3⟩ := h
  obtain ⟨b, b1, b2, b3⟩ := h'
  obtain rfl : a = b := by omega
  refine set_sub (fun b hb z => ?_) a2 b2 b3
  have y := of_decide_eq_true z
  exact decide_eq_true (by
    rcases y with y | y
    · omega
    · exact Or.inr y)
theorem rch_lt {S : Nat → Int} {e : Int} {p m : Nat} (h : isRch S e p m) : m < 512 := by
  obtain ⟨a, a1, a2, a3⟩ := h
  exact a2.1
theorem rch_in {S : Nat → Int} {e : Int} {p m : Nat} (h : isRch S e p m) : ∀ r, m.testBit r = true → (r : Int) < S 0 := by
  obtain ⟨a, a1, a2, a3⟩ := h
  exact fun r hr => (a2.2.2 r hr).1
theorem x_rch {u : hS} {s t p m : Nat} {S : Nat → Int} {e : Int} (r : RepS u s t S) (ws : WS S) (wv : WV S) (hp : (p : Int) < S 4) (h : isRch S e p m) : m_X4_reachOf s p e u = some ((m : Int), u) := by
  obtain ⟨m', a, g1, g2, g3, g4⟩ := x_reachOf r ws wv hp e
  rw [g2, rch_one (fun _ _ => rfl) (⟨a, g1, g3, g4⟩ : isRch S e p m') h]
theorem rch_ex {u : hS} {s t : Nat} {S : Nat → Int} (r : RepS u s t S) (ws : WS S) (wv : WV S) : ∃ g : Int → Nat → Nat, ∀ (e : Int) (p : Nat), (p : Int) < S 4 → isRch S e p (g e p) := by
  have h : ∀ (e : Int) (p : Nat), ∃ m : Nat, (p : Int) < S 4 → isRch S e p m := by
    intro e p
    by_cases hp : (p : Int) < S 4
    · obtain ⟨m', a, g1, g2, g3, g4⟩ := x_reachOf r ws wv hp e
      exact ⟨m', fun _ => ⟨a, g1, g3, g4⟩⟩
    · exact ⟨0, fun z => absurd z hp⟩
  exact ⟨fun e p => Classical.choose (h e p), fun e p => Classical.choose_spec (h e p)⟩
theorem y_rch {u : hS} {p m : Nat} {e : Int} (hs : shp u) (ws : WS (hV u 230)) (wv : WV (hV u 230)) (hp : (p : Int) < hV u 230 4) (hE : ∀ b : Nat, b < 9 → hV u 231 b = if (b : Int) = e then 1 else 0) (h : isRch (hV u 230) e p m) : ∃ D, m_X10_reachOf 220 p u = some ((m : Int), hput u 232 D) := by
  obtain ⟨a, a1, a2, a3⟩ := h
  obtain ⟨D, b, d1, d2, d3⟩ := y_reachOf hs ws wv hp
  obtain rfl : b = a := by omega
  have d4 := isRow_cg (opn_opnX ws wv hp hE) d3
  exact ⟨D, by rw [d2, bits_eq ws.1 a2 a3 d4]⟩
/-! a bridge forgotten is as a bridge open to all -/
theorem qForg_n {b : Nat} : ∀ (k i : Nat) (S : Nat → Int) (j : Nat), (∀ p, i ≤ p → p < i + k → j ≠ 22 + 9 * p + b ∧ j ≠ 58 + 9 * p + b) → qForg b k i S j = S j := by
  intro k
  induction k with
  | zero =>
    intro i S j h
    rfl
  | succ k ih =>
    intro i S j h
    have z := h i (by omega) (by omega)
    show qForg b k (i + 1) (sup (sup S (22 + 9 * i + b) 0) (58 + 9 * i + b) 0) j = S j
    rw [ih (i + 1) _ j (fun p h1 h2 => h p (by omega) (by omega)), sup_n z.2, sup_n z.1]
theorem qForg_0 {b : Nat} (hb : b < 9) : ∀ (k i : Nat) (S : Nat → Int) (p : Nat), i ≤ p → p < i + k → i + k ≤ 4 → qForg b k i S (22 + 9 * p + b) = 0 := by
  intro k
  induction k with
  | zero =>
    intro i S p h1 h2
    omega
  | succ k ih =>
    intro i S p h1 h2 h3
    show qForg b k (i + 1) (sup (sup S (22 + 9 * i + b) 0) (58 + 9 * i + b) 0) (22 + 9 * p + b) = 0
    by_cases e : p = i
    · subst e
      rw [qForg_n k (p + 1) _ _ (fun q h4 h5 => by omega), sup_n (by omega), sup_s]
    · exact ih (i + 1) _ p (by omega) (by omega) (by omega)
theorem wkO_S {S S' : Nat → Int} {O : Nat → Bool} {a : Int} (h : ∀ j, j < 10 ∨ 94 ≤ j → S' j = S j) : ∀ (k : Nat) (r : Int), wkO S' O a k r → wkO S O a k r := by
  intro k
  induction k with
  | zero =>
    intro r hr
    exact hr
  | succ k ih =>
    intro r hr
    obtain ⟨b, m, hb, ho, hm, he, h0⟩ := hr
    refine ⟨b, m, by rw [← h 2 (by omega)]; exact hb, ho, ih m hm, ?_, h0⟩
    unfold qEnd at he ⊢
    rw [← h (94 + 2 * b) (by omega), ← h (94 + 2 * b + 1) (by omega)]
    exact he
theorem isRow_S {S S' : Nat → Int} {O : Nat → Bool} {a : Nat} {D : Nat → Int} (h : ∀ j, j < 10 ∨ 94 ≤ j → S' j = S j) (d : isRow S' O a D) : isRow S O a D :=
  ⟨d.1, fun r hr => ⟨(d.2.1 r (by rw [h 0 (by omega)]; exact hr)).1, fun z => wkO_S h _ _ ((d.2.1 r (by rw [h 0 (by omega)]; exact hr)).2 z)⟩, fun b hb ho => by
    have y := d.2.2 b (by rw [h 2 (by omega)]; exact hb) ho
    rw [h (94 + 2 * b) (by omega), h (94 + 2 * b + 1) (by omega)] at y
    exact y⟩
theorem y_rchF {u : hS} {S : Nat → Int} {p m b : Nat} (hs : shp u) (ws : WS S) (wv : WV S) (hp : (p : Int) < S 4) (hb : (b : Int) < S 2) (h1 : 1 ≤ S 1) (ex : ∀ b : Nat, b < 9 → hV u 231 b = 0) (hS : hV u 230 = qForg b (S 4).toNat 0 S) (h : isRch S b p m) : ∃ D, m_X10_reachOf 220 p u = some ((m : Int), hput u 232 D) := by
  have w2 := ws.2.2.1
  have w1 := ws.2.1
  have w4 := ws.2.2.2.2.1
  have b9 : b < 9 := by omega
  obtain ⟨q1, q2, q3, q4⟩ := qForg_ok b9 (S 4).toNat 0 S ws wv (by omega)
  obtain ⟨a, a1, a2, a3⟩ := h
  obtain ⟨D, c, d1, d2, d3⟩ := y_reachOf hs (by rw [hS]; exact q2) (by rw [hS]; exact q3) (p := p) (by rw [hS, q4 4 (by omega)]; exact hp)
  rw [hS] at d1 d2 d3
  have e10 : qForg b (S 4).toNat 0 S (10 + 3 * p) = S (10 + 3 * p) := qForg_n _ _ _ _ (fun q h4 h5 => by omega)
  obtain rfl : c = a := by omega
  have d4 := isRow_S q4 d3
  have d5 := isRow_cg (S := S) (O' := opnX S b p) (fun k hk => by
    have k9 : k < 9 := by omega
    have z := wv.2.2.2.1 p k hp hk
    unfold opn opnX qLeft
    refine decide_eq_decide.mpr ?_
    rw [ex k k9, q4 1 (by omega)]
    by_cases e : k = b
    · subst e
      rw [qForg_0 k9 _ _ _ p (by omega) (by omega) (by omega), w32_id (x := S 1 - 0) ⟨by omega, by omega⟩, w32_id ⟨by omega, by omega⟩]
      omega
    · rw [qForg_n _ _ _ _ (fun q h4 h5 => by omega), w32_id (x := S 1 - S (22 + 9 * p + k)) ⟨by omega, by omega⟩, w32_id ⟨by omega, by omega⟩]
      omega) d4
  refine ⟨D, ?_⟩
  rw [d2, q4 0 (by omega), bits_eq ws.1 a2 a3 d5]
theorem x_frL {u : hS} (hs : shp u) {t : Nat} {S : Nat → Int} (r0 : RepS u 30 t S) (tz : t = 12 ∨ 243 ≤ t) (ws : WS S) (wv : WV S) {f : Nat → Nat} (hf : ∀ p : Nat, (p : Int) < S 4 → isRch S (-1) p (f p)) : ∀ (k n i : Nat) (D : Nat → Int), k < n → S 4 = ((i + k : Nat) : Int) → ∃ D', m_X9_findReaches_L2 n 1 i (hput u 10 D) = some (0, hput u 10 D') ∧ (∀ j, j < i → D' j = D j) ∧ ∀ j, i ≤ j → j < i + k → D' j = (f j : Int) := by
  have w4 := ws.2.2.2.2.1
  intro k
  induction k with
  | zero =>
    intro n i D hn hv
    obtain ⟨n, rfl⟩ : ∃ k, n = k + 1 := ⟨n - 1, by omega⟩
    have r := r0.fr (ext.put u 10 D) (fun a _ _ => agr.put (by omega)) (fun a _ _ => agr.put (by omega))
    have ht := r.ht
    refine ⟨D, ?_, fun _ _ => rfl, fun j h1 h2 => by omega⟩
    simp only [m_X9_findReaches_L2, hgI_k, hgR_k, hpI_k, hpR_k, hpZ_k, haI_k, haR_k, hsI_k, hsZ_k, hlen_k, hlet_p, hret_p, hretZ_0, hretZ_1, hif_p, okk_setV, okk_setF, nV, nF, fV, vF, okk_put, nP, fP, kk_1 hs, kk_30 hs, rf_1_3 hs, r0.to, TwA.k0 ht, TwA.k1 ht, TwA.k2 ht, TwA.k3 ht, TwA.k4 ht, TwA.k5 ht, TwA.k6 ht, TwA.k7 ht, TwA.k8 ht, TwA.k9 ht, TwA.k10 ht, TwA.k11 ht, TwA.k12 ht, TwA.k13 ht, TwA.k14 ht, TwA.k15 ht, TwA.k16 ht, TwA.k17 ht, TwA.n2 ht, TwA.n3 ht, TwA.n4 ht, TwA.n6 ht, TwA.n7 ht, TwA.n8 ht, TwA.n9 ht, TwA.n10 ht, TwA.n11 ht, TwA.n12 ht, TwA.n13 ht, TwA.n14 ht, TwA.n15 ht, TwA.n16 ht, TwA.n17 ht, TwA.f2 ht, TwA.f3 ht, TwA.f5 ht, TwA.f6 ht, TwA.f8 ht, TwA.f9 ht, TwA.f11 ht, TwA.f12 ht, TwA.f13 ht, TwA.f14 ht, TwA.f15 ht, TwA.b0 ht, TwA.b1 ht, TwA.b2 ht, TwA.g0 ht, TwA.g1 ht, TwA.g2 ht, r.v4]
    rw [if_pos (by omega)]
  | succ k ih =>
    intro n i D hn hv
    obtain ⟨n, rfl⟩ : ∃ k, n = k + 1 := ⟨n - 1, by omega⟩
    have r := r0.fr (ext.put u 10 D) (fun a _ _ => agr.put (by omega)) (fun a _ _ => agr.put (by omega))
    have ht := r.ht
    have hi : (i : Int) < S 4 := by omega
    have i4 : i < 4 := by omega
    have x := x_rch r ws wv hi (hf i hi)
    obtain ⟨D', d1, d2, d3⟩ := ih n (i + 1) (sup D i (f i)) (by omega) (by omega)
    refine ⟨D', ?_, fun j hj => by rw [d2 j (by omega), sup_n (by omega)], fun j h1 h2 => ?_⟩
    · simp only [m_X9_findReaches_L2, hgI_k, hgR_k, hpI_k, hpR_k, hpZ_k, haI_k, haR_k, hsI_k, hsZ_k, hlen_k, hlet_p, hret_p, hretZ_0, hretZ_1, hif_p, okk_setV, okk_setF, nV, nF, fV, vF, okk_put, nP, fP, hcallV_b, hbind_p, hsI_n, kk_1 hs, kk_30 hs, kk_10 hs, rf_1_3 hs, rf_1_16 hs, ln_10 hs, r0.to, TwA.k0 ht, TwA.k1 ht, TwA.k2 ht, TwA.k3 ht, TwA.k4 ht, TwA.k5 ht, TwA.k6 ht, TwA.k7 ht, TwA.k8 ht, TwA.k9 ht, TwA.k10 ht, TwA.k11 ht, TwA.k12 ht, TwA.k13 ht, TwA.k14 ht, TwA.k15 ht, TwA.k16 ht, TwA.k17 ht, TwA.n2 ht, TwA.n3 ht, TwA.n4 ht, TwA.n6 ht, TwA.n7 ht, TwA.n8 ht, TwA.n9 ht, TwA.n10 ht, TwA.n11 ht, TwA.n12 ht, TwA.n13 ht, TwA.n14 ht, TwA.n15 ht, TwA.n16 ht, TwA.n17 ht, TwA.f2 ht, TwA.f3 ht, TwA.f5 ht, TwA.f6 ht, TwA.f8 ht, TwA.f9 ht, TwA.f11 ht, TwA.f12 ht, TwA.f13 ht, TwA.f14 ht, TwA.f15 ht, TwA.b0 ht, TwA.b1 ht, TwA.b2 ht, TwA.g0 ht, TwA.g1 ht, TwA.g2 ht, r.v4, x, i4, setV_put, ix_s (show i < 1000000 by omega)]
      rw [if_neg (by omega)]
      exact d1
    · by_cases e : j = i
      · subst e
        rw [d2 j (by omega), sup_s]
      · exact d3 j (by omega) (by omega)
theorem x_findReaches {u : hS} (hs : shp u) {t : Nat} {S : Nat → Int} (r0 : RepS u 30 t S) (tz : t = 12 ∨ 243 ≤ t) (ws : WS S) (wv : WV S) {f : Nat → Nat} (hf : ∀ p : Nat, (p : Int) < S 4 → isRch S (-1) p (f p)) : ∃ D, m_X9_findReaches 1 u = some (0, hput u 10 D) ∧ ∀ j : Nat, (j : Int) < S 4 → D j = (f j : Int) := by
  have w4 := ws.2.2.2.2.1
  obtain ⟨D, d1, d2, d3⟩ := x_frL hs r0 tz ws wv hf (S 4).toNat 1000000000 0 (hV u 10) (by omega) (by omega)
  rw [hput_self] at d1
  refine ⟨D, ?_, fun j hj => d3 j (by omega) (by omega)⟩
  simp only [m_X9_findReaches, hlet_p]
  exact d1
