theorem wkO_cg {S : Nat → Int} {O O' : Nat → Bool} {a : Int} (h : ∀ b : Nat, (b : Int) < S 2 → O b = O' b) : ∀ (k : Nat) (r : Int), wkO S O a k r → wkO S O' a k r := by
  intro k
  induction k with
  | zero =>
    intro r hr
    exact hr
  | succ k ih =>
    intro r hr
    obtain ⟨b, m, hb, ho, hm, he, h0⟩ := hr
    exact ⟨b, m, hb, by rw [← h b hb]; exact ho, ih m hm, he, h0⟩
theorem isRow_cg {S : Nat → Int} {O O' : Nat → Bool} {a : Nat} {D : Nat → Int} (h : ∀ b : Nat, (b : Int) < S 2 → O b = O' b) (d : isRow S O a D) : isRow S O' a D :=
  ⟨d.1, fun r hr => ⟨(d.2.1 r hr).1, fun z => wkO_cg h _ _ ((d.2.1 r hr).2 z)⟩, fun b hb ho => d.2.2 b hb (by rw [h b hb]; exact ho)⟩
theorem opn_opnX {S E : Nat → Int} {p : Nat} {e : Int} (ws : WS S) (wv : WV S) (hp : (p : Int) < S 4) (hE : ∀ b : Nat, b < 9 → E b = if (b : Int) = e then 1 else 0) (b : Nat) (hb : (b : Int) < S 2) : opn S E p b = opnX S e p b := by
  have w1 := ws.2.1
  have w2 := ws.2.2.1
  have z := wv.2.2.2.1 p b hp hb
  have q := qLeft_id ws wv hp hb
  unfold opn opnX
  rw [hE b (by omega)]
  refine decide_eq_decide.mpr ?_
  by_cases h : (b : Int) = e
  · rw [if_pos h, w32_id ⟨by omega, by omega⟩]
    omega
  · rw [if_neg h, w32_id ⟨by omega, by omega⟩]
    omega
theorem bits_eq {S : Nat → Int} {O : Nat → Bool} {a m : Nat} {D : Nat → Int} (w0 : 0 ≤ S 0 ∧ S 0 ≤ 8) (h : isSet S O a m) (c : isClo S O m) (d : isRow S O a D) : qBits D (S 0).toNat = (m : Int) := by
  obtain ⟨M, e1, e2, e3⟩ := accN_bits (fun r => D r < 99) (S 0).toNat 0 0 (by omega) (by omega)
  have e : M = m := by
    apply Nat.eq_of_testBit_eq
    intro r
    rw [e3, Nat.zero_testBit, Bool.false_or]
    by_cases hr : m.testBit r = true
    · have r0 := (h.2.2 r hr).1
      rw [hr]
      exact decide_eq_true ⟨by omega, by omega, (set_row w0 h c d r r0).mp hr⟩
    · rw [Bool.not_eq_true] at hr
      rw [hr]
      refine decide_eq_false (fun z => ?_)
      have t := (set_row w0 h c d r (by omega)).mpr z.2.2
      rw [hr] at t
      exact absurd t (by decide)
  rw [← e]
  exact e1
theorem a_person {u : hS} (hs : shp u) (ai : actInv u) (ex : ∀ b, b < 9 → hV u 231 b = 0) (p f : Int) : ∃ (r : Int) (D : Nat → Int), m_X9_person 1 p f u = some (r, u) ∧ m_X10_person 220 p f u = some (r, hput u 232 D) := by
  obtain ⟨t, c, r, ru, h25⟩ := id ai
  have ws := r.2.2.2.1
  have wv := r.2.2.2.2
  have w4 := ws.2.2.2.2.1
  have ht := r.1.ht
  have ha := r.1.ha
  have n11 : (1 : Int) ≠ 0 := by decide
  by_cases hp : 0 ≤ p ∧ p < hV u 230 4
  case neg =>
    refine ⟨-1, hV u 232, ?_, ?_⟩
    · simp only [m_X9_person, hgI_k, hgR_k, hpI_k, hpR_k, hpZ_k, haI_k, haR_k, hsI_k, hsZ_k, hlen_k, hlet_e, hret_e, hretZ_0, hretZ_1, hif_e, okk_setV, okk_setF, nV, nF, fV, vF, hcallV_b, hbind_s, x_isPerson hs r.1, kk_1 hs, if_neg hp, ne_eq, not_true_eq_false, if_false]
    · rw [hput_self]
      simp only [m_X10_person_L48, m_X10_person, hgI_k, hgR_k, hpI_k, hpR_k, hpZ_k, haI_k, haR_k, hsI_k, hsZ_k, hlen_k, hlet_e, hret_e, hretZ_0, hretZ_1, hif_e, okk_setV, okk_setF, nV, nF, fV, vF, hcallV_b, hbind_s, y_isPerson hs, kk_220 hs, if_neg hp, ne_eq, not_true_eq_false, if_false]
  obtain ⟨p, rfl⟩ : ∃ n : Nat, p = n := ⟨p.toNat, by omega⟩
  have i1 : p < 4 := by omega
  have X : m_X9_person 1 p f u = if f = 0 then some (hV u 230 (10 + 3 * p), u) else if f = 1 then some (hV u 230 (11 + 3 * p), u) else if f = 2 then some (hV u 230 (12 + 3 * p), u) else if f = 3 then hbind (m_X4_reachOf 30 p (-1) u) hret else if f = 4 then some (qLost (hV u 230) p, u) else if f = 5 then some (qGoal (hV u 230) p, u) else some (-1, u) := by
    simp only [m_X9_person, hgI_k, hgR_k, hpI_k, hpR_k, hpZ_k, haI_k, haR_k, hsI_k, hsZ_k, hlen_k, hlet_e, hret_e, hretZ_0, hretZ_1, hif_e, okk_setV, okk_setF, nV, nF, fV, vF, haI_n, hcallV_b, hbind_s, x_isPerson hs r.1, kk_1 hs, rf_1_3 hs, StA.k0 ha, StA.k1 ha, StA.k2 ha, StA.k3 ha, StA.k4 ha, StA.n1 ha, StA.n2 ha, StA.n3 ha, StA.n4 ha, StA.f2 ha, StA.f3 ha, StA.f4 ha, StA.f5 ha, r.1.to, TwA.k0 ht, TwA.k1 ht, TwA.k2 ht, TwA.k3 ht, TwA.k4 ht, TwA.k5 ht, TwA.k6 ht, TwA.k7 ht, TwA.k8 ht, TwA.k9 ht, TwA.k10 ht, TwA.k11 ht, TwA.k12 ht, TwA.k13 ht, TwA.k14 ht, TwA.k15 ht, TwA.k16 ht, TwA.k17 ht, TwA.n2 ht, TwA.n3 ht, TwA.n4 ht, TwA.n6 ht, TwA.n7 ht, TwA.n8 ht, TwA.n9 ht, TwA.n10 ht, TwA.n11 ht, TwA.n12 ht, TwA.n13 ht, TwA.n14 ht, TwA.n15 ht, TwA.n16 ht, TwA.n17 ht, TwA.f2 ht, TwA.f3 ht, TwA.f5 ht, TwA.f6 ht, TwA.f8 ht, TwA.f9 ht, TwA.f11 ht, TwA.f12 ht, TwA.f13 ht, TwA.f14 ht, TwA.f15 ht, TwA.b0 ht, TwA.b1 ht, TwA.b2 ht, TwA.g0 ht, TwA.g1 ht, TwA.g2 ht, i1, r.1.at p hp.2, r.1.home p hp.2, r.1.paid p hp.2, x_lostBy r.1 ws hp.2, x_goalOf r.1 ws hp.2, if_pos hp, if_pos n11]
  have Y : m_X10_person 220 p f u = if f = 0 then some (hV u 230 (10 + 3 * p), u) else if f = 1 then some (hV u 230 (11 + 3 * p), u) else if f = 2 then some (hV u 230 (12 + 3 * p), u) else if f = 3 then hbind (m_X10_reachOf 220 p u) hret else if f = 4 then some (qLost (hV u 230) p, u) else if f = 5 then some (qGoal (hV u 230) p, u) else some (-1, u) := by
    simp only [m_X10_person, m_X10_person_L48, hgI_k, hgR_k, hpI_k, hpR_k, hpZ_k, haI_k, haR_k, hsI_k, hsZ_k, hlen_k, hlet_e, hret_e, hretZ_0, hretZ_1, hif_e, okk_setV, okk_setF, nV, nF, fV, vF, hcallV_b, hbind_s, y_isPerson hs, kk_220 hs, y_lostOf hs ws ex i1, y_goalOf hs ws i1, if_pos hp, if_pos n11]
    by_cases f0 : f = 0
    · subst f0
      rw [if_pos rfl, if_pos rfl, y_personOf0 hs i1]
      rfl
    by_cases f1 : f = 1
    · subst f1
      rw [if_neg f0, if_neg f0, if_pos rfl, if_pos rfl, y_personOf1 hs i1]
      rfl
    by_cases f2 : f = 2
    · subst f2
      rw [if_neg f0, if_neg f0, if_neg f1, if_neg f1, if_pos rfl, if_pos rfl, y_personOf2 hs i1]
      rfl
    rw [if_neg f0, if_neg f0, if_neg f1, if_neg f1, if_neg f2, if_neg f2]
  rw [X, Y]
  by_cases f3 : f = 3
  · subst f3
    obtain ⟨m, a, g1, g2, g3, g4⟩ := x_reachOf r.1 ws wv hp.2 (-1)
    obtain ⟨D, b, d1, d2, d3⟩ := y_reachOf hs ws wv hp.2
    have ab : b = a := by omega
    subst ab
    have d4 := isRow_cg (opn_opnX ws wv hp.2 (e := -1) (fun k hk => by rw [ex k hk, if_neg (by omega)])) d3
    refine ⟨(m : Int), D, ?_, ?_⟩
    · rw [if_neg (by decide), if_neg (by decide), if_neg (by decide), if_pos rfl, g2]
      rfl
    · rw [if_neg (by decide), if_neg (by decide), if_neg (by decide), if_pos rfl, d2, bits_eq ws.1 g3 g4 d4]
      rfl
  · rw [if_neg f3]
    have tot : ∃ x : Int, (if f = 0 then some (hV u 230 (10 + 3 * p), u) else if f = 1 then some (hV u 230 (11 + 3 * p), u) else if f = 2 then some (hV u 230 (12 + 3 * p), u) else if f = 4 then some (qLost (hV u 230) p, u) else if f = 5 then some (qGoal (hV u 230) p, u) else some (-1, u)) = some (x, u) := by
      repeat' split
      all_goals exact ⟨_, rfl⟩
    obtain ⟨x, hx⟩ := tot
    rw [if_neg f3, hx]
    exact ⟨x, hV u 232, rfl, by rw [hput_self]⟩
