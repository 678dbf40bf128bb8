theorem and_2 {m x y : Nat} : m &&& (2 ^ x ||| 2 ^ y) = 0 ↔ ¬ (m.testBit x = true ∨ m.testBit y = true) := by
  have tb : ∀ r, (m &&& (2 ^ x ||| 2 ^ y)).testBit r = (m.testBit r && (decide (x = r) || decide (y = r))) := fun r => by rw [Nat.testBit_and, Nat.testBit_or, Nat.testBit_two_pow, Nat.testBit_two_pow]
  constructor
  · intro h z
    rcases z with z | z
    · have t := tb x
      rw [h, z, decide_eq_true (show x = x from rfl), Nat.zero_testBit, Bool.true_or] at t
      exact absurd t (by decide)
    · have t := tb y
      rw [h, z, decide_eq_true (show y = y from rfl), Nat.zero_testBit, Bool.or_true] at t
      exact absurd t (by decide)
  · intro h
    apply Nat.eq_of_testBit_eq
    intro r
    rw [tb, Nat.zero_testBit]
    by_cases e1 : x = r
    · subst e1
      by_cases e : m.testBit x = true
      · exact absurd (Or.inl e) h
      · rw [Bool.not_eq_true] at e
        rw [e, Bool.false_and]
    · by_cases e2 : y = r
      · subst e2
        by_cases e : m.testBit y = true
        · exact absurd (Or.inr e) h
        · rw [Bool.not_eq_true] at e
          rw [e, Bool.false_and]
      · rw [decide_eq_false e1, decide_eq_false e2, Bool.or_false, Bool.and_false]
def opnX (S : Nat → Int) (e : Int) (p : Nat) : Nat → Bool := fun b => decide ((b : Int) = e ∨ 0 < qLeft S p b)
theorem x_reL {u : hS} {s t p a : Nat} {S : Nat → Int} (r : RepS u s t S) (ws : WS S) (wv : WV S) (hp : (p : Int) < S 4) (e l4 m0 : Int) (K : Nat → Int → Int → Int → Int → hM) : ∀ (k n i m : Nat), k < n → S 2 = ((i + k : Nat) : Int) → isSet S (opnX S e p) a m → ∃ m' : Nat, m_X4_reachOf_L30 K n s p e m l4 m0 i u = (if (m' : Int) ≠ m0 then K s p e m' (w32 (l4 + 1)) u else some ((m' : Int), u)) ∧ isSet S (opnX S e p) a m' ∧ (∀ r, m.testBit r = true → m'.testBit r = true) ∧ (m' = m → ∀ b : Nat, i ≤ b → b < i + k → opnX S e p b = true → m.testBit (S (94 + 2 * b)).toNat = m.testBit (S (94 + 2 * b + 1)).toNat) := by
  have ht := r.ht
  have ha := r.ha
  have w0 := ws.1
  have w2 := ws.2.2.1
  intro k
  induction k with
  | zero =>
    intro n i m hn hv hm
    obtain ⟨n, rfl⟩ : ∃ k, n = k + 1 := ⟨n - 1, by omega⟩
    refine ⟨m, ?_, hm, fun _ h => h, fun _ b h1 h2 => by omega⟩
    simp only [m_X4_reachOf_L30, m_X4_reachOf_L127, hgI_k, hgR_k, hpI_k, hpR_k, hpZ_k, haI_k, haR_k, hsI_k, hsZ_k, hlen_k, hlet_p, hret_p, hretZ_0, hretZ_1, hif_p, okk_setV, okk_setF, nV, nF, fV, vF, StA.k0 ha, StA.k1 ha, StA.k2 ha, StA.k3 ha, StA.k4 ha, StA.n1 ha, StA.n2 ha, StA.n3 ha, StA.n4 ha, StA.f2 ha, StA.f3 ha, StA.f4 ha, StA.f5 ha, r.to, TwA.k0 ht, TwA.k1 ht, TwA.k2 ht, TwA.k3 ht, TwA.k4 ht, TwA.k5 ht, TwA.k6 ht, TwA.k7 ht, TwA.k8 ht, TwA.k9 ht, TwA.k10 ht, TwA.k11 ht, TwA.k12 ht, TwA.k13 ht, TwA.k14 ht, TwA.k15 ht, TwA.k16 ht, TwA.k17 ht, TwA.n2 ht, TwA.n3 ht, TwA.n4 ht, TwA.n6 ht, TwA.n7 ht, TwA.n8 ht, TwA.n9 ht, TwA.n10 ht, TwA.n11 ht, TwA.n12 ht, TwA.n13 ht, TwA.n14 ht, TwA.n15 ht, TwA.n16 ht, TwA.n17 ht, TwA.f2 ht, TwA.f3 ht, TwA.f5 ht, TwA.f6 ht, TwA.f8 ht, TwA.f9 ht, TwA.f11 ht, TwA.f12 ht, TwA.f13 ht, TwA.f14 ht, TwA.f15 ht, TwA.b0 ht, TwA.b1 ht, TwA.b2 ht, TwA.g0 ht, TwA.g1 ht, TwA.g2 ht, r.v2]
    rw [if_pos (by omega)]
  | succ k ih =>
    intro n i m hn hv hm
    obtain ⟨n, rfl⟩ : ∃ k, n = k + 1 := ⟨n - 1, by omega⟩
    have hi : i < 9 := by omega
    have hi2 : (i : Int) < S 2 := by omega
    have z := wv.1 i hi2
    obtain ⟨x, hx⟩ : ∃ x : Nat, S (94 + 2 * i) = x := ⟨(S (94 + 2 * i)).toNat, by omega⟩
    obtain ⟨y, hy⟩ : ∃ y : Nat, S (94 + 2 * i + 1) = y := ⟨(S (94 + 2 * i + 1)).toNat, by omega⟩
    rw [hx, hy] at z
    have px : 2 ^ x < 512 := p2lt (by omega)
    have py : 2 ^ y < 512 := p2lt (by omega)
    have o1 : iorZ ((2 ^ x : Nat) : Int) ((2 ^ y : Nat) : Int) = ((2 ^ x ||| 2 ^ y : Nat) : Int) := iorZ_n (Nat.lt_trans px (by decide)) (Nat.lt_trans py (by decide))
    have pxy : 2 ^ x ||| 2 ^ y < 512 := Nat.or_lt_two_pow (n := 9) px py
    have hm5 := hm.1
    have o2 : iandZ (m : Int) ((2 ^ x ||| 2 ^ y : Nat) : Int) = ((m &&& (2 ^ x ||| 2 ^ y) : Nat) : Int) := iandZ_n (by omega)
    have o3 : iorZ (m : Int) ((2 ^ x ||| 2 ^ y : Nat) : Int) = ((m ||| (2 ^ x ||| 2 ^ y) : Nat) : Int) := iorZ_n (by omega) (by omega)
    have zc : (((m &&& (2 ^ x ||| 2 ^ y) : Nat) : Int) = 0) = ¬ (m.testBit x = true ∨ m.testBit y = true) := by
      rw [← and_2]
      apply propext
      omega
    have s1 := ishl_1 x (by omega)
    have s2 := ishl_1 y (by omega)
    simp only [m_X4_reachOf_L30, m_X4_reachOf_L101, m_X4_reachOf_L106, hgI_k, hgR_k, hpI_k, hpR_k, hpZ_k, haI_k, haR_k, hsI_k, hsZ_k, hlen_k, hlet_p, hret_p, hretZ_0, hretZ_1, hif_p, okk_setV, okk_setF, nV, nF, fV, vF, haI_n, hcallV_b, hbind_s, StA.k0 ha, StA.k1 ha, StA.k2 ha, StA.k3 ha, StA.k4 ha, StA.n1 ha, StA.n2 ha, StA.n3 ha, StA.n4 ha, StA.f2 ha, StA.f3 ha, StA.f4 ha, StA.f5 ha, r.to, TwA.k0 ht, TwA.k1 ht, TwA.k2 ht, TwA.k3 ht, TwA.k4 ht, TwA.k5 ht, TwA.k6 ht, TwA.k7 ht, TwA.k8 ht, TwA.k9 ht, TwA.k10 ht, TwA.k11 ht, TwA.k12 ht, TwA.k13 ht, TwA.k14 ht, TwA.k15 ht, TwA.k16 ht, TwA.k17 ht, TwA.n2 ht, TwA.n3 ht, TwA.n4 ht, TwA.n6 ht, TwA.n7 ht, TwA.n8 ht, TwA.n9 ht, TwA.n10 ht, TwA.n11 ht, TwA.n12 ht, TwA.n13 ht, TwA.n14 ht, TwA.n15 ht, TwA.n16 ht, TwA.n17 ht, TwA.f2 ht, TwA.f3 ht, TwA.f5 ht, TwA.f6 ht, TwA.f8 ht, TwA.f9 ht, TwA.f11 ht, TwA.f12 ht, TwA.f13 ht, TwA.f14 ht, TwA.f15 ht, TwA.b0 ht, TwA.b1 ht, TwA.b2 ht, TwA.g0 ht, TwA.g1 ht, TwA.g2 ht, r.v2, hi, r.br0 i hi2, r.br1 i hi2, hx, hy, s1, s2, o1, o2, o3, zc, x_leftTo r ws hp hi2, ix_s (show i < 1000000 by omega)]
    rw [if_neg (show ¬ (i : Int) ≥ S 2 by omega)]
    have skip : (m.testBit x = m.testBit y ∨ ¬ opnX S e p i = true) → ∃ m' : Nat, m_X4_reachOf_L30 K n s p e m l4 m0 ((i + 1 : Nat) : Int) u = (if (m' : Int) ≠ m0 then K s p e m' (w32 (l4 + 1)) u else some ((m' : Int), u)) ∧ isSet S (opnX S e p) a m' ∧ (∀ r, m.testBit r = true → m'.testBit r = true) ∧ (m' = m → ∀ b : Nat, i ≤ b → b < i + (k + 1) → opnX S e p b = true → m.testBit (S (94 + 2 * b)).toNat = m.testBit (S (94 + 2 * b + 1)).toNat) := by
      intro hc
      obtain ⟨m', e1, e2, e3, e4⟩ := ih n (i + 1) m (by omega) (by omega) hm
      refine ⟨m', e1, e2, e3, fun q b h1 h2 h3 => ?_⟩
      by_cases eb : b = i
      · subst eb
        rw [hx, hy, Int.toNat_natCast, Int.toNat_natCast]
        rcases hc with hc | hc
        · exact hc
        · exact absurd h3 hc
      · exact e4 q b (by omega) (by omega) h3
    have add : (m.testBit x = true ∨ m.testBit y = true) → opnX S e p i = true → ∃ m' : Nat, m_X4_reachOf_L30 K n s p e ((m ||| (2 ^ x ||| 2 ^ y) : Nat) : Int) l4 m0 ((i + 1 : Nat) : Int) u = (if (m' : Int) ≠ m0 then K s p e m' (w32 (l4 + 1)) u else some ((m' : Int), u)) ∧ isSet S (opnX S e p) a m' ∧ (∀ r, m.testBit r = true → m'.testBit r = true) ∧ (m' = m → ∀ b : Nat, i ≤ b → b < i + (k + 1) → opnX S e p b = true → m.testBit (S (94 + 2 * b)).toNat = m.testBit (S (94 + 2 * b + 1)).toNat) := by
      intro h1 h2
      obtain ⟨m', e1, e2, e3, e4⟩ := ih n (i + 1) (m ||| (2 ^ x ||| 2 ^ y)) (by omega) (by omega) (set_add w0 hm hi2 h2 hx hy (by omega) (by omega) h1)
      have sub : ∀ r, m.testBit r = true → (m ||| (2 ^ x ||| 2 ^ y)).testBit r = true := fun r hr => by rw [tb_add, hr, Bool.true_or]
      refine ⟨m', e1, e2, fun r hr => e3 r (sub r hr), fun q b g1 g2 g3 => ?_⟩
      have inx : m.testBit x = true := by
        rw [← q]
        exact e3 x (by rw [tb_add, decide_eq_true (show x = x from rfl), Bool.true_or, Bool.or_true])
      have iny : m.testBit y = true := by
        rw [← q]
        exact e3 y (by rw [tb_add, decide_eq_true (show y = y from rfl), Bool.or_true, Bool.or_true])
      have mm : m ||| (2 ^ x ||| 2 ^ y) = m := by
        apply Nat.eq_of_testBit_eq
        intro r
        rw [tb_add]
        by_cases f1 : x = r
        · subst f1
          rw [inx, Bool.true_or]
        · by_cases f2 : y = r
          · subst f2
            rw [iny, Bool.true_or]
          · rw [decide_eq_false f1, decide_eq_false f2, Bool.or_false, Bool.or_false]
      by_cases eb : b = i
      · subst eb
        rw [hx, hy, Int.toNat_natCast, Int.toNat_natCast, inx, iny]
      · rw [mm] at e4
        exact e4 q b (by omega) (by omega) g3
    by_cases c1 : m.testBit x = true ∨ m.testBit y = true
    · rw [if_neg (fun z => z c1)]
      by_cases c2 : (i : Int) = e
      · rw [if_pos c2]
        exact add c1 (decide_eq_true (Or.inl c2))
      · rw [if_neg c2]
        by_cases c3 : qLeft S p i ≤ 0
        · rw [if_pos c3]
          refine skip (Or.inr (fun z => ?_))
          have z := of_decide_eq_true z
          omega
        · rw [if_neg c3]
          exact add c1 (decide_eq_true (Or.inr (by omega)))
    · rw [if_pos c1]
      refine skip (Or.inl ?_)
      have d1 : m.testBit x = false := by
        rw [← Bool.not_eq_true]
        exact fun z => c1 (Or.inl z)
      have d2 : m.testBit y = false := by
        rw [← Bool.not_eq_true]
        exact fun z => c1 (Or.inr z)
      rw [d1, d2]
theorem x_reO {u : hS} {s t p a : Nat} {S : Nat → Int} (r : RepS u s t S) (ws : WS S) (wv : WV S) (hp : (p : Int) < S 4) (e : Int) : ∀ (j n l m : Nat), j < n → S 0 ≤ ((l + j : Nat) : Int) → l ≤ 8 → isSet S (opnX S e p) a m → (l : Int) ≤ cnt m (S 0).toNat → ∃ m' : Nat, m_X4_reachOf_L12 n s p e m l u = some ((m' : Int), u) ∧ isSet S (opnX S e p) a m' ∧ isClo S (opnX S e p) m' := by
  have ht := r.ht
  have ha := r.ha
  have w0 := ws.1
  have w2 := ws.2.2.1
  have full : ∀ m : Nat, isSet S (opnX S e p) a m → S 0 ≤ cnt m (S 0).toNat → isClo S (opnX S e p) m := by
    intro m _ hc b hb _
    have z := wv.1 b hb
    rw [cnt_full (by omega) _ (show (S (94 + 2 * b)).toNat < (S 0).toNat by omega), cnt_full (by omega) _ (show (S (94 + 2 * b + 1)).toNat < (S 0).toNat by omega)]
  intro j
  induction j with
  | zero =>
    intro n l m hn hv hl hm hc
    obtain ⟨n, rfl⟩ : ∃ k, n = k + 1 := ⟨n - 1, by omega⟩
    refine ⟨m, ?_, hm, full m hm (by omega)⟩
    simp only [m_X4_reachOf_L12, m_X4_reachOf_L127, hgI_k, hgR_k, hpI_k, hpR_k, hpZ_k, haI_k, haR_k, hsI_k, hsZ_k, hlen_k, hlet_p, hret_p, hretZ_0, hretZ_1, hif_p, okk_setV, okk_setF, nV, nF, fV, vF, StA.k0 ha, StA.k1 ha, StA.k2 ha, StA.k3 ha, StA.k4 ha, StA.n1 ha, StA.n2 ha, StA.n3 ha, StA.n4 ha, StA.f2 ha, StA.f3 ha, StA.f4 ha, StA.f5 ha, r.to, TwA.k0 ht, TwA.k1 ht, TwA.k2 ht, TwA.k3 ht, TwA.k4 ht, TwA.k5 ht, TwA.k6 ht, TwA.k7 ht, TwA.k8 ht, TwA.k9 ht, TwA.k10 ht, TwA.k11 ht, TwA.k12 ht, TwA.k13 ht, TwA.k14 ht, TwA.k15 ht, TwA.k16 ht, TwA.k17 ht, TwA.n2 ht, TwA.n3 ht, TwA.n4 ht, TwA.n6 ht, TwA.n7 ht, TwA.n8 ht, TwA.n9 ht, TwA.n10 ht, TwA.n11 ht, TwA.n12 ht, TwA.n13 ht, TwA.n14 ht, TwA.n15 ht, TwA.n16 ht, TwA.n17 ht, TwA.f2 ht, TwA.f3 ht, TwA.f5 ht, TwA.f6 ht, TwA.f8 ht, TwA.f9 ht, TwA.f11 ht, TwA.f12 ht, TwA.f13 ht, TwA.f14 ht, TwA.f15 ht, TwA.b0 ht, TwA.b1 ht, TwA.b2 ht, TwA.g0 ht, TwA.g1 ht, TwA.g2 ht, r.v0]
    rw [if_pos (by omega)]
  | succ j ih =>
    intro n l m hn hv hl hm hc
    obtain ⟨n, rfl⟩ : ∃ k, n = k + 1 := ⟨n - 1, by omega⟩
    simp only [m_X4_reachOf_L12, m_X4_reachOf_L127, hgI_k, hgR_k, hpI_k, hpR_k, hpZ_k, haI_k, haR_k, hsI_k, hsZ_k, hlen_k, hlet_p, hret_p, hretZ_0, hretZ_1, hif_p, okk_setV, okk_setF, nV, nF, fV, vF, StA.k0 ha, StA.k1 ha, StA.k2 ha, StA.k3 ha, StA.k4 ha, StA.n1 ha, StA.n2 ha, StA.n3 ha, StA.n4 ha, StA.f2 ha, StA.f3 ha, StA.f4 ha, StA.f5 ha, r.to, TwA.k0 ht, TwA.k1 ht, TwA.k2 ht, TwA.k3 ht, TwA.k4 ht, TwA.k5 ht, TwA.k6 ht, TwA.k7 ht, TwA.k8 ht, TwA.k9 ht, TwA.k10 ht, TwA.k11 ht, TwA.k12 ht, TwA.k13 ht, TwA.k14 ht, TwA.k15 ht, TwA.k16 ht, TwA.k17 ht, TwA.n2 ht, TwA.n3 ht, TwA.n4 ht, TwA.n6 ht, TwA.n7 ht, TwA.n8 ht, TwA.n9 ht, TwA.n10 ht, TwA.n11 ht, TwA.n12 ht, TwA.n13 ht, TwA.n14 ht, TwA.n15 ht, TwA.n16 ht, TwA.n17 ht, TwA.f2 ht, TwA.f3 ht, TwA.f5 ht, TwA.f6 ht, TwA.f8 ht, TwA.f9 ht, TwA.f11 ht, TwA.f12 ht, TwA.f13 ht, TwA.f14 ht, TwA.f15 ht, TwA.b0 ht, TwA.b1 ht, TwA.b2 ht, TwA.g0 ht, TwA.g1 ht, TwA.g2 ht, r.v0]
    by_cases hg : (l : Int) ≥ S 0
    · rw [if_pos hg]
      exact ⟨m, rfl, hm, full m hm (by omega)⟩
    · rw [if_neg hg]
      obtain ⟨m', e1, e2, e3, e4⟩ := x_reL (a := a) r ws wv hp e (l : Int) (m : Int) (m_X4_reachOf_L12 n) (S 2).toNat 1000000000 0 m (by omega) (by omega) hm
      have e1' : m_X4_reachOf_L30 (m_X4_reachOf_L12 n) 1000000000 s p e m l m 0 u = (if (m' : Int) ≠ (m : Int) then m_X4_reachOf_L12 n s p e m' (w32 ((l : Int) + 1)) u else some ((m' : Int), u)) := e1
      rw [e1']
      by_cases hq : m' = m
      · rw [if_neg (by omega)]
        refine ⟨m', rfl, e2, fun b hb ho => ?_⟩
        have z := e4 hq b (by omega) (by omega) ho
        rw [hq]
        exact z
      · rw [if_pos (by omega), ix_s (by omega)]
        have lt : cnt m (S 0).toNat < cnt m' (S 0).toNat := by
          have ex : ∃ x, ¬ m.testBit x = true ∧ m'.testBit x = true := by
            apply Classical.byContradiction
            intro hn
            apply hq
            apply Nat.eq_of_testBit_eq
            intro x
            by_cases g1 : m.testBit x = true
            · rw [g1, e3 x g1]
            · have g2 : ¬ m'.testBit x = true := fun z => hn ⟨x, g1, z⟩
              rw [Bool.not_eq_true] at g1 g2
              rw [g1, g2]
          obtain ⟨x, g1, g2⟩ := ex
          exact cnt_lt e3 (by have := (e2.2.2 x g2).1; omega) g1 g2
        exact ih n (l + 1) m' (by omega) (by omega) (by omega) e2 (by omega)
theorem x_reachOf {u : hS} {s t p : Nat} {S : Nat → Int} (r : RepS u s t S) (ws : WS S) (wv : WV S) (hp : (p : Int) < S 4) (e : Int) : ∃ m' a : Nat, S (10 + 3 * p) = a ∧ m_X4_reachOf s p e u = some ((m' : Int), u) ∧ isSet S (opnX S e p) a m' ∧ isClo S (opnX S e p) m' := by
  have ha := r.ha
  have w0 := ws.1
  have w4 := ws.2.2.2.2.1
  have z := (wv.2.2.1 p hp).1
  have i1 : p < 4 := by omega
  obtain ⟨a, hA⟩ : ∃ a : Nat, S (10 + 3 * p) = a := ⟨(S (10 + 3 * p)).toNat, by omega⟩
  have a8 : a < 9 := by omega
  have ini : isSet S (opnX S e p) a (2 ^ a) := by
    have tb : ∀ r, (2 ^ a).testBit r = decide (a = r) := fun r => Nat.testBit_two_pow
    have c0 : 0 < cnt (2 ^ a) (S 0).toNat := by
      have h1 := sumU_lt (fun _ => 0) (fun r => if (2 ^ a).testBit r = true then 1 else 0) (S 0).toNat 0 a (fun r _ _ => by
        show (0 : Int) ≤ (if (2 ^ a).testBit r = true then (1 : Int) else 0)
        split <;> omega) (by omega) (by omega) (by
        show (0 : Int) < (if (2 ^ a).testBit a = true then (1 : Int) else 0)
        rw [if_pos (by rw [tb]; exact decide_eq_true rfl)]
        omega)
      rw [sumU_0] at h1
      exact h1
    refine ⟨p2lt a8, by rw [tb]; exact decide_eq_true rfl, fun r hr => ?_⟩
    rw [tb] at hr
    have er := of_decide_eq_true hr
    subst er
    exact ⟨by omega, 0, by omega, rfl⟩
  have c1 : (1 : Int) ≤ cnt (2 ^ a) (S 0).toNat := by
    obtain ⟨_, k, h, _⟩ := ini.2.2 a ini.2.1
    omega
  obtain ⟨m', e1, e2, e3⟩ := x_reO r ws wv hp e 8 1000000000 1 (2 ^ a) (by omega) (by omega) (by omega) ini c1
  refine ⟨m', a, hA, ?_, e2, e3⟩
  simp only [m_X4_reachOf, hgI_k, hgR_k, hpI_k, hpR_k, hpZ_k, haI_k, haR_k, hsI_k, hsZ_k, hlen_k, hlet_p, hret_p, hretZ_0, hretZ_1, hif_p, okk_setV, okk_setF, nV, nF, fV, vF, haI_n, StA.k0 ha, StA.k1 ha, StA.k2 ha, StA.k3 ha, StA.k4 ha, StA.n1 ha, StA.n2 ha, StA.n3 ha, StA.n4 ha, StA.f2 ha, StA.f3 ha, StA.f4 ha, StA.f5 ha, i1, r.at p hp, hA, ishl_1 a a8]
  exact e1
