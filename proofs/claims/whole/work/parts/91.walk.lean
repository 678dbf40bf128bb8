/-! the class's walk; twins -/
theorem accN_bits2 (P : Nat → Prop) [DecidablePred P] : ∀ (k i m : Nat), i + k ≤ 9 → m < 512 → ∃ M : Nat, accN (fun c a => if P c then iorZ a (ishlZ 1 c) else a) k i (m : Int) = (M : Int) ∧ M < 512 ∧ ∀ r, M.testBit r = (m.testBit r || decide (i ≤ r ∧ r < i + k ∧ P r)) := by
  intro k
  induction k with
  | zero =>
    intro i m h hm
    refine ⟨m, rfl, hm, fun r => ?_⟩
    rw [decide_eq_false (by omega), Bool.or_false]
  | succ k ih =>
    intro i m h hm
    by_cases hp : P i
    · have hM : m ||| 2 ^ i < 512 := Nat.or_lt_two_pow (n := 9) hm (p2lt (by omega))
      obtain ⟨M, e1, e2, e3⟩ := ih (i + 1) (m ||| 2 ^ i) (by omega) hM
      refine ⟨M, ?_, e2, fun r => ?_⟩
      · rw [accN_s, if_pos hp, ishl_1 i (by omega), iorZ_n (a := m) (b := 2 ^ i) (by omega) (Nat.lt_trans (p2lt (by omega)) (by decide))]
        exact e1
      · rw [e3, tb_or2, Bool.or_assoc]
        congr 1
        by_cases e : i = r
        · subst e
          rw [decide_eq_true rfl, Bool.true_or, decide_eq_true ⟨by omega, by omega, hp⟩]
        · rw [decide_eq_false e, Bool.false_or]
          exact decide_eq_decide.mpr ⟨fun z => ⟨by omega, by omega, z.2.2⟩, fun z => ⟨by omega, by omega, z.2.2⟩⟩
    · obtain ⟨M, e1, e2, e3⟩ := ih (i + 1) m (by omega) hm
      refine ⟨M, ?_, e2, fun r => ?_⟩
      · rw [accN_s, if_neg hp]
        exact e1
      · rw [e3]
        congr 1
        refine decide_eq_decide.mpr ⟨fun z => ⟨by omega, by omega, z.2.2⟩, fun z => ?_⟩
        have : i ≠ r := fun e => hp (e ▸ z.2.2)
        exact ⟨by omega, by omega, z.2.2⟩
abbrev twB (S : Nat → Int) (b c : Nat) : Prop := qEnd S (94 + 2 * c) (S (94 + 2 * b)) = S (95 + 2 * b)
theorem twin_bits {S : Nat → Int} {b : Nat} (hb : b < 9) : ∃ M : Nat, qTwin (twn S) b = (M : Int) ∧ M < 512 ∧ ∀ r, M.testBit r = decide (r < b ∧ twB S b r) := by
  have t : ∀ k, 94 ≤ k → k < 112 → twn S k = S k := fun k h1 h2 => if_pos (Or.inr (Or.inr ⟨h1, h2⟩))
  obtain ⟨M, e1, e2, e3⟩ := accN_bits2 (fun c => qEnd (twn S) (94 + 2 * c) (twn S (94 + 2 * b)) = twn S (95 + 2 * b)) b 0 0 (by omega) (by omega)
  refine ⟨M, e1, e2, fun r => ?_⟩
  rw [e3, Nat.zero_testBit, Bool.false_or]
  refine decide_eq_decide.mpr ?_
  by_cases hr : r < b
  · have q : qEnd (twn S) (94 + 2 * r) (twn S (94 + 2 * b)) = qEnd S (94 + 2 * r) (S (94 + 2 * b)) := by
      unfold qEnd
      rw [t (94 + 2 * r) (by omega) (by omega), t (94 + 2 * r + 1) (by omega) (by omega), t (94 + 2 * b) (by omega) (by omega)]
    rw [q, t (95 + 2 * b) (by omega) (by omega)]
    exact ⟨fun z => ⟨hr, z.2.2⟩, fun z => ⟨by omega, by omega, z.2⟩⟩
  · exact ⟨fun z => absurd z.2.1 (by omega), fun z => absurd z.1 hr⟩
theorem twB_tw {S : Nat → Int} (wv : WV S) {b c : Nat} (hb : (b : Int) < S 2) (ne : S (94 + 2 * b) ≠ S (95 + 2 * b)) (h : twB S b c) : isTw S c b := by
  have z := wv.1 b hb
  have e95 : 94 + 2 * b + 1 = 95 + 2 * b := by omega
  rw [e95] at z
  intro q
  rcases qEnd_cases h z.2.1 with ⟨h1, h2⟩ | ⟨h1, h2⟩
  · unfold qEnd
    rw [h1, h2, e95]
  · unfold qEnd
    rw [h1, h2, e95]
    by_cases q1 : S (95 + 2 * b) = q
    · rw [if_pos q1, if_neg (fun y => ne (by omega)), if_pos q1]
    · rw [if_neg q1, if_neg q1]
/-- the first open one of its twins -/
def fsO (S : Nat → Int) (L : Nat → Int) (b : Nat) : Bool := decide (0 < L b ∧ ∀ c, c < b → ¬ (twB S b c ∧ 0 < L c))
theorem fsO_1 {S : Nat → Int} (L : Nat → Int) (b : Nat) (h : fsO S L b = true) : 0 < L b := (of_decide_eq_true h).1
theorem fsO_2 {S : Nat → Int} (wv : WV S) {L : Nat → Int} {b : Nat} (hb : (b : Int) < S 2) (ne : S (94 + 2 * b) ≠ S (95 + 2 * b)) (o : 0 < L b) (h : fsO S L b = false) : ∃ c, c < b ∧ isTw S c b ∧ 0 < L c := by
  have z := of_decide_eq_false h
  apply Classical.byContradiction
  intro no
  refine z ⟨o, fun c hc y => no ⟨c, hc, twB_tw wv hb ne y.1, y.2⟩⟩
theorem x_firL {u : hS} {s t : Nat} {S : Nat → Int} (r : RepS u s t S) {l : Nat} {L : Nat → Int} (kl : okk u l 20) (nl : hN u l = 9) (el : hV u l = L) {b M : Nat} (hb : b < 9) (eM : hV u (t + 4) b = (M : Int)) (M5 : M < 512) (tb : ∀ c, M.testBit c = decide (c < b ∧ twB S b c)) : ∀ k n i : Nat, k < n → i + k = b → m_X1_isFirstOpen_L21 n (t + 1) b l i u = some (if ∀ c, c < b → i ≤ c → ¬ (twB S b c ∧ 0 < L c) then 1 else 0, u) := by
  have ht := r.ht
  intro k
  induction k with
  | zero =>
    intro n i hn hi
    obtain ⟨n, rfl⟩ : ∃ k, n = k + 1 := ⟨n - 1, by omega⟩
    simp only [m_X1_isFirstOpen_L21, hgI_k, hgR_k, hpI_k, hpR_k, hpZ_k, haI_k, haR_k, hsI_k, hsZ_k, hlen_k, hlet_p, hret_p, hretZ_0, hretZ_1, hif_p, okk_setV, okk_setF, nV, nF, fV, vF]
    rw [if_pos (by omega), if_pos (fun c h1 h2 => by omega)]
  | succ k ih =>
    intro n i hn hi
    obtain ⟨n, rfl⟩ : ∃ k, n = k + 1 := ⟨n - 1, by omega⟩
    have i9 : i < 9 := by omega
    have bt := bit_at M M5 i (by omega)
    rw [tb i] at bt
    simp only [m_X1_isFirstOpen_L21, m_X1_isFirstOpen_L47, hgI_k, hgR_k, hpI_k, hpR_k, hpZ_k, haI_k, haR_k, hsI_k, hsZ_k, hlen_k, hlet_p, hret_p, hretZ_0, hretZ_1, hif_p, okk_setV, okk_setF, nV, nF, fV, vF, haI_n, TwA.k0 ht, TwA.k1 ht, TwA.k2 ht, TwA.k3 ht, TwA.k4 ht, TwA.k5 ht, TwA.k6 ht, TwA.k7 ht, TwA.k8 ht, TwA.k9 ht, TwA.k10 ht, TwA.k11 ht, TwA.k12 ht, TwA.k13 ht, TwA.k14 ht, TwA.k15 ht, TwA.k16 ht, TwA.k17 ht, TwA.n2 ht, TwA.n3 ht, TwA.n4 ht, TwA.n6 ht, TwA.n7 ht, TwA.n8 ht, TwA.n9 ht, TwA.n10 ht, TwA.n11 ht, TwA.n12 ht, TwA.n13 ht, TwA.n14 ht, TwA.n15 ht, TwA.n16 ht, TwA.n17 ht, TwA.f2 ht, TwA.f3 ht, TwA.f5 ht, TwA.f6 ht, TwA.f8 ht, TwA.f9 ht, TwA.f11 ht, TwA.f12 ht, TwA.f13 ht, TwA.f14 ht, TwA.f15 ht, TwA.b0 ht, TwA.b1 ht, TwA.b2 ht, TwA.g0 ht, TwA.g1 ht, TwA.g2 ht, hb, eM, bt, kl, nl, el, i9, ix_s (show i < 1000000 by omega), ih n (i + 1) (by omega) (by omega)]
    rw [if_neg (by omega)]
    by_cases tw : twB S b i
    · rw [if_pos (decide_eq_true ⟨by omega, tw⟩), if_neg (by decide)]
      by_cases o : 0 < L i
      · rw [if_neg (by omega), if_neg (fun z => z i (by omega) (by omega) ⟨tw, o⟩)]
      · rw [if_pos (by omega)]
        by_cases y : ∀ c, c < b → i + 1 ≤ c → ¬ (twB S b c ∧ 0 < L c)
        · rw [if_pos y, if_pos (fun c h1 h2 h3 => by
            by_cases e : c = i
            · subst e
              exact o h3.2
            · exact y c h1 (by omega) h3)]
        · rw [if_neg y, if_neg (fun z => y (fun c h1 h2 => z c h1 (by omega)))]
    · rw [if_neg (show ¬ decide (i < b ∧ twB S b i) = true from fun z => tw (of_decide_eq_true z).2), if_pos rfl]
      by_cases y : ∀ c, c < b → i + 1 ≤ c → ¬ (twB S b c ∧ 0 < L c)
      · rw [if_pos y, if_pos (fun c h1 h2 h3 => by
          by_cases e : c = i
          · subst e
            exact tw h3.1
          · exact y c h1 (by omega) h3)]
      · rw [if_neg y, if_neg (fun z => y (fun c h1 h2 => z c h1 (by omega)))]
theorem x_first {u : hS} {s t : Nat} {S : Nat → Int} (r : RepS u s t S) (ws : WS S) {l : Nat} {L : Nat → Int} (kl : okk u l 20) (nl : hN u l = 9) (el : hV u l = L) {b : Nat} (hb : (b : Int) < S 2) (et : hV u (t + 4) b = qTwin (twn S) b) : m_X1_isFirstOpen (t + 1) b l u = some (if fsO S L b = true then 1 else 0, u) := by
  have w2 := ws.2.2.1
  have ht := r.ht
  have b9 : b < 9 := by omega
  obtain ⟨M, e1, e2, e3⟩ := twin_bits (S := S) b9
  rw [e1] at et
  have l0 := x_firL r kl nl el b9 et e2 e3 b 1000000000 0 (by omega) (by omega)
  have l0' : m_X1_isFirstOpen_L21 1000000000 (t + 1) b l 0 u = _ := l0
  simp only [m_X1_isFirstOpen, hgI_k, hgR_k, hpI_k, hpR_k, hpZ_k, haI_k, haR_k, hsI_k, hsZ_k, hlen_k, hlet_p, hret_p, hretZ_0, hretZ_1, hif_p, okk_setV, okk_setF, nV, nF, fV, vF, haI_n, TwA.k0 ht, TwA.k1 ht, TwA.k2 ht, TwA.k3 ht, TwA.k4 ht, TwA.k5 ht, TwA.k6 ht, TwA.k7 ht, TwA.k8 ht, TwA.k9 ht, TwA.k10 ht, TwA.k11 ht, TwA.k12 ht, TwA.k13 ht, TwA.k14 ht, TwA.k15 ht, TwA.k16 ht, TwA.k17 ht, TwA.n2 ht, TwA.n3 ht, TwA.n4 ht, TwA.n6 ht, TwA.n7 ht, TwA.n8 ht, TwA.n9 ht, TwA.n10 ht, TwA.n11 ht, TwA.n12 ht, TwA.n13 ht, TwA.n14 ht, TwA.n15 ht, TwA.n16 ht, TwA.n17 ht, TwA.f2 ht, TwA.f3 ht, TwA.f5 ht, TwA.f6 ht, TwA.f8 ht, TwA.f9 ht, TwA.f11 ht, TwA.f12 ht, TwA.f13 ht, TwA.f14 ht, TwA.f15 ht, TwA.b0 ht, TwA.b1 ht, TwA.b2 ht, TwA.g0 ht, TwA.g1 ht, TwA.g2 ht, b9, kl, nl, el, et]
  unfold fsO
  by_cases o : 0 < L b
  · rw [if_pos o]
    by_cases m0 : M = 0
    · rw [if_neg (show ¬ (M : Int) ≠ 0 by omega), if_pos (decide_eq_true ⟨o, fun c hc y => by
        have z := e3 c
        rw [m0, Nat.zero_testBit] at z
        exact absurd ⟨hc, y.1⟩ (of_decide_eq_false z.symm)⟩)]
    · rw [if_pos (show (M : Int) ≠ 0 by omega), l0']
      by_cases y : ∀ c, c < b → ¬ (twB S b c ∧ 0 < L c)
      · rw [if_pos (fun c h _ => y c h), if_pos (decide_eq_true ⟨o, y⟩)]
      · rw [if_neg (fun z => y (fun c h => z c h (by omega))), if_neg (fun z => y (of_decide_eq_true z).2)]
  · rw [if_neg o, if_neg (fun z => o (of_decide_eq_true z).1)]
theorem x_teL {u : hS} {t p l : Nat} {S : Nat → Int} (rs : ∀ D, RepS (hput u l D) 30 t S) (ws : WS S) (wv : WV S) (kl : okk u l 20) (nl : hN u l = 9) (hp : (p : Int) < S 4) : ∀ (k n i : Nat) (D : Nat → Int), k < n → S 2 = ((i + k : Nat) : Int) → ∃ D', m_X4_tellLeft_L2 n 30 p l i (hput u l D) = some (0, hput u l D') ∧ (∀ j, j < i → D' j = D j) ∧ ∀ j, i ≤ j → j < i + k → D' j = qLeft S p j := by
  have w2 := ws.2.2.1
  intro k
  induction k with
  | zero =>
    intro n i D hn hv
    obtain ⟨n, rfl⟩ : ∃ k, n = k + 1 := ⟨n - 1, by omega⟩
    have r := rs D
    have ht := r.ht
    have ha := r.ha
    refine ⟨D, ?_, fun _ _ => rfl, fun j h1 h2 => by omega⟩
    simp only [m_X4_tellLeft_L2, hgI_k, hgR_k, hpI_k, hpR_k, hpZ_k, haI_k, haR_k, hsI_k, hsZ_k, hlen_k, hlet_p, hret_p, hretZ_0, hretZ_1, hif_p, okk_setV, okk_setF, nV, nF, fV, vF, StA.k0 ha, StA.k1 ha, StA.k2 ha, StA.k3 ha, StA.k4 ha, StA.n1 ha, StA.n2 ha, StA.n3 ha, StA.n4 ha, StA.f2 ha, StA.f3 ha, StA.f4 ha, StA.f5 ha, r.to, TwA.k0 ht, TwA.k1 ht, TwA.k2 ht, TwA.k3 ht, TwA.k4 ht, TwA.k5 ht, TwA.k6 ht, TwA.k7 ht, TwA.k8 ht, TwA.k9 ht, TwA.k10 ht, TwA.k11 ht, TwA.k12 ht, TwA.k13 ht, TwA.k14 ht, TwA.k15 ht, TwA.k16 ht, TwA.k17 ht, TwA.n2 ht, TwA.n3 ht, TwA.n4 ht, TwA.n6 ht, TwA.n7 ht, TwA.n8 ht, TwA.n9 ht, TwA.n10 ht, TwA.n11 ht, TwA.n12 ht, TwA.n13 ht, TwA.n14 ht, TwA.n15 ht, TwA.n16 ht, TwA.n17 ht, TwA.f2 ht, TwA.f3 ht, TwA.f5 ht, TwA.f6 ht, TwA.f8 ht, TwA.f9 ht, TwA.f11 ht, TwA.f12 ht, TwA.f13 ht, TwA.f14 ht, TwA.f15 ht, TwA.b0 ht, TwA.b1 ht, TwA.b2 ht, TwA.g0 ht, TwA.g1 ht, TwA.g2 ht, r.v2]
    rw [if_pos (by omega)]
  | succ k ih =>
    intro n i D hn hv
    obtain ⟨n, rfl⟩ : ∃ k, n = k + 1 := ⟨n - 1, by omega⟩
    have r := rs D
    have ht := r.ht
    have ha := r.ha
    have i9 : i < 9 := by omega
    obtain ⟨D', d1, d2, d3⟩ := ih n (i + 1) (sup D i (qLeft S p i)) (by omega) (by omega)
    refine ⟨D', ?_, fun j hj => by rw [d2 j (by omega), sup_n (by omega)], fun j h1 h2 => ?_⟩
    · rw [← d1]
      simp only [m_X4_tellLeft_L2, hgI_k, hgR_k, hpI_k, hpR_k, hpZ_k, haI_k, haR_k, hsI_k, hsZ_k, hlen_k, hlet_p, hret_p, hretZ_0, hretZ_1, hif_p, okk_setV, okk_setF, nV, nF, fV, vF, okk_put, nP, fP, hcallV_b, hbind_p, hsI_n, StA.k0 ha, StA.k1 ha, StA.k2 ha, StA.k3 ha, StA.k4 ha, StA.n1 ha, StA.n2 ha, StA.n3 ha, StA.n4 ha, StA.f2 ha, StA.f3 ha, StA.f4 ha, StA.f5 ha, r.to, TwA.k0 ht, TwA.k1 ht, TwA.k2 ht, TwA.k3 ht, TwA.k4 ht, TwA.k5 ht, TwA.k6 ht, TwA.k7 ht, TwA.k8 ht, TwA.k9 ht, TwA.k10 ht, TwA.k11 ht, TwA.k12 ht, TwA.k13 ht, TwA.k14 ht, TwA.k15 ht, TwA.k16 ht, TwA.k17 ht, TwA.n2 ht, TwA.n3 ht, TwA.n4 ht, TwA.n6 ht, TwA.n7 ht, TwA.n8 ht, TwA.n9 ht, TwA.n10 ht, TwA.n11 ht, TwA.n12 ht, TwA.n13 ht, TwA.n14 ht, TwA.n15 ht, TwA.n16 ht, TwA.n17 ht, TwA.f2 ht, TwA.f3 ht, TwA.f5 ht, TwA.f6 ht, TwA.f8 ht, TwA.f9 ht, TwA.f11 ht, TwA.f12 ht, TwA.f13 ht, TwA.f14 ht, TwA.f15 ht, TwA.b0 ht, TwA.b1 ht, TwA.b2 ht, TwA.g0 ht, TwA.g1 ht, TwA.g2 ht, r.v2, x_leftTo r ws hp (show (i : Int) < S 2 by omega), kl, nl, i9, setV_put, ix_s (show i < 1000000 by omega)]
      rw [if_neg (by omega)]
    · by_cases e : j = i
      · subst e
        rw [d2 j (by omega), sup_s]
      · exact d3 j (by omega) (by omega)
