/-! letters: both -/
theorem sy_ok {f : Nat → Nat} {N : Nat} (hN : N < 5) (h0 : ∀ p, p < N → f p ≠ 0) (p q : Nat) (hp : p < N) (hq : q < N) : sy (decide (f 0 &&& f 1 ≠ 0)) (decide (f 0 &&& f 2 ≠ 0)) (decide (f 0 &&& f 3 ≠ 0)) (decide (f 1 &&& f 2 ≠ 0)) (decide (f 1 &&& f 3 ≠ 0)) (decide (f 2 &&& f 3 ≠ 0)) p q = true ↔ f p &&& f q ≠ 0 := by
  by_cases e : p = q
  · subst e
    unfold sy
    rw [if_pos rfl, Nat.and_self]
    exact ⟨fun _ => h0 p hp, fun _ => rfl⟩
  · have cp : p = 0 ∨ p = 1 ∨ p = 2 ∨ p = 3 := by omega
    have cq : q = 0 ∨ q = 1 ∨ q = 2 ∨ q = 3 := by omega
    have k : ∀ x y : Nat, (decide (x &&& y ≠ 0) = true ↔ x &&& y ≠ 0) := fun _ _ => decide_eq_true_iff
    have k' : ∀ x y : Nat, (decide (x &&& y ≠ 0) = true ↔ y &&& x ≠ 0) := fun x y => by rw [Nat.and_comm y x]; exact decide_eq_true_iff
    rcases cp with rfl | rfl | rfl | rfl <;> rcases cq with rfl | rfl | rfl | rfl <;> first | exact absurd rfl e | exact k _ _ | exact k' _ _
theorem y_hb {u : hS} {N : Nat} {f : Nat → Nat} {M : Nat → Nat → Bool} (c : rcx u N f M) {a b : Nat} (ha : a < N) (hb : b < N) : ∃ D W, (M a b = true ∧ m_X10_handsBetween 220 a b u = some (0, hput (hput u 232 D) 237 W)) ∨ (¬ M a b = true ∧ ∃ i, fi1 M a b N 0 = some i ∧ W 0 = (i : Int) ∧ m_X10_handsBetween 220 a b u = some (1, hput (hput u 232 D) 237 W)) ∨ (¬ M a b = true ∧ fi1 M a b N 0 = none ∧ ∃ z, fi3 M a b N N 0 = some z ∧ W 0 = (z.1 : Int) ∧ W 1 = (z.2 : Int) ∧ m_X10_handsBetween 220 a b u = some (2, hput (hput u 232 D) 237 W)) ∨ (¬ M a b = true ∧ fi1 M a b N 0 = none ∧ fi3 M a b N N 0 = none ∧ m_X10_handsBetween 220 a b u = some (-1, hput (hput u 232 D) 237 W)) := by
  have hs := c.1
  have h4 := c.2.2.2.2.1
  have w4 := c.2.1.2.2.2.2.1
  have k237 : ∀ D, hput (hput u 232 D) 237 (hV u 237) = hput u 232 D := fun D => by
    have q : hV (hput u 232 D) 237 = hV u 237 := hV_put_n (by decide)
    rw [← q, hput_self]
  obtain ⟨D0, d0⟩ := y_cm c ha hb (hV u 232)
  rw [hput_self] at d0
  by_cases e : M a b = true
  · refine ⟨D0, hV u 237, Or.inl ⟨e, ?_⟩⟩
    rw [k237]
    simp only [m_X10_handsBetween, hgI_k, hgR_k, hpI_k, hpR_k, hpZ_k, haI_k, haR_k, hsI_k, hsZ_k, hlen_k, hlet_p, hret_p, hretZ_0, hretZ_1, hif_p, okk_setV, okk_setF, nV, nF, fV, vF, hcallV_b, hbind_p, kk_220 hs, d0, if_pos e]
    rw [if_neg (by decide)]
  · have E : m_X10_handsBetween 220 a b u = m_X10_handsBetween_L13 1000000000 220 a b ((0 : Nat) : Int) (hput u 232 D0) := by
      simp only [m_X10_handsBetween, hgI_k, hgR_k, hpI_k, hpR_k, hpZ_k, haI_k, haR_k, hsI_k, hsZ_k, hlen_k, hlet_p, hret_p, hretZ_0, hretZ_1, hif_p, okk_setV, okk_setF, nV, nF, fV, vF, hcallV_b, hbind_p, kk_220 hs, d0, if_neg e]
      rw [if_pos trivial]
      rfl
    obtain ⟨D1, d1⟩ := y_fi1 c ha hb N 1000000000 0 D0 (by omega) (by omega)
    rw [d1] at E
    cases hz : fi1 M a b N 0 with
    | some i =>
      rw [hz] at E
      exact ⟨D1, sup (hV u 237) 0 (i : Int), Or.inr (Or.inl ⟨e, i, rfl, sup_s, E⟩)⟩
    | none =>
      rw [hz] at E
      obtain ⟨D2, d2⟩ := y_fi3 c ha hb N 1000000000 0 D1 (by omega) (by omega)
      have E2 : m_X10_handsBetween 220 a b u = an2 u D2 (fi3 M a b N N 0) (some (-1, hput u 232 D2)) := Eq.trans E d2
      cases hy : fi3 M a b N N 0 with
      | some z =>
        rw [hy] at E2
        exact ⟨D2, sup (sup (hV u 237) 0 (z.1 : Int)) 1 (z.2 : Int), Or.inr (Or.inr (Or.inl ⟨e, rfl, z, rfl, by rw [sup_n (by decide), sup_s], sup_s, E2⟩))⟩
      | none =>
        rw [hy] at E2
        refine ⟨D2, hV u 237, Or.inr (Or.inr (Or.inr ⟨e, rfl, rfl, ?_⟩))⟩
        rw [k237]
        exact E2
theorem y_lt {u : hS} {N : Nat} {f : Nat → Nat} {M : Nat → Nat → Bool} (c : rcx u N f M) {a b w : Nat} (ha : a < N) (hb : b < N) (hab : a ≠ b) (hw : w < 3) : ∃ D W, m_X10_letter 220 a b w u = some (lt2 M N a b w, hput (hput u 232 D) 237 W) := by
  have hs := c.1
  have h4 := c.2.2.2.2.1
  have w4 := c.2.1.2.2.2.2.1
  have n10 : ¬ (1 : Int) = 0 := by decide
  have n11 : (1 : Int) ≠ 0 := by decide
  have pa : 0 ≤ (a : Int) ∧ (a : Int) < (N : Int) := by omega
  have pb : 0 ≤ (b : Int) ∧ (b : Int) < (N : Int) := by omega
  have pw : 0 ≤ (w : Int) ∧ (w : Int) ≤ 2 := by omega
  have nab : ¬ (a : Int) = (b : Int) := by omega
  obtain ⟨D, W, hh⟩ := y_hb c ha hb
  have hs1 : shp (hput (hput u 232 D) 237 W) := hs
  have e237 : hV (hput (hput u 232 D) 237 W) 237 = W := hV_put_s _ _ _
  have v0 : w32 (((1 : Nat) : Int) - 1) = ((0 : Nat) : Int) := by decide
  have v1 : w32 (((2 : Nat) : Int) - 1) = ((1 : Nat) : Int) := by decide
  have z2 : (0 : Nat) < 2 := by decide
  have z3 : (1 : Nat) < 2 := by decide
  refine ⟨D, W, ?_⟩
  unfold lt2
  have cw : w = 0 ∨ w = 1 ∨ w = 2 := by omega
  rcases hh with ⟨e, E⟩ | ⟨e, i, e1, w0, E⟩ | ⟨e, e1, z, e2, w0, w1, E⟩ | ⟨e, e1, e2, E⟩
  · rw [if_pos e]
    simp only [m_X10_letter, m_X10_letter_L54, m_X10_letter_L74, hgI_k, hgR_k, hpI_k, hpR_k, hpZ_k, haI_k, haR_k, hsI_k, hsZ_k, hlen_k, hlet_p, hret_p, hretZ_0, hretZ_1, hif_p, okk_setV, okk_setF, nV, nF, fV, vF, hcallV_b, hcall_b, hbind_p, y_isPerson hs, y_in, kk_220 hs, h4, if_pos pa, if_pos pb, if_neg nab, if_neg n10, if_pos pw, if_pos n11, E]
    rw [if_neg (by decide)]
    by_cases h : w = 0
    · subst h
      rw [if_pos (by decide), if_neg (by decide), if_pos rfl]
    · rw [if_neg (by omega), if_neg h]
  · rw [if_neg e, e1]
    simp only [m_X10_letter, m_X10_letter_L54, m_X10_letter_L74, hgI_k, hgR_k, hpI_k, hpR_k, hpZ_k, haI_k, haR_k, hsI_k, hsZ_k, hlen_k, hlet_p, hret_p, hretZ_0, hretZ_1, hif_p, okk_setV, okk_setF, nV, nF, fV, vF, hcallV_b, hcall_b, hbind_p, y_isPerson hs, y_in, kk_220 hs, h4, if_pos pa, if_pos pb, if_neg nab, if_neg n10, if_pos pw, if_pos n11, E]
    rw [if_neg (by decide)]
    rcases cw with rfl | rfl | rfl
    · rw [if_pos (by decide), if_neg (by decide), if_pos rfl]
    · rw [if_pos (by decide), if_pos (by decide), if_neg (by decide), if_pos rfl]
      simp only [hgI_k, hgR_k, hpI_k, hpR_k, hpZ_k, haI_k, haR_k, hsI_k, hsZ_k, hlen_k, hlet_p, hret_p, hretZ_0, hretZ_1, hif_p, okk_setV, okk_setF, nV, nF, fV, vF, haI_n, v0, kk_220 hs1, rf_220_32 hs1, kk_237 hs1, ln_237 hs1, z2, e237, w0]
    · rw [if_neg (by decide), if_neg (by decide), if_neg (by decide)]
  · obtain ⟨i, j⟩ := z
    rw [if_neg e, e1, e2]
    simp only [m_X10_letter, m_X10_letter_L54, m_X10_letter_L74, hgI_k, hgR_k, hpI_k, hpR_k, hpZ_k, haI_k, haR_k, hsI_k, hsZ_k, hlen_k, hlet_p, hret_p, hretZ_0, hretZ_1, hif_p, okk_setV, okk_setF, nV, nF, fV, vF, hcallV_b, hcall_b, hbind_p, y_isPerson hs, y_in, kk_220 hs, h4, if_pos pa, if_pos pb, if_neg nab, if_neg n10, if_pos pw, if_pos n11, E]
    rw [if_neg (by decide)]
    rcases cw with rfl | rfl | rfl
    · rw [if_pos (by decide), if_neg (by decide), if_pos rfl]
    · rw [if_pos (by decide), if_pos (by decide), if_neg (by decide), if_pos rfl]
      simp only [hgI_k, hgR_k, hpI_k, hpR_k, hpZ_k, haI_k, haR_k, hsI_k, hsZ_k, hlen_k, hlet_p, hret_p, hretZ_0, hretZ_1, hif_p, okk_setV, okk_setF, nV, nF, fV, vF, haI_n, v0, kk_220 hs1, rf_220_32 hs1, kk_237 hs1, ln_237 hs1, z2, e237, w0]
    · rw [if_pos (by decide), if_pos (by decide), if_neg (by decide), if_neg (by decide)]
      simp only [hgI_k, hgR_k, hpI_k, hpR_k, hpZ_k, haI_k, haR_k, hsI_k, hsZ_k, hlen_k, hlet_p, hret_p, hretZ_0, hretZ_1, hif_p, okk_setV, okk_setF, nV, nF, fV, vF, haI_n, v1, kk_220 hs1, rf_220_32 hs1, kk_237 hs1, ln_237 hs1, z3, e237, w1]
  · rw [if_neg e, e1, e2]
    simp only [m_X10_letter, m_X10_letter_L54, m_X10_letter_L74, hgI_k, hgR_k, hpI_k, hpR_k, hpZ_k, haI_k, haR_k, hsI_k, hsZ_k, hlen_k, hlet_p, hret_p, hretZ_0, hretZ_1, hif_p, okk_setV, okk_setF, nV, nF, fV, vF, hcallV_b, hcall_b, hbind_p, y_isPerson hs, y_in, kk_220 hs, h4, if_pos pa, if_pos pb, if_neg nab, if_neg n10, if_pos pw, if_pos n11, E]
    rw [if_pos (by decide)]
theorem x_lt {u : hS} {t N : Nat} {S : Nat → Int} {f : Nat → Nat} {M : Nat → Nat → Bool} (c : lcx u t N S f M) (ws : WS S) (wv : WV S) (hf : ∀ p : Nat, (p : Int) < S 4 → isRch S (-1) p (f p)) {a b w : Nat} (ha : a < N) (hb : b < N) (hab : a ≠ b) (hw : w < 3) (le : ∀ p, p < N → hd M N b p ≤ 99) {v : hS} (hv : shp v) (E : m_X9_findReaches 1 v = some (0, u)) (rv : RepS v 30 t S) : m_X9_letter 1 a b w v = some (lt1 M N a b w, hput u 11 (rowH (hd M N b) (hV u 11))) := by
  have c' := c
  obtain ⟨hs, r0, tz, h4, h5, hf2, h10, hM⟩ := c'
  have n10 : ¬ (1 : Int) = 0 := by decide
  have pw : ¬ (w : Int) < 0 := by omega
  have pw2 : (w : Int) ≤ 2 := by omega
  have par : (0 ≤ (a : Int) ∧ (a : Int) < (N : Int)) ∧ (0 ≤ (b : Int) ∧ (b : Int) < (N : Int)) ∧ (a : Int) ≠ b := by omega
  have fh := x_findHands c hb
  have a4 : a < 4 := by omega
  have hs1 : shp (hput u 11 (rowH (hd M N b) (hV u 11))) := hs
  have r1 := r0.fr (ext.put u 11 (rowH (hd M N b) (hV u 11))) (fun a _ _ => agr.put (by omega)) (fun a _ _ => agr.put (by omega))
  have c1 : lcx (hput u 11 (rowH (hd M N b) (hV u 11))) t N S f M := ⟨hs1, r1, tz, h4, h5, hf2, fun p hp => by rw [hV_put_n (by decide)]; exact h10 p hp, hM⟩
  have h11 : ∀ j, j < 4 → hV (hput u 11 (rowH (hd M N b) (hV u 11))) 11 j = (hd M N b j : Int) := fun j hj => by
    rw [hV_put_s]
    exact rowH_at hj
  have la := le a ha
  have w1 : w32 ((hd M N b a : Int) - 1) = (hd M N b a : Int) - 1 := w32_id ⟨by omega, by omega⟩
  have nx := x_nextHolder c1 h11 ha la
  have n1N : nxt M (hd M N b) a N 0 < N := nxt_lt ha N 0 (by omega)
  have nx2 := x_nextHolder c1 h11 n1N (le _ n1N)
  simp only [m_X9_letter, m_X9_letter_L77, hgI_k, hgR_k, hpI_k, hpR_k, hpZ_k, haI_k, haR_k, hsI_k, hsZ_k, hlen_k, hlet_p, hret_p, hretZ_0, hretZ_1, hif_p, okk_setV, okk_setF, nV, nF, fV, vF, hcallV_b, hbind_p, x_arePair hv rv, h4, if_pos par, if_neg n10, if_neg pw, if_pos pw2, E, kk_1 hv, kk_1 hs, fh, haI_n, kk_1 hs1, rf_1_17 hs1, kk_11 hs1, ln_11 hs1, a4, h11 a a4, w1]
  show _ = some (if hd M N b a = 99 then -2 else if w = 0 then (hd M N b a : Int) - 1 else if w + 1 ≤ hd M N b a then (if w = 1 then (nxt M (hd M N b) a N 0 : Int) else (nxt M (hd M N b) (nxt M (hd M N b) a N 0) N 0 : Int)) else -2, _)
  by_cases h9 : hd M N b a = 99
  · rw [if_neg (by omega), if_pos h9]
  rw [if_pos (by omega), if_neg h9]
  by_cases h0 : w = 0
  · rw [if_neg (by omega), if_pos h0]
  rw [if_pos (by omega), if_neg h0]
  by_cases hl : w + 1 ≤ hd M N b a
  · rw [if_pos (by omega), if_pos hl]
    simp only [m_X9_holderAfter, hlet_p]
    have s1 := x_hoS hs1 nx 999999999 w 0 (by omega)
    have s2 := x_hoS hs1 nx2 999999998 w 1 (by omega)
    have e1 : m_X9_holderAfter_L5 1000000000 1 w a 0 (hput u 11 (rowH (hd M N b) (hV u 11))) = _ := s1
    by_cases h1 : w = 1
    · subst h1
      rw [if_pos rfl, e1, if_neg (by decide)]
      have e2 : m_X9_holderAfter_L5 999999999 1 ((1 : Nat) : Int) (nxt M (hd M N b) a N 0) ((0 + 1 : Nat) : Int) (hput u 11 (rowH (hd M N b) (hV u 11))) = _ := s2
      rw [e2, if_pos (by decide)]
      rfl
    · obtain rfl : w = 2 := by omega
      rw [if_neg h1, e1, if_neg (by decide)]
      have e2 : m_X9_holderAfter_L5 999999999 1 ((2 : Nat) : Int) (nxt M (hd M N b) a N 0) ((0 + 1 : Nat) : Int) (hput u 11 (rowH (hd M N b) (hV u 11))) = _ := s2
      have n2N : nxt M (hd M N b) (nxt M (hd M N b) a N 0) N 0 < N := nxt_lt n1N N 0 (by omega)
      have nx3 := x_nextHolder c1 h11 n2N (le _ n2N)
      have s3 := x_hoS hs1 nx3 999999997 2 2 (by omega)
      have e3 : m_X9_holderAfter_L5 999999998 1 ((2 : Nat) : Int) (nxt M (hd M N b) (nxt M (hd M N b) a N 0) N 0) ((1 + 1 : Nat) : Int) (hput u 11 (rowH (hd M N b) (hV u 11))) = _ := s3
      rw [e2, if_neg (by decide), e3, if_pos (by decide)]
      rfl
  · rw [if_neg (by omega), if_neg hl]
theorem a_letter {u : hS} (hs : shp u) (ai : actInv u) (ex : ∀ b, b < 9 → hV u 231 b = 0) (p q w : Int) : ∃ (r : Int) (E H D W : Nat → Int), m_X9_letter 1 p q w u = some (r, hput (hput u 10 E) 11 H) ∧ m_X10_letter 220 p q w (hput (hput u 10 E) 11 H) = some (r, hput (hput (hput (hput u 10 E) 11 H) 232 D) 237 W) := by
  obtain ⟨t, c, r, ru, h25⟩ := id ai
  have ws := r.2.2.2.1
  have wv := r.2.2.2.2
  have w4 := ws.2.2.2.2.1
  have tz := r.2.1
  have n10 : ¬ (1 : Int) = 0 := by decide
  by_cases hpq : (0 ≤ p ∧ p < hV u 230 4) ∧ (0 ≤ q ∧ q < hV u 230 4) ∧ p ≠ q
  case neg =>
    refine ⟨-1, hV u 10, hV u 11, hV u 232, hV u 237, ?_, ?_⟩
    · rw [hput_self, hput_self]
      simp only [m_X9_letter, m_X9_letter_L18, hgI_k, hgR_k, hpI_k, hpR_k, hpZ_k, haI_k, haR_k, hsI_k, hsZ_k, hlen_k, hlet_p, hret_p, hretZ_0, hretZ_1, hif_p, okk_setV, okk_setF, nV, nF, fV, vF, hcallV_b, hbind_p, x_arePair hs r.1, kk_1 hs, if_neg hpq, if_true]
    · rw [hput_self, hput_self, hput_self, hput_self]
      simp only [m_X10_letter, m_X10_letter_L33, hgI_k, hgR_k, hpI_k, hpR_k, hpZ_k, haI_k, haR_k, hsI_k, hsZ_k, hlen_k, hlet_p, hret_p, hretZ_0, hretZ_1, hif_p, okk_setV, okk_setF, nV, nF, fV, vF, hcallV_b, hbind_p, y_isPerson hs, kk_220 hs]
      by_cases hp : 0 ≤ p ∧ p < hV u 230 4
      · rw [if_pos hp, if_neg n10]
        by_cases hq : 0 ≤ q ∧ q < hV u 230 4
        · rw [if_pos hq, if_neg n10, if_pos (by
            by_cases e : p = q
            · exact e
            · exact absurd ⟨hp, hq, e⟩ hpq)]
        · rw [if_neg hq, if_pos rfl]
      · rw [if_neg hp, if_pos rfl]
  by_cases hw : 0 ≤ w ∧ w ≤ 2
  case neg =>
    refine ⟨-1, hV u 10, hV u 11, hV u 232, hV u 237, ?_, ?_⟩
    · rw [hput_self, hput_self]
      simp only [m_X9_letter, m_X9_letter_L18, hgI_k, hgR_k, hpI_k, hpR_k, hpZ_k, haI_k, haR_k, hsI_k, hsZ_k, hlen_k, hlet_p, hret_p, hretZ_0, hretZ_1, hif_p, okk_setV, okk_setF, nV, nF, fV, vF, hcallV_b, hbind_p, x_arePair hs r.1, kk_1 hs, if_pos hpq, if_neg n10]
      by_cases h0 : w < 0
      · rw [if_pos h0]
      · rw [if_neg h0, if_neg (by omega)]
    · rw [hput_self, hput_self, hput_self, hput_self]
      simp only [m_X10_letter, m_X10_letter_L33, hgI_k, hgR_k, hpI_k, hpR_k, hpZ_k, haI_k, haR_k, hsI_k, hsZ_k, hlen_k, hlet_p, hret_p, hretZ_0, hretZ_1, hif_p, okk_setV, okk_setF, nV, nF, fV, vF, hcallV_b, hcall_b, hbind_p, y_isPerson hs, y_in, kk_220 hs, if_pos hpq.1, if_pos hpq.2.1, if_neg hpq.2.2, if_neg n10, if_neg hw, ne_eq, not_true_eq_false, if_false]
  obtain ⟨a, rfl⟩ : ∃ n : Nat, p = n := ⟨p.toNat, by omega⟩
  obtain ⟨b, rfl⟩ : ∃ n : Nat, q = n := ⟨q.toNat, by omega⟩
  obtain ⟨w, rfl⟩ : ∃ n : Nat, w = n := ⟨w.toNat, by omega⟩
  obtain ⟨N, hN⟩ : ∃ N : Nat, hV u 230 4 = N := ⟨(hV u 230 4).toNat, by omega⟩
  obtain ⟨g, hg⟩ := rch_ex r.1 ws wv
  have nz : ∀ p, p < N → g (-1) p ≠ 0 := fun p hp z => by
    obtain ⟨x, x1, x2, x3⟩ := hg (-1) p (by omega)
    have t := x2.2.1
    rw [z, Nat.zero_testBit] at t
    exact absurd t (by decide)
  have so := sy_ok (f := g (-1)) (N := N) (by omega) nz
  obtain ⟨E, e1, e2⟩ := x_findReaches hs r.1 tz ws wv (f := g (-1)) (hg (-1))
  have hs1 : shp (hput u 10 E) := hs
  have r1 := r.1.fr (ext.put u 10 E) (fun a _ _ => agr.put (by omega)) (fun a _ _ => agr.put (by omega))
  have aN : a < N := by omega
  have bN : b < N := by omega
  have ab : a ≠ b := by
    intro z
    exact hpq.2.2 (by rw [z])
  have cx : lcx (hput u 10 E) t N (hV u 230) (g (-1)) _ := ⟨hs1, r1, tz, hN, by omega, fun p hp => rch_lt (hg (-1) p (by omega)), fun p hp => by rw [hV_put_s, e2 p (by omega)], so⟩
  have X := x_lt cx ws wv (hg (-1)) aN bN ab (w := w) (by omega) (fun p hp => hd_le _ _ _ _ _ _ N (by omega) b bN p hp) hs e1 r.1
  have hs2 : shp (hput (hput u 10 E) 11 (rowH (hd (sy (decide (g (-1) 0 &&& g (-1) 1 ≠ 0)) (decide (g (-1) 0 &&& g (-1) 2 ≠ 0)) (decide (g (-1) 0 &&& g (-1) 3 ≠ 0)) (decide (g (-1) 1 &&& g (-1) 2 ≠ 0)) (decide (g (-1) 1 &&& g (-1) 3 ≠ 0)) (decide (g (-1) 2 &&& g (-1) 3 ≠ 0))) N b) (hV (hput u 10 E) 11))) := hs
  have k230 : ∀ H, hV (hput (hput u 10 E) 11 H) 230 = hV u 230 := fun H => by rw [hV_put_n (by decide), hV_put_n (by decide)]
  have cy : rcx (hput (hput u 10 E) 11 (rowH (hd (sy (decide (g (-1) 0 &&& g (-1) 1 ≠ 0)) (decide (g (-1) 0 &&& g (-1) 2 ≠ 0)) (decide (g (-1) 0 &&& g (-1) 3 ≠ 0)) (decide (g (-1) 1 &&& g (-1) 2 ≠ 0)) (decide (g (-1) 1 &&& g (-1) 3 ≠ 0)) (decide (g (-1) 2 &&& g (-1) 3 ≠ 0))) N b) (hV (hput u 10 E) 11))) N (g (-1)) _ := ⟨hs2, by rw [k230]; exact ws, by rw [k230]; exact wv, fun c hc => by rw [hV_put_n (by decide), hV_put_n (by decide)]; exact ex c hc, by rw [k230]; exact hN, by rw [k230]; exact hg (-1), so⟩
  obtain ⟨D, W, Y⟩ := y_lt cy aN bN ab (w := w) (by omega)
  rw [← lt_eq _ _ _ _ _ _ N (by omega) a aN b bN ab w (by omega)] at Y
  exact ⟨_, E, _, D, W, X, Y⟩
