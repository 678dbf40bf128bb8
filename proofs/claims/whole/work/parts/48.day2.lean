theorem WW_sup {S : Nat → Int} {p : Nat} {x : Int} (hp : p < 4) (h : WW S) : WW (sup S (12 + 3 * p) x) := by
  intro w hw
  rw [sup_n (by omega)] at hw
  rw [sup_n (by omega)]
  exact h w hw
theorem y_passL {G : Nat → Int} : ∀ (k n i : Nat) (a : Int) (u : hS), shp u → WS (hV u 230) → WW (hV u 230) → k < n → hV u 230 4 = ((i + k : Nat) : Int) → 0 ≤ a → a ≤ 800 * i → (∀ p, p < 4 → gsum (hV u 230) p (hV u 230 5).toNat 0 = G p) → (∀ p : Nat, i ≤ p → (p : Int) < hV u 230 4 → 0 ≤ hV u 230 (12 + 3 * p) ∧ hV u 230 (12 + 3 * p) ≤ 1000000) → hV u 230 6 < 999 → m_X10_passes_L4 n 220 a i u = some (a + sumU G k i, hput u 230 (sup (payR G k i (hV u 230)) 6 (hV u 230 6 + 1))) := by
  intro k
  induction k with
  | zero =>
    intro n i a u hs ws wv hn hv h0 h1 hG hb h9
    have w6 := ws.2.2.2.2.2.2.1
    obtain ⟨m, rfl⟩ : ∃ m, n = m + 1 := ⟨n - 1, by omega⟩
    have e : w32 (hV u 230 6 + 1) = hV u 230 6 + 1 := w32_id ⟨by omega, by omega⟩
    simp only [m_X10_passes_L4, hgI_k, hgR_k, hpI_k, hpR_k, hpZ_k, haI_k, haR_k, hsI_k, hsZ_k, hlen_k, hlet_e, hret_e, hretZ_0, hretZ_1, hif_e, okk_setV, okk_setF, nV, nF, fV, vF, haI_4, haI_6, hsI_6, kk_220 hs, kk_230 hs, rf_220_20 hs, ln_230 hs, lt_c 4 160 rfl, lt_c 6 160 rfl, e]
    rw [if_pos (by omega), setV_put1]
    unfold sumU payR
    rw [Int.add_zero]
  | succ k ih =>
    intro n i a u hs ws wv hn hv h0 h1 hG hb h9
    have w4 := ws.2.2.2.2.1
    have w5 := ws.2.2.2.2.2.1
    have w6 := ws.2.2.2.2.2.2.1
    obtain ⟨m, rfl⟩ : ∃ m, n = m + 1 := ⟨n - 1, by omega⟩
    have hi : i < 4 := by omega
    have i4 : i < 1000000 := by omega
    have i3 : 10 + 3 * i < 1000000 := by omega
    have k2 : 10 + 3 * i + 2 < 160 := by omega
    have e2 : 10 + 3 * i + 2 = 12 + 3 * i := by omega
    have gi := gsum_in wv i (hV u 230 5).toNat 0 (by omega)
    rw [hG i hi] at gi
    have gp := hb i (by omega) (by omega)
    have x1 : w32 (hV u 230 (12 + 3 * i) + G i) = hV u 230 (12 + 3 * i) + G i := w32_id ⟨by omega, by omega⟩
    have x2 : w32 (a + G i) = a + G i := w32_id ⟨by omega, by omega⟩
    have pa := y_payAt hs ws wv i
    rw [hG i hi] at pa
    simp only [m_X10_passes_L4, hgI_k, hgR_k, hpI_k, hpR_k, hpZ_k, haI_k, haR_k, hsI_k, hsZ_k, hlen_k, hlet_e, hret_e, hretZ_0, hretZ_1, hif_e, okk_setV, okk_setF, nV, nF, fV, vF, haI_4, haI_6, haI_n, hsI_n, hcallV_b, hbind_s, y_personOf0 hs hi, pa, ix_10 hi, ix_2 i3, ix_s i4, kk_220 hs, kk_230 hs, rf_220_20 hs, ln_230 hs, lt_c 4 160 rfl, lt_c 6 160 rfl, k2]
    simp only [e2, x1, x2]
    have s4 : sup (hV u 230) (12 + 3 * i) (hV u 230 (12 + 3 * i) + G i) 4 = hV u 230 4 := sup_n (by omega)
    have s5 : sup (hV u 230) (12 + 3 * i) (hV u 230 (12 + 3 * i) + G i) 5 = hV u 230 5 := sup_n (by omega)
    have s6 : sup (hV u 230) (12 + 3 * i) (hV u 230 (12 + 3 * i) + G i) 6 = hV u 230 6 := sup_n (by omega)
    have q := ih m (i + 1) (a + G i) (hput u 230 (sup (hV u 230) (12 + 3 * i) (hV u 230 (12 + 3 * i) + G i))) hs (by rw [hV_put_s]; exact WS_sup (by omega) ws) (by rw [hV_put_s]; exact WW_sup hi wv) (by omega) (by rw [hV_put_s, s4]; omega) (by omega) (by omega) (by
      rw [hV_put_s, s5]
      intro p hp
      rw [gsum_sup hi]
      exact hG p hp) (by
      rw [hV_put_s, s4]
      intro p h1 h2
      rw [sup_n (by omega)]
      exact hb p (by omega) h2) (by rw [hV_put_s, s6]; exact h9)
    rw [hV_put_s, s6, put_put] at q
    rw [if_neg (by omega), setV_put1, q, sumU_s]
    congr 2
    omega
theorem y_passes {u : hS} (hs : shp u) (ws : WS (hV u 230)) (wv : WV (hV u 230)) (h9 : hV u 230 6 < 999) : m_X10_passes 220 u = some (sumU (fun p => gsum (hV u 230) p (hV u 230 5).toNat 0) (hV u 230 4).toNat 0, hput u 230 (sup (payR (fun p => gsum (hV u 230) p (hV u 230 5).toNat 0) (hV u 230 4).toNat 0 (hV u 230)) 6 (hV u 230 6 + 1))) := by
  have w4 := ws.2.2.2.2.1
  have w6 := ws.2.2.2.2.2.2.1
  have h := y_passL (G := fun p => gsum (hV u 230) p (hV u 230 5).toNat 0) (hV u 230 4).toNat 1000000000 0 0 u hs ws wv.ww (by omega) (by omega) (by omega) (by omega) (fun _ _ => rfl) (fun p _ h => by
    have z := (wv.2.2.1 p h).2.2
    omega) h9
  rw [Int.zero_add] at h
  simp only [m_X10_passes, hlet_e]
  exact h
/-! the class pays want by want -/
def payC (S : Nat → Int) (i : Nat) : Prop := S (130 + 4 * i) = S 6 ∧ S (10 + 3 * (S (128 + 4 * i)).toNat) = S (129 + 4 * i)
def payK : Nat → Nat → (Nat → Int) → Nat → Int
  | 0, _, S => S
  | k + 1, i, S => payK k (i + 1) (if S (130 + 4 * i) = S 6 ∧ S (10 + 3 * (S (128 + 4 * i)).toNat) = S (129 + 4 * i) then sup S (12 + 3 * (S (128 + 4 * i)).toNat) (S (12 + 3 * (S (128 + 4 * i)).toNat) + S (131 + 4 * i)) else S)
def totK (S : Nat → Int) : Nat → Nat → Int
  | 0, _ => 0
  | k + 1, i => (if S (130 + 4 * i) = S 6 ∧ S (10 + 3 * (S (128 + 4 * i)).toNat) = S (129 + 4 * i) then S (131 + 4 * i) else 0) + totK S k (i + 1)
theorem totK_s (S : Nat → Int) (k i : Nat) : totK S (k + 1) i = (if S (130 + 4 * i) = S 6 ∧ S (10 + 3 * (S (128 + 4 * i)).toNat) = S (129 + 4 * i) then S (131 + 4 * i) else 0) + totK S k (i + 1) := rfl
theorem payK_s (k i : Nat) (S : Nat → Int) : payK (k + 1) i S = payK k (i + 1) (if S (130 + 4 * i) = S 6 ∧ S (10 + 3 * (S (128 + 4 * i)).toNat) = S (129 + 4 * i) then sup S (12 + 3 * (S (128 + 4 * i)).toNat) (S (12 + 3 * (S (128 + 4 * i)).toNat) + S (131 + 4 * i)) else S) := rfl
theorem totK_sup {S : Nat → Int} {q : Nat} (hq : q < 4) (x : Int) : ∀ k i : Nat, totK (sup S (12 + 3 * q) x) k i = totK S k i := by
  intro k
  induction k with
  | zero =>
    intro i
    rfl
  | succ k ih =>
    intro i
    rw [totK_s, totK_s, ih, sup_n (j := 130 + 4 * i) (by omega), sup_n (j := 6) (by omega), sup_n (j := 128 + 4 * i) (by omega), sup_n (j := 129 + 4 * i) (by omega), sup_n (j := 131 + 4 * i) (by omega), sup_n (by omega)]
theorem payK_val {P : Int} (hP : P ≤ 4) : ∀ (k i : Nat) (S : Nat → Int), (∀ w : Nat, i ≤ w → w < i + k → 0 ≤ S (128 + 4 * w) ∧ S (128 + 4 * w) < P) → (∀ p, p < 4 → payK k i S (12 + 3 * p) = S (12 + 3 * p) + gsum S p k i) ∧ ∀ j, (∀ p : Nat, (p : Int) < P → j ≠ 12 + 3 * p) → payK k i S j = S j := by
  intro k
  induction k with
  | zero =>
    intro i S h
    exact ⟨fun p _ => by unfold payK gsum; omega, fun _ _ => rfl⟩
  | succ k ih =>
    intro i S h
    have hw := h i (by omega) (by omega)
    obtain ⟨q, hq⟩ : ∃ q : Nat, S (128 + 4 * i) = q := ⟨(S (128 + 4 * i)).toNat, by omega⟩
    have hq4 : q < 4 := by omega
    rw [payK_s]
    by_cases c : S (130 + 4 * i) = S 6 ∧ S (10 + 3 * (S (128 + 4 * i)).toNat) = S (129 + 4 * i)
    · rw [if_pos c]
      rw [hq, Int.toNat_natCast] at c ⊢
      have z := ih (i + 1) (sup S (12 + 3 * q) (S (12 + 3 * q) + S (131 + 4 * i))) (fun w h1 h2 => by
        rw [sup_n (by omega)]
        exact h w (by omega) (by omega))
      refine ⟨fun p hp => ?_, fun j hj => ?_⟩
      · rw [z.1 p hp, gsum_sup hq4, gsum_s, hq]
        by_cases e : p = q
        · subst e
          rw [sup_s, if_pos ⟨rfl, c.2.symm, c.1⟩]
          omega
        · rw [sup_n (by omega), if_neg (by omega)]
          omega
      · rw [z.2 j hj, sup_n (hj q (by omega))]
    · rw [if_neg c]
      rw [hq, Int.toNat_natCast] at c
      have z := ih (i + 1) S (fun w h1 h2 => h w (by omega) (by omega))
      refine ⟨fun p hp => ?_, z.2⟩
      rw [z.1 p hp, gsum_s, hq, if_neg (fun y => c ⟨y.2.2, by rw [show q = p by omega]; exact y.2.1.symm⟩)]
      omega
theorem totK_sum {S : Nat → Int} {P : Nat} : ∀ (k i : Nat), (∀ w : Nat, i ≤ w → w < i + k → 0 ≤ S (128 + 4 * w) ∧ S (128 + 4 * w) < (P : Int)) → totK S k i = sumU (fun p => gsum S p k i) P 0 := by
  intro k
  induction k with
  | zero =>
    intro i h
    exact (sumU_0 P 0).symm
  | succ k ih =>
    intro i h
    have hw := h i (by omega) (by omega)
    have e : (fun p => gsum S p (k + 1) i) = fun (p : Nat) => (if S (128 + 4 * i) = (p : Int) ∧ S (129 + 4 * i) = S (10 + 3 * p) ∧ S (130 + 4 * i) = S 6 then S (131 + 4 * i) else 0) + gsum S p k (i + 1) := rfl
    rw [e, sumU_add (fun (p : Nat) => if S (128 + 4 * i) = (p : Int) ∧ S (129 + 4 * i) = S (10 + 3 * p) ∧ S (130 + 4 * i) = S 6 then S (131 + 4 * i) else 0), sumU_one (S (128 + 4 * i)) (S (131 + 4 * i)) (fun (p : Nat) => S (129 + 4 * i) = S (10 + 3 * p) ∧ S (130 + 4 * i) = S 6), ← ih (i + 1) (fun w h1 h2 => h w (by omega) (by omega)), totK_s]
    congr 1
    by_cases c : S (130 + 4 * i) = S 6 ∧ S (10 + 3 * (S (128 + 4 * i)).toNat) = S (129 + 4 * i)
    · rw [if_pos c, if_pos ⟨by omega, c.2.symm, c.1⟩]
    · rw [if_neg c, if_neg (fun z => c ⟨z.2.2, z.2.1.symm⟩)]
theorem x_endL {s t : Nat} (d : s + 5 ≤ t ∨ t + 18 ≤ s) : ∀ (k n i : Nat) (a : Int) (u : hS) (S : Nat → Int), RepS u s t S → WS S → (∀ w : Nat, (w : Int) < S 5 → (0 ≤ S (128 + 4 * w) ∧ S (128 + 4 * w) < S 4) ∧ 0 ≤ S (131 + 4 * w) ∧ S (131 + 4 * w) ≤ 99) → (∀ p : Nat, (p : Int) < S 4 → 0 ≤ S (12 + 3 * p) ∧ S (12 + 3 * p) ≤ 1000000 + 99 * i) → k < n → S 5 = ((i + k : Nat) : Int) → 0 ≤ a → a ≤ 99 * i → S 6 < 999 → ∃ v, m_X4_endDay_L4 n s a i u = some (a + totK S k i, v) ∧ RepS v s t (sup (payK k i S) 6 (S 6 + 1)) ∧ ext u v ∧ (shp u → shp v) ∧ ∀ a, a < s ∨ s + 4 < a → agr u v a := by
  intro k
  induction k with
  | zero =>
    intro n i a u S r w ww wp hn hv h0 h1 h9
    obtain ⟨m, rfl⟩ : ∃ m, n = m + 1 := ⟨n - 1, by omega⟩
    have ht := r.ht
    have ha := r.ha
    have w2 := w.2.2.1
    have w4 := w.2.2.2.2.1
    have w6 := w.2.2.2.2.2.2.1
    have e : w32 (S 6 + 1) = S 6 + 1 := w32_id ⟨by omega, by omega⟩
    refine ⟨hsetV u s 1 (S 6 + 1), ?_, r.setDay d w2.2 w4.2 (S 6 + 1), ext.setV _ _ _ _, fun h => h, fun a h => agr.setV (by omega)⟩
    simp only [m_X4_endDay_L4, hgI_k, hgR_k, hpI_k, hpR_k, hpZ_k, haI_k, haR_k, hsI_k, hsZ_k, hlen_k, hlet_e, hret_e, hretZ_0, hretZ_1, hif_e, okk_setV, okk_setF, nV, nF, fV, vF, hcall_b, m_J9_min_7cf53_L10, m_J9_min_7cf53, hbind_s, StA.k0 ha, StA.k1 ha, StA.k2 ha, StA.k3 ha, StA.k4 ha, StA.n1 ha, StA.n2 ha, StA.n3 ha, StA.n4 ha, StA.f2 ha, StA.f3 ha, StA.f4 ha, StA.f5 ha, r.to, TwA.k0 ht, TwA.k1 ht, TwA.k2 ht, TwA.k3 ht, TwA.k4 ht, TwA.k5 ht, TwA.k6 ht, TwA.k7 ht, TwA.k8 ht, TwA.k9 ht, TwA.k10 ht, TwA.k11 ht, TwA.k12 ht, TwA.k13 ht, TwA.k14 ht, TwA.k15 ht, TwA.k16 ht, TwA.k17 ht, TwA.n2 ht, TwA.n3 ht, TwA.n4 ht, TwA.n6 ht, TwA.n7 ht, TwA.n8 ht, TwA.n9 ht, TwA.n10 ht, TwA.n11 ht, TwA.n12 ht, TwA.n13 ht, TwA.n14 ht, TwA.n15 ht, TwA.n16 ht, TwA.n17 ht, TwA.f2 ht, TwA.f3 ht, TwA.f5 ht, TwA.f6 ht, TwA.f8 ht, TwA.f9 ht, TwA.f11 ht, TwA.f12 ht, TwA.f13 ht, TwA.f14 ht, TwA.f15 ht, TwA.b0 ht, TwA.b1 ht, TwA.b2 ht, TwA.g0 ht, TwA.g1 ht, TwA.g2 ht, r.v5, r.v6, e]
    rw [if_pos (by omega), if_neg (by omega)]
    simp only [hbind_s, hgI_k, hgR_k, hpI_k, hpR_k, hpZ_k, haI_k, haR_k, hsI_k, hsZ_k, hlen_k, hlet_e, hret_e, hretZ_0, hretZ_1, hif_e, okk_setV, okk_setF, nV, nF, fV, vF, StA.k0 ha, StA.k1 ha, StA.k2 ha, StA.k3 ha, StA.k4 ha, StA.n1 ha, StA.n2 ha, StA.n3 ha, StA.n4 ha, StA.f2 ha, StA.f3 ha, StA.f4 ha, StA.f5 ha]
    unfold totK
    rw [Int.add_zero]
  | succ k ih =>
    intro n i a u S r w ww wp hn hv h0 h1 h9
    obtain ⟨m, rfl⟩ : ∃ m, n = m + 1 := ⟨n - 1, by omega⟩
    have ht := r.ht
    have ha := r.ha
    have w2 := w.2.2.1
    have w4 := w.2.2.2.2.1
    have w5 := w.2.2.2.2.2.1
    have hi : i < 8 := by omega
    have i4 : i < 1000000 := by omega
    have h5 : (i : Int) < S 5 := by omega
    have wi := ww i h5
    obtain ⟨q, hq⟩ : ∃ q : Nat, S (128 + 4 * i) = q := ⟨(S (128 + 4 * i)).toNat, by omega⟩
    have hq4 : q < 4 := by omega
    have hqS : (q : Int) < S 4 := by omega
    have wq := wp q hqS
    have x1 : w32 (S (12 + 3 * q) + S (131 + 4 * i)) = S (12 + 3 * q) + S (131 + 4 * i) := w32_id ⟨by omega, by omega⟩
    have x2 : w32 (a + S (131 + 4 * i)) = a + S (131 + 4 * i) := w32_id ⟨by omega, by omega⟩
    rw [totK_s, payK_s, hq, Int.toNat_natCast]
    by_cases c : S (130 + 4 * i) = S 6 ∧ S (10 + 3 * q) = S (129 + 4 * i)
    · rw [if_pos c, if_pos c]
      have q1 := r.setPaid d hq4 w2.2 w4.2 (S (12 + 3 * q) + S (131 + 4 * i))
      have s4 : sup S (12 + 3 * q) (S (12 + 3 * q) + S (131 + 4 * i)) 4 = S 4 := sup_n (by omega)
      have s5 : sup S (12 + 3 * q) (S (12 + 3 * q) + S (131 + 4 * i)) 5 = S 5 := sup_n (by omega)
      have s6 : sup S (12 + 3 * q) (S (12 + 3 * q) + S (131 + 4 * i)) 6 = S 6 := sup_n (by omega)
      obtain ⟨v, hx, rv, ev, sv, gv⟩ := ih m (i + 1) (a + S (131 + 4 * i)) _ _ q1 (WS_sup (by omega) w) (by
        rw [s5, s4]
        intro k hk
        rw [sup_n (by omega), sup_n (by omega)]
        exact ww k hk) (by
        rw [s4]
        intro p hp
        by_cases e : p = q
        · subst e
          rw [sup_s]
          omega
        · rw [sup_n (by omega)]
          have := wp p hp
          omega) (by omega) (by rw [s5]; omega) (by omega) (by omega) (by rw [s6]; exact h9)
      rw [s6] at rv
      rw [totK_sup hq4] at hx
      refine ⟨v, ?_, rv, (ext.setV _ _ _ _).tr ev, fun h => sv h, fun b h => (agr.setV (by omega)).tr (gv b h)⟩
      simp only [m_X4_endDay_L4, m_X4_endDay_L89, hgI_k, hgR_k, hpI_k, hpR_k, hpZ_k, haI_k, haR_k, hsI_k, hsZ_k, hlen_k, hlet_e, hret_e, hretZ_0, hretZ_1, hif_e, okk_setV, okk_setF, nV, nF, fV, vF, haI_n, hsI_n, ix_s i4, StA.k0 ha, StA.k1 ha, StA.k2 ha, StA.k3 ha, StA.k4 ha, StA.n1 ha, StA.n2 ha, StA.n3 ha, StA.n4 ha, StA.f2 ha, StA.f3 ha, StA.f4 ha, StA.f5 ha, r.to, TwA.k0 ht, TwA.k1 ht, TwA.k2 ht, TwA.k3 ht, TwA.k4 ht, TwA.k5 ht, TwA.k6 ht, TwA.k7 ht, TwA.k8 ht, TwA.k9 ht, TwA.k10 ht, TwA.k11 ht, TwA.k12 ht, TwA.k13 ht, TwA.k14 ht, TwA.k15 ht, TwA.k16 ht, TwA.k17 ht, TwA.n2 ht, TwA.n3 ht, TwA.n4 ht, TwA.n6 ht, TwA.n7 ht, TwA.n8 ht, TwA.n9 ht, TwA.n10 ht, TwA.n11 ht, TwA.n12 ht, TwA.n13 ht, TwA.n14 ht, TwA.n15 ht, TwA.n16 ht, TwA.n17 ht, TwA.f2 ht, TwA.f3 ht, TwA.f5 ht, TwA.f6 ht, TwA.f8 ht, TwA.f9 ht, TwA.f11 ht, TwA.f12 ht, TwA.f13 ht, TwA.f14 ht, TwA.f15 ht, TwA.b0 ht, TwA.b1 ht, TwA.b2 ht, TwA.g0 ht, TwA.g1 ht, TwA.g2 ht, r.v5, r.v6, hi, r.wa0 i h5, r.wa1 i h5, r.wa2 i h5, r.wa3 i h5, hq, hq4, r.at q hqS, r.paid q hqS, x1, hV_setV_a (show t + 16 ≠ s + 2 by omega), x2]
      rw [if_neg (by omega), if_neg (fun z => z c.1), if_neg (fun z => z c.2), hx]
      congr 2
      omega
    · rw [if_neg c, if_neg c]
      obtain ⟨v, hx, rv, ev, sv, gv⟩ := ih m (i + 1) a u S r w ww (fun p hp => by
        have := wp p hp
        omega) (by omega) (by omega) h0 (by omega) h9
      refine ⟨v, ?_, rv, ev, sv, gv⟩
      simp only [m_X4_endDay_L4, m_X4_endDay_L89, hgI_k, hgR_k, hpI_k, hpR_k, hpZ_k, haI_k, haR_k, hsI_k, hsZ_k, hlen_k, hlet_e, hret_e, hretZ_0, hretZ_1, hif_e, okk_setV, okk_setF, nV, nF, fV, vF, haI_n, hsI_n, ix_s i4, StA.k0 ha, StA.k1 ha, StA.k2 ha, StA.k3 ha, StA.k4 ha, StA.n1 ha, StA.n2 ha, StA.n3 ha, StA.n4 ha, StA.f2 ha, StA.f3 ha, StA.f4 ha, StA.f5 ha, r.to, TwA.k0 ht, TwA.k1 ht, TwA.k2 ht, TwA.k3 ht, TwA.k4 ht, TwA.k5 ht, TwA.k6 ht, TwA.k7 ht, TwA.k8 ht, TwA.k9 ht, TwA.k10 ht, TwA.k11 ht, TwA.k12 ht, TwA.k13 ht, TwA.k14 ht, TwA.k15 ht, TwA.k16 ht, TwA.k17 ht, TwA.n2 ht, TwA.n3 ht, TwA.n4 ht, TwA.n6 ht, TwA.n7 ht, TwA.n8 ht, TwA.n9 ht, TwA.n10 ht, TwA.n11 ht, TwA.n12 ht, TwA.n13 ht, TwA.n14 ht, TwA.n15 ht, TwA.n16 ht, TwA.n17 ht, TwA.f2 ht, TwA.f3 ht, TwA.f5 ht, TwA.f6 ht, TwA.f8 ht, TwA.f9 ht, TwA.f11 ht, TwA.f12 ht, TwA.f13 ht, TwA.f14 ht, TwA.f15 ht, TwA.b0 ht, TwA.b1 ht, TwA.b2 ht, TwA.g0 ht, TwA.g1 ht, TwA.g2 ht, r.v5, r.v6, hi, r.wa0 i h5, r.wa1 i h5, r.wa2 i h5, hq, hq4, r.at q hqS]
      rw [if_neg (by omega), Int.zero_add]
      by_cases c1 : S (130 + 4 * i) = S 6
      · rw [if_neg (fun z => z c1), if_pos (fun z => c ⟨c1, z⟩)]
        exact hx
      · rw [if_pos c1]
        exact hx
