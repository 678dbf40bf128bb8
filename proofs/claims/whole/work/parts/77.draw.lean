/-! passing a day at any day -/
def WSd (S : Nat → Int) : Prop := (0 ≤ S 4 ∧ S 4 ≤ 4) ∧ (0 ≤ S 5 ∧ S 5 ≤ 8) ∧ (0 ≤ S 6 ∧ S 6 ≤ 1999)
theorem WSd_sup {S : Nat → Int} {k : Nat} {x : Int} (h : 8 ≤ k) (w : WSd S) : WSd (sup S k x) := by
  unfold WSd
  rw [sup_n (by omega), sup_n (by omega), sup_n (by omega)]
  exact w
theorem y_payLD {u : hS} (hs : shp u) (ws : WSd (hV u 230)) (wv : WW (hV u 230)) (p : Nat) : ∀ (k n i : Nat) (a : Int), k < n → hV u 230 5 = ((i + k : Nat) : Int) → 0 ≤ a → a ≤ 99 * i → m_X10_payAt_L6 n 220 p (hV u 230 (10 + 3 * p)) (hV u 230 6) a i u = some (a + gsum (hV u 230) p k i, u) := by
  have w5 := ws.2.1
  intro k
  induction k with
  | zero =>
    intro n i a hn hv h0 h1
    obtain ⟨m, rfl⟩ : ∃ m, n = m + 1 := ⟨n - 1, by omega⟩
    simp only [m_X10_payAt_L6, hgI_k, hgR_k, hpI_k, hpR_k, hpZ_k, haI_k, haR_k, hsI_k, hsZ_k, hlen_k, hlet_e, hret_e, hretZ_0, hretZ_1, hif_e, okk_setV, okk_setF, nV, nF, fV, vF, haI_5, kk_220 hs, kk_230 hs, rf_220_20 hs, ln_230 hs, lt_c 5 160 rfl]
    rw [if_pos (by omega)]
    unfold gsum
    rw [Int.add_zero]
  | succ k ih =>
    intro n i a hn hv h0 h1
    obtain ⟨m, rfl⟩ : ∃ m, n = m + 1 := ⟨n - 1, by omega⟩
    have w := wv i (by omega)
    have hi : i < 8 := by omega
    have i4 : i < 1000000 := by omega
    have i3 : 128 + 4 * i < 1000000 := by omega
    have k0 : 128 + 4 * i < 160 := by omega
    have k1 : 128 + 4 * i + 1 < 160 := by omega
    have k2 : 128 + 4 * i + 2 < 160 := by omega
    have k3 : 128 + 4 * i + 3 < 160 := by omega
    have e1 : 128 + 4 * i + 1 = 129 + 4 * i := by omega
    have e2 : 128 + 4 * i + 2 = 130 + 4 * i := by omega
    have e3 : 128 + 4 * i + 3 = 131 + 4 * i := by omega
    have w1 : w32 (a + 0) = a := by rw [Int.add_zero]; exact w32_id ⟨by omega, by omega⟩
    have w2 : w32 (a + hV u 230 (131 + 4 * i)) = a + hV u 230 (131 + 4 * i) := w32_id ⟨by omega, by omega⟩
    have j1 := ih m (i + 1) a (by omega) (by omega) h0 (by omega)
    have j2 := ih m (i + 1) (a + hV u 230 (131 + 4 * i)) (by omega) (by omega) (by omega) (by omega)
    simp only [m_X10_payAt_L6, m_X10_payAt_L78, m_X10_payAt_L79, hgI_k, hgR_k, hpI_k, hpR_k, hpZ_k, haI_k, haR_k, hsI_k, hsZ_k, hlen_k, hlet_e, hret_e, hretZ_0, hretZ_1, hif_e, okk_setV, okk_setF, nV, nF, fV, vF, haI_5, haI_n, ix_128 hi, ix_s i3, ix_2 i3, ix_3 i3, ix_s i4, kk_220 hs, kk_230 hs, rf_220_20 hs, ln_230 hs, lt_c 5 160 rfl, k0, k1, k2, k3]
    simp only [e1, e2, e3, w1, w2, j1, j2]
    rw [if_neg (by omega), gsum_s]
    by_cases c1 : hV u 230 (128 + 4 * i) = (p : Int)
    · rw [if_neg (fun z => z c1)]
      by_cases c2 : hV u 230 (129 + 4 * i) = hV u 230 (10 + 3 * p)
      · rw [if_neg (fun z => z c2)]
        by_cases c3 : hV u 230 (130 + 4 * i) = hV u 230 6
        · rw [if_neg (fun z => z c3), if_pos ⟨c1, c2, c3⟩]
          congr 2
          omega
        · rw [if_pos c3, if_neg (fun z => c3 z.2.2), Int.zero_add]
      · rw [if_pos c2, if_neg (fun z => c2 z.2.1), Int.zero_add]
    · rw [if_pos c1, if_neg (fun z => c1 z.1), Int.zero_add]
theorem y_payAtD {u : hS} (hs : shp u) (ws : WSd (hV u 230)) (wv : WW (hV u 230)) (p : Nat) : m_X10_payAt 220 p (hV u 230 (10 + 3 * p)) (hV u 230 6) u = some (gsum (hV u 230) p (hV u 230 5).toNat 0, u) := by
  have w5 := ws.2.1
  have h := y_payLD hs ws wv p (hV u 230 5).toNat 1000000000 0 0 (by omega) (by omega) (by omega) (by omega)
  rw [Int.zero_add] at h
  simp only [m_X10_payAt, hlet_p]
  exact h
theorem y_passLD {G : Nat → Int} : ∀ (k n i : Nat) (a : Int) (u : hS), shp u → WSd (hV u 230) → WW (hV u 230) → k < n → hV u 230 4 = ((i + k : Nat) : Int) → 0 ≤ a → a ≤ 800 * i → (∀ p, p < 4 → gsum (hV u 230) p (hV u 230 5).toNat 0 = G p) → (∀ p : Nat, i ≤ p → (p : Int) < hV u 230 4 → 0 ≤ hV u 230 (12 + 3 * p) ∧ hV u 230 (12 + 3 * p) ≤ 1000000) → hV u 230 6 < 1999 → m_X10_passes_L4 n 220 a i u = some (a + sumU G k i, hput u 230 (sup (payR G k i (hV u 230)) 6 (hV u 230 6 + 1))) := by
  intro k
  induction k with
  | zero =>
    intro n i a u hs ws wv hn hv h0 h1 hG hb h9
    have w6 := ws.2.2
    obtain ⟨m, rfl⟩ : ∃ m, n = m + 1 := ⟨n - 1, by omega⟩
    have e : w32 (hV u 230 6 + 1) = hV u 230 6 + 1 := w32_id ⟨by omega, by omega⟩
    simp only [m_X10_passes_L4, hgI_k, hgR_k, hpI_k, hpR_k, hpZ_k, haI_k, haR_k, hsI_k, hsZ_k, hlen_k, hlet_e, hret_e, hretZ_0, hretZ_1, hif_e, okk_setV, okk_setF, nV, nF, fV, vF, haI_4, haI_6, hsI_6, kk_220 hs, kk_230 hs, rf_220_20 hs, ln_230 hs, lt_c 4 160 rfl, lt_c 6 160 rfl, e]
    rw [if_pos (by omega), setV_put1]
    unfold sumU payR
    rw [Int.add_zero]
  | succ k ih =>
    intro n i a u hs ws wv hn hv h0 h1 hG hb h9
    have w4 := ws.1
    have w5 := ws.2.1
    have w6 := ws.2.2
    obtain ⟨m, rfl⟩ : ∃ m, n = m + 1 := ⟨n - 1, by omega⟩
    have hi : i < 4 := by omega
    have i4 : i < 1000000 := by omega
    have i3 : 10 + 3 * i < 1000000 := by omega
    have k2 : 10 + 3 * i + 2 < 160 := by omega
    have e2 : 10 + 3 * i + 2 = 12 + 3 * i := by omega
    have gi := gsum_in wv i (hV u 230 5).toNat 0 (by omega)
    rw [hG i hi] at gi
    have gp := hb i (by omega) (by omega)
    have x1 : w32 (hV u 230 (12 + 3 * i) + G i) = hV u 230 (12 + 3 * i) + G i := w32_id ⟨by omega, by omega⟩
    have x2 : w32 (a + G i) = a + G i := w32_id ⟨by omega, by omega⟩
    have pa := y_payAtD hs ws wv i
    rw [hG i hi] at pa
    simp only [m_X10_passes_L4, hgI_k, hgR_k, hpI_k, hpR_k, hpZ_k, haI_k, haR_k, hsI_k, hsZ_k, hlen_k, hlet_e, hret_e, hretZ_0, hretZ_1, hif_e, okk_setV, okk_setF, nV, nF, fV, vF, haI_4, haI_6, haI_n, hsI_n, hcallV_b, hbind_s, y_personOf0 hs hi, pa, ix_10 hi, ix_2 i3, ix_s i4, kk_220 hs, kk_230 hs, rf_220_20 hs, ln_230 hs, lt_c 4 160 rfl, lt_c 6 160 rfl, k2]
    simp only [e2, x1, x2]
    have s4 : sup (hV u 230) (12 + 3 * i) (hV u 230 (12 + 3 * i) + G i) 4 = hV u 230 4 := sup_n (by omega)
    have s5 : sup (hV u 230) (12 + 3 * i) (hV u 230 (12 + 3 * i) + G i) 5 = hV u 230 5 := sup_n (by omega)
    have s6 : sup (hV u 230) (12 + 3 * i) (hV u 230 (12 + 3 * i) + G i) 6 = hV u 230 6 := sup_n (by omega)
    have q := ih m (i + 1) (a + G i) (hput u 230 (sup (hV u 230) (12 + 3 * i) (hV u 230 (12 + 3 * i) + G i))) hs (by rw [hV_put_s]; exact WSd_sup (by omega) ws) (by rw [hV_put_s]; exact WW_sup hi wv) (by omega) (by rw [hV_put_s, s4]; omega) (by omega) (by omega) (by
      rw [hV_put_s, s5]
      intro p hp
      rw [gsum_sup hi]
      exact hG p hp) (by
      rw [hV_put_s, s4]
      intro p h1 h2
      rw [sup_n (by omega)]
      exact hb p (by omega) h2) (by rw [hV_put_s, s6]; exact h9)
    rw [hV_put_s, s6, put_put] at q
    rw [if_neg (by omega), setV_put1, q, sumU_s]
    congr 2
    omega
theorem y_passesD {u : hS} (hs : shp u) (ws : WSd (hV u 230)) (ww : WW (hV u 230)) (hb : ∀ p : Nat, (p : Int) < hV u 230 4 → 0 ≤ hV u 230 (12 + 3 * p) ∧ hV u 230 (12 + 3 * p) ≤ 1000000) (h9 : hV u 230 6 < 1999) : m_X10_passes 220 u = some (qDayR (hV u 230), hput u 230 (qDay (hV u 230))) := by
  have w4 := ws.1
  have h := y_passLD (G := fun p => gsum (hV u 230) p (hV u 230 5).toNat 0) (hV u 230 4).toNat 1000000000 0 0 u hs ws ww (by omega) (by omega) (by omega) (by omega) (fun _ _ => rfl) (fun p _ h => hb p h) h9
  rw [Int.zero_add] at h
  simp only [m_X10_passes, hlet_p]
  exact h
theorem x_endZ {s t : Nat} (d : s + 5 ≤ t ∨ t + 18 ≤ s) {u : hS} {S : Nat → Int} (r : RepS u s t S) (w : WS S) (wv : WV S) (h9 : S 6 = 999) : ∀ (k n i : Nat), k < n → S 5 = ((i + k : Nat) : Int) → m_X4_endDay_L4 n s 0 i u = some (0, hsetV u s 1 999) := by
  have ht := r.ht
  have ha := r.ha
  have w2 := w.2.2.1
  have w4 := w.2.2.2.2.1
  have w5 := w.2.2.2.2.2.1
  intro k
  induction k with
  | zero =>
    intro n i hn hv
    obtain ⟨m, rfl⟩ : ∃ m, n = m + 1 := ⟨n - 1, by omega⟩
    have e : w32 (999 + 1) = 1000 := by decide
    simp only [m_X4_endDay_L4, hgI_k, hgR_k, hpI_k, hpR_k, hpZ_k, haI_k, haR_k, hsI_k, hsZ_k, hlen_k, hlet_p, hret_p, hretZ_0, hretZ_1, hif_p, okk_setV, okk_setF, nV, nF, fV, vF, hcall_b, J_min, hbind_p, StA.k0 ha, StA.k1 ha, StA.k2 ha, StA.k3 ha, StA.k4 ha, StA.n1 ha, StA.n2 ha, StA.n3 ha, StA.n4 ha, StA.f2 ha, StA.f3 ha, StA.f4 ha, StA.f5 ha, r.to, TwA.k0 ht, TwA.k1 ht, TwA.k2 ht, TwA.k3 ht, TwA.k4 ht, TwA.k5 ht, TwA.k6 ht, TwA.k7 ht, TwA.k8 ht, TwA.k9 ht, TwA.k10 ht, TwA.k11 ht, TwA.k12 ht, TwA.k13 ht, TwA.k14 ht, TwA.k15 ht, TwA.k16 ht, TwA.k17 ht, TwA.n2 ht, TwA.n3 ht, TwA.n4 ht, TwA.n6 ht, TwA.n7 ht, TwA.n8 ht, TwA.n9 ht, TwA.n10 ht, TwA.n11 ht, TwA.n12 ht, TwA.n13 ht, TwA.n14 ht, TwA.n15 ht, TwA.n16 ht, TwA.n17 ht, TwA.f2 ht, TwA.f3 ht, TwA.f5 ht, TwA.f6 ht, TwA.f8 ht, TwA.f9 ht, TwA.f11 ht, TwA.f12 ht, TwA.f13 ht, TwA.f14 ht, TwA.f15 ht, TwA.b0 ht, TwA.b1 ht, TwA.b2 ht, TwA.g0 ht, TwA.g1 ht, TwA.g2 ht, r.v5, r.v6, h9, e]
    rw [if_pos (by omega), if_pos (by decide)]
  | succ k ih =>
    intro n i hn hv
    obtain ⟨m, rfl⟩ : ∃ m, n = m + 1 := ⟨n - 1, by omega⟩
    have hi : i < 8 := by omega
    have h5 : (i : Int) < S 5 := by omega
    have wi := wv.2.2.2.2 i h5
    simp only [m_X4_endDay_L4, m_X4_endDay_L89, hgI_k, hgR_k, hpI_k, hpR_k, hpZ_k, haI_k, haR_k, hsI_k, hsZ_k, hlen_k, hlet_p, hret_p, hretZ_0, hretZ_1, hif_p, okk_setV, okk_setF, nV, nF, fV, vF, haI_n, StA.k0 ha, StA.k1 ha, StA.k2 ha, StA.k3 ha, StA.k4 ha, StA.n1 ha, StA.n2 ha, StA.n3 ha, StA.n4 ha, StA.f2 ha, StA.f3 ha, StA.f4 ha, StA.f5 ha, r.to, TwA.k0 ht, TwA.k1 ht, TwA.k2 ht, TwA.k3 ht, TwA.k4 ht, TwA.k5 ht, TwA.k6 ht, TwA.k7 ht, TwA.k8 ht, TwA.k9 ht, TwA.k10 ht, TwA.k11 ht, TwA.k12 ht, TwA.k13 ht, TwA.k14 ht, TwA.k15 ht, TwA.k16 ht, TwA.k17 ht, TwA.n2 ht, TwA.n3 ht, TwA.n4 ht, TwA.n6 ht, TwA.n7 ht, TwA.n8 ht, TwA.n9 ht, TwA.n10 ht, TwA.n11 ht, TwA.n12 ht, TwA.n13 ht, TwA.n14 ht, TwA.n15 ht, TwA.n16 ht, TwA.n17 ht, TwA.f2 ht, TwA.f3 ht, TwA.f5 ht, TwA.f6 ht, TwA.f8 ht, TwA.f9 ht, TwA.f11 ht, TwA.f12 ht, TwA.f13 ht, TwA.f14 ht, TwA.f15 ht, TwA.b0 ht, TwA.b1 ht, TwA.b2 ht, TwA.g0 ht, TwA.g1 ht, TwA.g2 ht, r.v5, r.v6, hi, r.wa0 i h5, r.wa2 i h5, ix_s (show i < 1000000 by omega), ih m (i + 1) (by omega) (by omega)]
    rw [if_neg (by omega), if_pos (by omega)]
/-! draws -/
def nxX (x : Int) : Int := (x * 1103515245 + 12345) % 2147483648
def drw (x m : Int) : Int := nxX x / 65536 % m
theorem nxX_in (x : Int) : 0 ≤ nxX x ∧ nxX x < 2147483648 := by
  unfold nxX
  omega
theorem drw_in {x m : Int} (hm : 1 ≤ m) : 0 ≤ drw x m ∧ drw x m < m := by
  unfold drw
  exact ⟨Int.emod_nonneg _ (by omega), Int.emod_lt_of_pos _ (by omega)⟩
theorem hnz_p {y : Int} {f : hM} {u : hS} (h : y ≠ 0) : hnz y f u = f u := if_neg h
theorem landM (a : Nat) (h : a < 9223372036854775808) : landZ (a : Int) 2147483647 = ((a % 2147483648 : Nat) : Int) := by
  have hc : a % 2147483648 < 2147483648 := Nat.mod_lt _ (by decide)
  have e : a &&& 2147483647 = a % 2147483648 := Nat.and_two_pow_sub_one_eq_mod a 31
  show (Int64.ofInt (a : Int) &&& Int64.ofInt ((2147483647 : Nat) : Int)).toBitVec.toInt = _
  have b : ∀ n : Nat, (Int64.ofInt (n : Int)).toBitVec = BitVec.ofNat 64 n := fun n => by
    rw [Int64.toBitVec_ofInt]
    exact BitVec.ofInt_natCast 64 n
  rw [Int64.toBitVec_and, b, b, ← BitVec.ofNat_and, e, BitVec.toInt_eq_toNat_bmod, BitVec.toNat_ofNat, Nat.mod_eq_of_lt (by omega)]
  exact w64_id ⟨by omega, by omega⟩
theorem draw_1 {x : Int} (h : 0 ≤ x ∧ x < 2147483648) : landZ (w64 (w64 (x * 1103515245) + 12345)) 2147483647 = nxX x := by
  have e1 : w64 (x * 1103515245) = x * 1103515245 := w64_id ⟨by omega, by omega⟩
  have e2 : w64 (x * 1103515245 + 12345) = x * 1103515245 + 12345 := w64_id ⟨by omega, by omega⟩
  rw [e1, e2]
  obtain ⟨a, ha⟩ : ∃ a : Nat, x * 1103515245 + 12345 = a := ⟨(x * 1103515245 + 12345).toNat, by omega⟩
  unfold nxX
  rw [ha, landM a (by omega)]
  omega
theorem draw_2 {x : Int} (h : 0 ≤ x ∧ x < 2147483648) : lremZ (w64 (w64 (x * 1103515245) + 12345)) 2147483648 = nxX x := by
  have e1 : w64 (x * 1103515245) = x * 1103515245 := w64_id ⟨by omega, by omega⟩
  have e2 : w64 (x * 1103515245 + 12345) = x * 1103515245 + 12345 := w64_id ⟨by omega, by omega⟩
  rw [e1, e2]
  exact Int.tmod_eq_emod_of_nonneg (by omega)
theorem draw_3 (x : Int) : ldivZ (nxX x) 65536 = nxX x / 65536 := by
  have h := nxX_in x
  unfold ldivZ
  rw [Int.tdiv_eq_ediv_of_nonneg h.1]
  exact w64_id ⟨by omega, by omega⟩
theorem x_draw {u : hS} (hs : shp u) (h : 0 ≤ hV u 1 9 ∧ hV u 1 9 < 2147483648) {m : Int} (hm : 1 ≤ m) : m_X9_drawBelow 1 m u = some (drw (hV u 1 9) m, hsetV u 1 9 (nxX (hV u 1 9))) := by
  have q := nxX_in (hV u 1 9)
  have e : w32 (nxX (hV u 1 9) / 65536) = nxX (hV u 1 9) / 65536 := w32_id ⟨by omega, by omega⟩
  have e2 : iremZ (nxX (hV u 1 9) / 65536) m = drw (hV u 1 9) m := Int.tmod_eq_emod_of_nonneg (by omega)
  have m0 : m ≠ 0 := by omega
  have c : (65536 : Int) ≠ 0 := by decide
  simp only [m_X9_drawBelow_L39, m_X9_drawBelow, hgI_k, hgR_k, hpI_k, hpR_k, hpZ_k, haI_k, haR_k, hsI_k, hsZ_k, hlen_k, hlet_p, hret_p, hretZ_0, hretZ_1, hif_p, okk_setV, okk_setF, nV, nF, fV, vF, kk_1 hs, draw_1 h, hV_setV_s, draw_3, e, e2, hnz_p m0, hnz_p c]
  rw [if_neg (by omega)]
theorem y_draw {u : hS} (hs : shp u) (h : 0 ≤ hV u 220 39 ∧ hV u 220 39 < 2147483648) {m : Int} (hm : 1 ≤ m) (hm2 : m ≤ 100) : m_X10_draw 220 m u = some (drw (hV u 220 39) m, hsetV u 220 39 (nxX (hV u 220 39))) := by
  have q := nxX_in (hV u 220 39)
  have e2 : lremZ (nxX (hV u 220 39) / 65536) m = drw (hV u 220 39) m := Int.tmod_eq_emod_of_nonneg (by omega)
  have di := drw_in (x := hV u 220 39) hm
  have e : w32 (drw (hV u 220 39) m) = drw (hV u 220 39) m := w32_id ⟨by omega, by omega⟩
  have m0 : m ≠ 0 := by omega
  have c : (65536 : Int) ≠ 0 := by decide
  have c2 : (2147483648 : Int) ≠ 0 := by decide
  simp only [m_X10_draw, hgI_k, hgR_k, hpI_k, hpR_k, hpZ_k, haI_k, haR_k, hsI_k, hsZ_k, hlen_k, hlet_p, hret_p, hretZ_0, hretZ_1, hif_p, okk_setV, okk_setF, nV, nF, fV, vF, kk_220 hs, draw_2 h, hV_setV_s, draw_3, e2, e, hnz_p m0, hnz_p c, hnz_p c2]
