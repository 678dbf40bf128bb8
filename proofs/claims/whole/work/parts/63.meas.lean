/-! the class's measuring -/
theorem x_fillL {u : hS} {l : Nat} (h : okk u l 20) {N : Nat} (hN : hN u l = N) (hs : N < 1000) (v : Int) (g : Nat → Int) : ∀ k n i : Nat, k < n → i + k = N → m_J7_fill_53178_L5 n l v i (N : Int) (hput u l (fun j => if j < i then v else g j)) = some (0, hput u l (fun j => if j < N then v else g j)) := by
  intro k
  induction k with
  | zero =>
    intro n i hn hi
    obtain ⟨m, rfl⟩ : ∃ m, n = m + 1 := ⟨n - 1, by omega⟩
    obtain rfl : i = N := by omega
    simp only [m_J7_fill_53178_L5, hgI_k, hgR_k, hpI_k, hpR_k, hpZ_k, haI_k, haR_k, hsI_k, hsZ_k, hlen_k, hlet_p, hret_p, hretZ_0, hretZ_1, hif_p, okk_setV, okk_setF, nV, nF, fV, vF]
    rw [if_pos (by omega)]
  | succ k ih =>
    intro n i hn hi
    obtain ⟨m, rfl⟩ : ∃ m, n = m + 1 := ⟨n - 1, by omega⟩
    have i1 : i < N := by omega
    simp only [m_J7_fill_53178_L5, hgI_k, hgR_k, hpI_k, hpR_k, hpZ_k, haI_k, haR_k, hsI_k, hsZ_k, hlen_k, hlet_p, hret_p, hretZ_0, hretZ_1, hif_p, okk_setV, okk_setF, nV, nF, fV, vF, okk_put, nP, fP, hsI_n, h, hN, i1, ix_s (show i < 1000000 by omega), setV_put]
    rw [if_neg (by omega), ← ih m (i + 1) (by omega) (by omega)]
    congr 2
    funext j
    unfold sup
    by_cases e : j = i
    · rw [if_pos e, if_pos (by omega)]
    · rw [if_neg e]
      show (if j < i then v else g j) = (if j < i + 1 then v else g j)
      by_cases e1 : j < i
      · rw [if_pos e1, if_pos (by omega)]
      · rw [if_neg e1, if_neg (by omega)]
theorem x_fill {u : hS} {l : Nat} (h : okk u l 20) {N : Nat} (hN : hN u l = N) (hs : N < 1000) (v : Int) : m_J7_fill_53178 l v u = some (0, hput u l (fun j => if j < N then v else hV u l j)) := by
  have e := x_fillL h hN hs v (hV u l) N 1000000000 0 (by omega) (by omega)
  have e0 : (fun j => if j < 0 then v else hV u l j) = hV u l := by
    funext j
    exact if_neg (by omega)
  rw [e0, hput_self] at e
  simp only [m_J7_fill_53178, hgI_k, hgR_k, hpI_k, hpR_k, hpZ_k, haI_k, haR_k, hsI_k, hsZ_k, hlen_k, hlet_p, hret_p, hretZ_0, hretZ_1, hif_p, okk_setV, okk_setF, nV, nF, fV, vF, h, hN]
  exact e
theorem sup_min (D : Nat → Int) (x y : Nat) : sup D x (if D x > D y + 1 then D y + 1 else D x) = relx D y x := by
  unfold relx
  by_cases h : D y + 1 < D x
  · rw [if_pos h, if_pos (by omega)]
  · rw [if_neg h, if_neg (by omega)]
    funext j
    unfold sup
    by_cases e : j = x
    · rw [if_pos e, e]
    · rw [if_neg e]
theorem J_min (a b : Int) (u : hS) : m_J9_min_7cf53 a b u = some (if a > b then b else a, u) := by
  simp only [m_J9_min_7cf53_L10, m_J9_min_7cf53, hgI_k, hgR_k, hpI_k, hpR_k, hpZ_k, haI_k, haR_k, hsI_k, hsZ_k, hlen_k, hlet_p, hret_p, hretZ_0, hretZ_1, hif_p, okk_setV, okk_setF, nV, nF, fV, vF]
  split <;> rfl
theorem relx_to (D : Nat → Int) (x y : Nat) : relx D x y y ≤ D x + 1 := by
  unfold relx
  split
  · rw [sup_s]
    omega
  · omega
theorem x_meL {u : hS} (hs : shp u) {s t p a : Nat} {S : Nat → Int} (r0 : RepS u s t S) {l : Nat} (kl : okk u l 20) (nl : hN u l = 8) (lz : l = 8 ∨ l = 9) (sz : 30 ≤ s) (tz : t = 12 ∨ 243 ≤ t) (ws : WS S) (wv : WV S) (hp : (p : Int) < S 4) (l4 : Int) (K : Nat → Int → Nat → Int → hM) : ∀ (k n i : Nat) (D : Nat → Int), k < n → S 2 = ((i + k : Nat) : Int) → isPre S (opnX S (-1) p) a D → ∃ E : Nat → Int, m_X4_measure_L28 K n s p l l4 i (hput u l D) = K s p l (w32 (l4 + 1)) (hput u l E) ∧ isPre S (opnX S (-1) p) a E ∧ (∀ q, E q ≤ D q) ∧ ∀ b : Nat, i ≤ b → b < i + k → opnX S (-1) p b = true → E (S (94 + 2 * b + 1)).toNat ≤ D (S (94 + 2 * b)).toNat + 1 ∧ E (S (94 + 2 * b)).toNat ≤ D (S (94 + 2 * b + 1)).toNat + 1 := by
  have w0 := ws.1
  have w2 := ws.2.2.1
  intro k
  induction k with
  | zero =>
    intro n i D hn hv hD
    obtain ⟨n, rfl⟩ : ∃ k, n = k + 1 := ⟨n - 1, by omega⟩
    have r := r0.fr (ext.put u l D) (fun a _ _ => agr.put (by omega)) (fun a _ _ => agr.put (by omega))
    have ht := r.ht
    have ha := r.ha
    refine ⟨D, ?_, hD, fun _ => Int.le_refl _, fun b h1 h2 => by omega⟩
    simp only [m_X4_measure_L28, hgI_k, hgR_k, hpI_k, hpR_k, hpZ_k, haI_k, haR_k, hsI_k, hsZ_k, hlen_k, hlet_p, hret_p, hretZ_0, hretZ_1, hif_p, okk_setV, okk_setF, nV, nF, fV, vF, StA.k0 ha, StA.k1 ha, StA.k2 ha, StA.k3 ha, StA.k4 ha, StA.n1 ha, StA.n2 ha, StA.n3 ha, StA.n4 ha, StA.f2 ha, StA.f3 ha, StA.f4 ha, StA.f5 ha, r.to, TwA.k0 ht, TwA.k1 ht, TwA.k2 ht, TwA.k3 ht, TwA.k4 ht, TwA.k5 ht, TwA.k6 ht, TwA.k7 ht, TwA.k8 ht, TwA.k9 ht, TwA.k10 ht, TwA.k11 ht, TwA.k12 ht, TwA.k13 ht, TwA.k14 ht, TwA.k15 ht, TwA.k16 ht, TwA.k17 ht, TwA.n2 ht, TwA.n3 ht, TwA.n4 ht, TwA.n6 ht, TwA.n7 ht, TwA.n8 ht, TwA.n9 ht, TwA.n10 ht, TwA.n11 ht, TwA.n12 ht, TwA.n13 ht, TwA.n14 ht, TwA.n15 ht, TwA.n16 ht, TwA.n17 ht, TwA.f2 ht, TwA.f3 ht, TwA.f5 ht, TwA.f6 ht, TwA.f8 ht, TwA.f9 ht, TwA.f11 ht, TwA.f12 ht, TwA.f13 ht, TwA.f14 ht, TwA.f15 ht, TwA.b0 ht, TwA.b1 ht, TwA.b2 ht, TwA.g0 ht, TwA.g1 ht, TwA.g2 ht, r.v2]
    rw [if_pos (by omega)]
  | succ k ih =>
    intro n i D hn hv hD
    obtain ⟨n, rfl⟩ : ∃ k, n = k + 1 := ⟨n - 1, by omega⟩
    have r := r0.fr (ext.put u l D) (fun a _ _ => agr.put (by omega)) (fun a _ _ => agr.put (by omega))
    have ht := r.ht
    have ha := r.ha
    have hi : i < 9 := by omega
    have hi2 : (i : Int) < S 2 := by omega
    have z := wv.1 i hi2
    obtain ⟨x, hx⟩ : ∃ x : Nat, S (94 + 2 * i) = x := ⟨(S (94 + 2 * i)).toNat, by omega⟩
    obtain ⟨y, hy⟩ : ∃ y : Nat, S (94 + 2 * i + 1) = y := ⟨(S (94 + 2 * i + 1)).toNat, by omega⟩
    rw [hx, hy] at z
    have x8 : x < 8 := by omega
    have y8 : y < 8 := by omega
    by_cases ho : 0 < qLeft S p i
    case neg =>
      obtain ⟨E, e1, e2, e3, e4⟩ := ih n (i + 1) D (by omega) (by omega) hD
      refine ⟨E, ?_, e2, e3, fun b h1 h2 h3 => ?_⟩
      · simp only [m_X4_measure_L28, m_X4_measure_L117, hgI_k, hgR_k, hpI_k, hpR_k, hpZ_k, haI_k, haR_k, hsI_k, hsZ_k, hlen_k, hlet_p, hret_p, hretZ_0, hretZ_1, hif_p, okk_setV, okk_setF, nV, nF, fV, vF, hcallV_b, hbind_s, StA.k0 ha, StA.k1 ha, StA.k2 ha, StA.k3 ha, StA.k4 ha, StA.n1 ha, StA.n2 ha, StA.n3 ha, StA.n4 ha, StA.f2 ha, StA.f3 ha, StA.f4 ha, StA.f5 ha, r.to, TwA.k0 ht, TwA.k1 ht, TwA.k2 ht, TwA.k3 ht, TwA.k4 ht, TwA.k5 ht, TwA.k6 ht, TwA.k7 ht, TwA.k8 ht, TwA.k9 ht, TwA.k10 ht, TwA.k11 ht, TwA.k12 ht, TwA.k13 ht, TwA.k14 ht, TwA.k15 ht, TwA.k16 ht, TwA.k17 ht, TwA.n2 ht, TwA.n3 ht, TwA.n4 ht, TwA.n6 ht, TwA.n7 ht, TwA.n8 ht, TwA.n9 ht, TwA.n10 ht, TwA.n11 ht, TwA.n12 ht, TwA.n13 ht, TwA.n14 ht, TwA.n15 ht, TwA.n16 ht, TwA.n17 ht, TwA.f2 ht, TwA.f3 ht, TwA.f5 ht, TwA.f6 ht, TwA.f8 ht, TwA.f9 ht, TwA.f11 ht, TwA.f12 ht, TwA.f13 ht, TwA.f14 ht, TwA.f15 ht, TwA.b0 ht, TwA.b1 ht, TwA.b2 ht, TwA.g0 ht, TwA.g1 ht, TwA.g2 ht, r.v2, x_leftTo r ws hp hi2, ix_s (show i < 1000000 by omega)]
        rw [if_neg (by omega), if_pos (by omega)]
        exact e1
      · by_cases eb : b = i
        · subst eb
          have q := of_decide_eq_true h3
          omega
        · exact e4 b (by omega) (by omega) h3
    have oo : opnX S (-1) p i = true := decide_eq_true (Or.inr ho)
    have p1 := relx_pre hD hi2 oo (x := y) (y := x) (by omega) (by omega) (by rw [← hx, ← hy]; exact qEnd_1 _ _)
    have p2 := relx_pre p1 hi2 oo (x := x) (y := y) (by omega) (by omega) (by rw [← hx, ← hy]; exact qEnd_0 _ _)
    have bx := (hD.2 x (by omega)).1
    have by' := (hD.2 y (by omega)).1
    have cx := (p1.2 x (by omega)).1
    have m1 : w32 (D y + 1) = D y + 1 := w32_id ⟨by omega, by omega⟩
    have m2 : w32 (relx D y x x + 1) = relx D y x x + 1 := w32_id ⟨by omega, by omega⟩
    obtain ⟨E, e1, e2, e3, e4⟩ := ih n (i + 1) (relx (relx D y x) x y) (by omega) (by omega) p2
    refine ⟨E, ?_, e2, fun q => ?_, fun b h1 h2 h3 => ?_⟩
    · simp only [m_X4_measure_L28, m_X4_measure_L117, hgI_k, hgR_k, hpI_k, hpR_k, hpZ_k, haI_k, haR_k, hsI_k, hsZ_k, hlen_k, hlet_p, hret_p, hretZ_0, hretZ_1, hif_p, okk_setV, okk_setF, nV, nF, fV, vF, okk_put, nP, fP, hcallV_b, hcall_b, hbind_s, haI_n, hsI_n, J_min, StA.k0 ha, StA.k1 ha, StA.k2 ha, StA.k3 ha, StA.k4 ha, StA.n1 ha, StA.n2 ha, StA.n3 ha, StA.n4 ha, StA.f2 ha, StA.f3 ha, StA.f4 ha, StA.f5 ha, r.to, TwA.k0 ht, TwA.k1 ht, TwA.k2 ht, TwA.k3 ht, TwA.k4 ht, TwA.k5 ht, TwA.k6 ht, TwA.k7 ht, TwA.k8 ht, TwA.k9 ht, TwA.k10 ht, TwA.k11 ht, TwA.k12 ht, TwA.k13 ht, TwA.k14 ht, TwA.k15 ht, TwA.k16 ht, TwA.k17 ht, TwA.n2 ht, TwA.n3 ht, TwA.n4 ht, TwA.n6 ht, TwA.n7 ht, TwA.n8 ht, TwA.n9 ht, TwA.n10 ht, TwA.n11 ht, TwA.n12 ht, TwA.n13 ht, TwA.n14 ht, TwA.n15 ht, TwA.n16 ht, TwA.n17 ht, TwA.f2 ht, TwA.f3 ht, TwA.f5 ht, TwA.f6 ht, TwA.f8 ht, TwA.f9 ht, TwA.f11 ht, TwA.f12 ht, TwA.f13 ht, TwA.f14 ht, TwA.f15 ht, TwA.b0 ht, TwA.b1 ht, TwA.b2 ht, TwA.g0 ht, TwA.g1 ht, TwA.g2 ht, r.v2, x_leftTo r ws hp hi2, hi, r.br0 i hi2, r.br1 i hi2, hx, hy, kl, nl, x8, y8, hV_put_s, m1, setV_put, sup_min, m2, ix_s (show i < 1000000 by omega)]
      rw [if_neg (by omega), if_neg (by omega)]
      exact e1
    · have q1 := relx_le (relx D y x) x y q
      have q2 := relx_le D y x q
      have q3 := e3 q
      omega
    · by_cases eb : b = i
      · subst eb
        rw [hx, hy, Int.toNat_natCast, Int.toNat_natCast]
        have q1 := relx_to (relx D y x) x y
        have q2 := relx_le D y x x
        have q3 := e3 y
        have q4 := e3 x
        have q5 := relx_le (relx D y x) x y x
        have q6 := relx_to D y x
        omega
      · have q := e4 b (by omega) (by omega) h3
        have q1 := relx_le (relx D y x) x y (S (94 + 2 * b)).toNat
        have q2 := relx_le D y x (S (94 + 2 * b)).toNat
        have q3 := relx_le (relx D y x) x y (S (94 + 2 * b + 1)).toNat
        have q4 := relx_le D y x (S (94 + 2 * b + 1)).toNat
        omega
