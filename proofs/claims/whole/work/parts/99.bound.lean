/-! the class's bounds, and the plan solved -/
theorem bdN_in {S L0 : Nat → Int} {B : Nat} {G : Nat → Int → Int} {h : Int} (hG : ∀ k q, 0 ≤ G k q ∧ G k q ≤ 800) : ∀ (d k : Nat) (q : Int), -1 ≤ bdN S L0 B G h d k q ∧ bdN S L0 B G h d k q ≤ 800 * (d : Int) := by
  intro d
  induction d with
  | zero =>
    intro k q
    show -1 ≤ (if q = h then (0 : Int) else -1) ∧ (if q = h then (0 : Int) else -1) ≤ 800 * ((0 : Nat) : Int)
    split <;> omega
  | succ d ih =>
    intro k q
    have bb : ∀ x, -1 ≤ bbS (bdN S L0 B G h d (k + 1)) G k x ∧ bbS (bdN S L0 B G h d (k + 1)) G k x ≤ 800 * ((d + 1 : Nat) : Int) := fun x => by
      have a := ih (k + 1) x
      have g := hG k x
      unfold bbS
      split <;> omega
    have C : ∀ m i a, -1 ≤ a ∧ a ≤ 800 * ((d + 1 : Nat) : Int) → -1 ≤ bdC S L0 (bbS (bdN S L0 B G h d (k + 1)) G k) q m i a ∧ bdC S L0 (bbS (bdN S L0 B G h d (k + 1)) G k) q m i a ≤ 800 * ((d + 1 : Nat) : Int) := by
      intro m
      induction m with
      | zero =>
        intro i a ha
        exact ha
      | succ m ihm =>
        intro i a ha
        refine ihm (i + 1) _ ?_
        have b := bb (qEnd S (94 + 2 * i) q)
        split
        · split
          · exact b
          · exact ha
        · exact ha
    exact C B 0 _ (bb q)
def pfC (w : hS) (t n B N : Nat) (S : Nat → Int) (G : Nat → Int → Int) (h : Int) : Prop := shp w ∧ RepF w 30 t S ∧ hF w 40 5 = t ∧ hV w 40 6 = (n : Int) ∧ (1 ≤ n ∧ n ≤ 6) ∧ hV w 40 8 = h ∧ S 2 = (B : Int) ∧ S 0 = (N : Int) ∧ (∀ k q : Nat, k < n → q < N → hV w 42 (8 * k + q) = G k q) ∧ ∀ k q, 0 ≤ G k q ∧ G k q ≤ 800
theorem x_bbD {w : hS} {t n B N : Nat} {S : Nat → Int} {G : Nat → Int → Int} {h : Int} (c : pfC w t n B N S G h) {k q : Nat} (hk : k < n) (hq : q < N) (D : Nat → Int) (hD : D (8 * (k + 1) + q) = bdN S (hV w 41) B G h (n - (k + 1)) (k + 1) q) : m_X2_boundBy 40 k q (hput w 43 D) = some (bbS (bdN S (hV w 41) B G h (n - (k + 1)) (k + 1)) G k q, hput w 43 D) := by
  obtain ⟨hs, rf, f5, v6, hn, v8, hB, hN, hg, hG⟩ := c
  have w0 := rf.2.2.2.1.1
  have h1 : shp (hput w 43 D) := hs
  have bi := bdN_in (S := S) (L0 := hV w 41) (B := B) (h := h) hG (n - (k + 1)) (k + 1) q
  have gi := hG k q
  have g1 := hg k q hk hq
  have i1 : 8 * (k + 1) + q < 56 := by omega
  have i2 : 8 * k + q < 48 := by omega
  have k100 : k < 100 := by omega
  have q100 : q < 100 := by omega
  have e3 : w32 (bdN S (hV w 41) B G h (n - (k + 1)) (k + 1) q + G k q) = bdN S (hV w 41) B G h (n - (k + 1)) (k + 1) q + G k q := w32_id ⟨by omega, by omega⟩
  have q42 : hV (hput w 43 D) 42 = hV w 42 := hV_put_n (by decide)
  simp only [m_X2_boundBy_L36, m_X2_boundBy, hgI_k, hgR_k, hpI_k, hpR_k, hpZ_k, haI_k, haR_k, hsI_k, hsZ_k, hlen_k, hlet_p, hret_p, hretZ_0, hretZ_1, hif_p, okk_setV, okk_setF, nV, nF, fV, vF, haI_n, kk_40 h1, rf_40_1 h1, rf_40_2 h1, kk_43 h1, ln_43 h1, kk_42 h1, ln_42 h1, ix_kb k100 q100, ix_kq k100 q100, i1, i2, hV_put_s, q42, hD, g1, e3]
  unfold bbS
  by_cases z : bdN S (hV w 41) B G h (n - (k + 1)) (k + 1) q = -1
  · rw [if_neg (fun y => y z), if_pos z]
  · rw [if_pos z, if_neg z]
theorem x_bdC {w : hS} {t n B N : Nat} {S : Nat → Int} {G : Nat → Int → Int} {h : Int} (c : pfC w t n B N S G h) {k q : Nat} (hk : k < n) (hq : q < N) (D : Nat → Int) (hD : ∀ x, x < N → D (8 * (k + 1) + x) = bdN S (hV w 41) B G h (n - (k + 1)) (k + 1) x) (K1 : Nat → Int → hM) (K2 : Nat → Int → Int → hM) : ∀ (m fl i : Nat) (a : Int), m < fl → i + m = B → m_X2_findBounds_L80 K1 K2 fl 40 k q a i (hput w 43 D) = K2 40 k ((q + 1 : Nat) : Int) (hput w 43 (sup D (8 * k + q) (bdC S (hV w 41) (bbS (bdN S (hV w 41) B G h (n - (k + 1)) (k + 1)) G k) q m i a))) := by
  obtain ⟨hs, rf, f5, v6, hn, v8, hB, hN, hg, hG⟩ := id c
  obtain ⟨rs, tz, rw0, ws, wv⟩ := id rf
  have w0 := ws.1
  have w2 := ws.2.2.1
  have h1 : shp (hput w 43 D) := hs
  have r0 : RepS (hput w 43 D) 30 t S := rs.fr (ext.put w 43 D) (fun a _ _ => agr.put (by omega)) (fun a _ _ => agr.put (by omega))
  have ht := r0.ht
  have v2 := r0.v2
  have f5' : hF (hput w 43 D) 40 5 = t := f5
  have k100 : k < 100 := by omega
  have q100 : q < 100 := by omega
  have i2 : 8 * k + q < 56 := by omega
  have q41 : hV (hput w 43 D) 41 = hV w 41 := hV_put_n (by decide)
  intro m
  induction m with
  | zero =>
    intro fl i a hf hi
    obtain ⟨fl, rfl⟩ : ∃ x, fl = x + 1 := ⟨fl - 1, by omega⟩
    simp only [m_X2_findBounds_L80, hgI_k, hgR_k, hpI_k, hpR_k, hpZ_k, haI_k, haR_k, hsI_k, hsZ_k, hlen_k, hlet_p, hret_p, hretZ_0, hretZ_1, hif_p, okk_setV, okk_setF, nV, nF, fV, vF, hsI_n, kk_40 h1, f5', TwA.k0 ht, TwA.k1 ht, TwA.k2 ht, TwA.k3 ht, TwA.k4 ht, TwA.k5 ht, TwA.k6 ht, TwA.k7 ht, TwA.k8 ht, TwA.k9 ht, TwA.k10 ht, TwA.k11 ht, TwA.k12 ht, TwA.k13 ht, TwA.k14 ht, TwA.k15 ht, TwA.k16 ht, TwA.k17 ht, TwA.n2 ht, TwA.n3 ht, TwA.n4 ht, TwA.n6 ht, TwA.n7 ht, TwA.n8 ht, TwA.n9 ht, TwA.n10 ht, TwA.n11 ht, TwA.n12 ht, TwA.n13 ht, TwA.n14 ht, TwA.n15 ht, TwA.n16 ht, TwA.n17 ht, TwA.f2 ht, TwA.f3 ht, TwA.f5 ht, TwA.f6 ht, TwA.f8 ht, TwA.f9 ht, TwA.f11 ht, TwA.f12 ht, TwA.f13 ht, TwA.f14 ht, TwA.f15 ht, TwA.b0 ht, TwA.b1 ht, TwA.b2 ht, TwA.g0 ht, TwA.g1 ht, TwA.g2 ht, v2, hB, rf_40_2 h1, kk_43 h1, ln_43 h1, ix_kq k100 q100, i2, setV_put, ix_s (show q < 1000000 by omega)]
    rw [if_pos (by omega)]
    rfl
  | succ m ih =>
    intro fl i a hf hi
    obtain ⟨fl, rfl⟩ : ∃ x, fl = x + 1 := ⟨fl - 1, by omega⟩
    have iB : i < B := by omega
    have i9 : i < 9 := by omega
    have hi2 : (i : Int) < S 2 := by omega
    have ov := x_over r0 ws hi2 q
    show _ = K2 40 k ((q + 1 : Nat) : Int) (hput w 43 (sup D (8 * k + q) (bdC S (hV w 41) (bbS (bdN S (hV w 41) B G h (n - (k + 1)) (k + 1)) G k) q m (i + 1) (if 0 ≤ qEnd S (94 + 2 * i) q ∧ 0 < hV w 41 i then (if a < bbS (bdN S (hV w 41) B G h (n - (k + 1)) (k + 1)) G k (qEnd S (94 + 2 * i) q) then bbS (bdN S (hV w 41) B G h (n - (k + 1)) (k + 1)) G k (qEnd S (94 + 2 * i) q) else a) else a))))
    rw [← ih fl (i + 1) _ (by omega) (by omega)]
    by_cases q0 : 0 ≤ qEnd S (94 + 2 * i) q
    case neg =>
      have em : qEnd S (94 + 2 * i) q = -1 := by
        by_cases y : qEnd S (94 + 2 * i) q = -1
        · exact y
        · exact absurd (qEnd_pos wv hi2 q y) q0
      simp only [m_X2_findBounds_L80, m_X2_findBounds_L138, hgI_k, hgR_k, hpI_k, hpR_k, hpZ_k, haI_k, haR_k, hsI_k, hsZ_k, hlen_k, hlet_p, hret_p, hretZ_0, hretZ_1, hif_p, okk_setV, okk_setF, nV, nF, fV, vF, hcallV_b, hbind_p, kk_40 h1, f5', TwA.k0 ht, TwA.k1 ht, TwA.k2 ht, TwA.k3 ht, TwA.k4 ht, TwA.k5 ht, TwA.k6 ht, TwA.k7 ht, TwA.k8 ht, TwA.k9 ht, TwA.k10 ht, TwA.k11 ht, TwA.k12 ht, TwA.k13 ht, TwA.k14 ht, TwA.k15 ht, TwA.k16 ht, TwA.k17 ht, TwA.n2 ht, TwA.n3 ht, TwA.n4 ht, TwA.n6 ht, TwA.n7 ht, TwA.n8 ht, TwA.n9 ht, TwA.n10 ht, TwA.n11 ht, TwA.n12 ht, TwA.n13 ht, TwA.n14 ht, TwA.n15 ht, TwA.n16 ht, TwA.n17 ht, TwA.f2 ht, TwA.f3 ht, TwA.f5 ht, TwA.f6 ht, TwA.f8 ht, TwA.f9 ht, TwA.f11 ht, TwA.f12 ht, TwA.f13 ht, TwA.f14 ht, TwA.f15 ht, TwA.b0 ht, TwA.b1 ht, TwA.b2 ht, TwA.g0 ht, TwA.g1 ht, TwA.g2 ht, v2, hB, ov, em, ix_s (show i < 1000000 by omega)]
      rw [if_neg (by omega), if_pos trivial, if_neg (fun y => by have := y.1; omega)]
    have en : ¬ qEnd S (94 + 2 * i) q = -1 := by omega
    by_cases o : 0 < hV w 41 i
    · obtain ⟨x, hx⟩ : ∃ x : Nat, qEnd S (94 + 2 * i) q = x := ⟨(qEnd S (94 + 2 * i) q).toNat, by omega⟩
      have zb := wv.1 i hi2
      have xN : x < N := by
        rcases qEnd_cases hx (by omega) with ⟨e1, e2⟩ | ⟨e1, e2⟩ <;> omega
      have bb := x_bbD c hk xN D (hD x xN)
      rw [hx] at ov en ⊢
      simp only [m_X2_findBounds_L80, m_X2_findBounds_L138, hgI_k, hgR_k, hpI_k, hpR_k, hpZ_k, haI_k, haR_k, hsI_k, hsZ_k, hlen_k, hlet_p, hret_p, hretZ_0, hretZ_1, hif_p, okk_setV, okk_setF, nV, nF, fV, vF, hcallV_b, hcall_b, hbind_p, haI_n, kk_40 h1, f5', TwA.k0 ht, TwA.k1 ht, TwA.k2 ht, TwA.k3 ht, TwA.k4 ht, TwA.k5 ht, TwA.k6 ht, TwA.k7 ht, TwA.k8 ht, TwA.k9 ht, TwA.k10 ht, TwA.k11 ht, TwA.k12 ht, TwA.k13 ht, TwA.k14 ht, TwA.k15 ht, TwA.k16 ht, TwA.k17 ht, TwA.n2 ht, TwA.n3 ht, TwA.n4 ht, TwA.n6 ht, TwA.n7 ht, TwA.n8 ht, TwA.n9 ht, TwA.n10 ht, TwA.n11 ht, TwA.n12 ht, TwA.n13 ht, TwA.n14 ht, TwA.n15 ht, TwA.n16 ht, TwA.n17 ht, TwA.f2 ht, TwA.f3 ht, TwA.f5 ht, TwA.f6 ht, TwA.f8 ht, TwA.f9 ht, TwA.f11 ht, TwA.f12 ht, TwA.f13 ht, TwA.f14 ht, TwA.f15 ht, TwA.b0 ht, TwA.b1 ht, TwA.b2 ht, TwA.g0 ht, TwA.g1 ht, TwA.g2 ht, v2, hB, ov, rf_40_0 h1, kk_41 h1, ln_41 h1, i9, q41, bb, J_max, ix_s (show i < 1000000 by omega)]
      rw [if_neg (by omega), if_neg en, if_neg (by omega), if_pos (show 0 ≤ (x : Int) ∧ 0 < hV w 41 i from ⟨by omega, o⟩)]
    · simp only [m_X2_findBounds_L80, m_X2_findBounds_L138, hgI_k, hgR_k, hpI_k, hpR_k, hpZ_k, haI_k, haR_k, hsI_k, hsZ_k, hlen_k, hlet_p, hret_p, hretZ_0, hretZ_1, hif_p, okk_setV, okk_setF, nV, nF, fV, vF, hcallV_b, hbind_p, haI_n, kk_40 h1, f5', TwA.k0 ht, TwA.k1 ht, TwA.k2 ht, TwA.k3 ht, TwA.k4 ht, TwA.k5 ht, TwA.k6 ht, TwA.k7 ht, TwA.k8 ht, TwA.k9 ht, TwA.k10 ht, TwA.k11 ht, TwA.k12 ht, TwA.k13 ht, TwA.k14 ht, TwA.k15 ht, TwA.k16 ht, TwA.k17 ht, TwA.n2 ht, TwA.n3 ht, TwA.n4 ht, TwA.n6 ht, TwA.n7 ht, TwA.n8 ht, TwA.n9 ht, TwA.n10 ht, TwA.n11 ht, TwA.n12 ht, TwA.n13 ht, TwA.n14 ht, TwA.n15 ht, TwA.n16 ht, TwA.n17 ht, TwA.f2 ht, TwA.f3 ht, TwA.f5 ht, TwA.f6 ht, TwA.f8 ht, TwA.f9 ht, TwA.f11 ht, TwA.f12 ht, TwA.f13 ht, TwA.f14 ht, TwA.f15 ht, TwA.b0 ht, TwA.b1 ht, TwA.b2 ht, TwA.g0 ht, TwA.g1 ht, TwA.g2 ht, v2, hB, ov, rf_40_0 h1, kk_41 h1, ln_41 h1, i9, q41, ix_s (show i < 1000000 by omega)]
      rw [if_neg (by omega), if_neg en, if_pos (by omega), if_neg (fun y => o y.2)]
theorem x_bdQ {w : hS} {t n B N : Nat} {S : Nat → Int} {G : Nat → Int → Int} {h : Int} (c : pfC w t n B N S G h) {k : Nat} (hk : k < n) (K1 : Nat → Int → hM) : ∀ (m fl q : Nat) (D : Nat → Int), m < fl → q + m = N → (∀ x, x < N → D (8 * (k + 1) + x) = bdN S (hV w 41) B G h (n - (k + 1)) (k + 1) x) → ∃ D', m_X2_findBounds_L59 K1 fl 40 k q (hput w 43 D) = K1 40 ((k : Int) - 1) (hput w 43 D') ∧ (∀ x, q ≤ x → x < N → D' (8 * k + x) = bdN S (hV w 41) B G h (n - k) k x) ∧ ∀ j, j < 8 * k + q ∨ 8 * k + 8 ≤ j → D' j = D j := by
  obtain ⟨hs, rf, f5, v6, hn, v8, hB, hN, hg, hG⟩ := id c
  obtain ⟨rs, tz, rw0, ws, wv⟩ := id rf
  have w0 := ws.1
  have w2 := ws.2.2.1
  have nk : n - k = (n - (k + 1)) + 1 := by omega
  intro m
  induction m with
  | zero =>
    intro fl q D hf hq hD
    obtain ⟨fl, rfl⟩ : ∃ x, fl = x + 1 := ⟨fl - 1, by omega⟩
    have h1 : shp (hput w 43 D) := hs
    have r0 : RepS (hput w 43 D) 30 t S := rs.fr (ext.put w 43 D) (fun a _ _ => agr.put (by omega)) (fun a _ _ => agr.put (by omega))
    have ht := r0.ht
    have f5' : hF (hput w 43 D) 40 5 = t := f5
    have v0 := r0.v0
    have wk : w32 ((k : Int) + -1) = (k : Int) - 1 := by
      rw [w32_id ⟨by omega, by omega⟩]
      omega
    refine ⟨D, ?_, fun x h1 h2 => by omega, fun _ _ => rfl⟩
    simp only [m_X2_findBounds_L59, hgI_k, hgR_k, hpI_k, hpR_k, hpZ_k, haI_k, haR_k, hsI_k, hsZ_k, hlen_k, hlet_p, hret_p, hretZ_0, hretZ_1, hif_p, okk_setV, okk_setF, nV, nF, fV, vF, kk_40 h1, f5', TwA.k0 ht, TwA.k1 ht, TwA.k2 ht, TwA.k3 ht, TwA.k4 ht, TwA.k5 ht, TwA.k6 ht, TwA.k7 ht, TwA.k8 ht, TwA.k9 ht, TwA.k10 ht, TwA.k11 ht, TwA.k12 ht, TwA.k13 ht, TwA.k14 ht, TwA.k15 ht, TwA.k16 ht, TwA.k17 ht, TwA.n2 ht, TwA.n3 ht, TwA.n4 ht, TwA.n6 ht, TwA.n7 ht, TwA.n8 ht, TwA.n9 ht, TwA.n10 ht, TwA.n11 ht, TwA.n12 ht, TwA.n13 ht, TwA.n14 ht, TwA.n15 ht, TwA.n16 ht, TwA.n17 ht, TwA.f2 ht, TwA.f3 ht, TwA.f5 ht, TwA.f6 ht, TwA.f8 ht, TwA.f9 ht, TwA.f11 ht, TwA.f12 ht, TwA.f13 ht, TwA.f14 ht, TwA.f15 ht, TwA.b0 ht, TwA.b1 ht, TwA.b2 ht, TwA.g0 ht, TwA.g1 ht, TwA.g2 ht, v0, hN, wk]
    rw [if_pos (by omega)]
  | succ m ih =>
    intro fl q D hf hq hD
    obtain ⟨fl, rfl⟩ : ∃ x, fl = x + 1 := ⟨fl - 1, by omega⟩
    have h1 : shp (hput w 43 D) := hs
    have r0 : RepS (hput w 43 D) 30 t S := rs.fr (ext.put w 43 D) (fun a _ _ => agr.put (by omega)) (fun a _ _ => agr.put (by omega))
    have ht := r0.ht
    have f5' : hF (hput w 43 D) 40 5 = t := f5
    have v0 := r0.v0
    have qN : q < N := by omega
    have bb := x_bbD c hk qN D (hD q qN)
    have cc := x_bdC c hk qN D hD K1 (m_X2_findBounds_L59 K1 fl) B 1000000000 0 (bbS (bdN S (hV w 41) B G h (n - (k + 1)) (k + 1)) G k q) (by omega) (by omega)
    have cc' : m_X2_findBounds_L80 K1 (m_X2_findBounds_L59 K1 fl) 1000000000 40 k q (bbS (bdN S (hV w 41) B G h (n - (k + 1)) (k + 1)) G k q) 0 (hput w 43 D) = _ := cc
    have bd : bdC S (hV w 41) (bbS (bdN S (hV w 41) B G h (n - (k + 1)) (k + 1)) G k) q B 0 (bbS (bdN S (hV w 41) B G h (n - (k + 1)) (k + 1)) G k q) = bdN S (hV w 41) B G h (n - k) k q := by
      rw [nk]
      rfl
    rw [bd] at cc'
    obtain ⟨D', d1, d2, d3⟩ := ih fl (q + 1) (sup D (8 * k + q) (bdN S (hV w 41) B G h (n - k) k q)) (by omega) (by omega) (fun x hx => by
      rw [sup_n (by omega)]
      exact hD x hx)
    refine ⟨D', ?_, fun x h1 h2 => ?_, fun j hj => ?_⟩
    · rw [← d1, ← cc']
      simp only [m_X2_findBounds_L59, hgI_k, hgR_k, hpI_k, hpR_k, hpZ_k, haI_k, haR_k, hsI_k, hsZ_k, hlen_k, hlet_p, hret_p, hretZ_0, hretZ_1, hif_p, okk_setV, okk_setF, nV, nF, fV, vF, hcallV_b, hbind_p, kk_40 h1, f5', TwA.k0 ht, TwA.k1 ht, TwA.k2 ht, TwA.k3 ht, TwA.k4 ht, TwA.k5 ht, TwA.k6 ht, TwA.k7 ht, TwA.k8 ht, TwA.k9 ht, TwA.k10 ht, TwA.k11 ht, TwA.k12 ht, TwA.k13 ht, TwA.k14 ht, TwA.k15 ht, TwA.k16 ht, TwA.k17 ht, TwA.n2 ht, TwA.n3 ht, TwA.n4 ht, TwA.n6 ht, TwA.n7 ht, TwA.n8 ht, TwA.n9 ht, TwA.n10 ht, TwA.n11 ht, TwA.n12 ht, TwA.n13 ht, TwA.n14 ht, TwA.n15 ht, TwA.n16 ht, TwA.n17 ht, TwA.f2 ht, TwA.f3 ht, TwA.f5 ht, TwA.f6 ht, TwA.f8 ht, TwA.f9 ht, TwA.f11 ht, TwA.f12 ht, TwA.f13 ht, TwA.f14 ht, TwA.f15 ht, TwA.b0 ht, TwA.b1 ht, TwA.b2 ht, TwA.g0 ht, TwA.g1 ht, TwA.g2 ht, v0, hN, bb]
      rw [if_neg (by omega)]
    · by_cases e : x = q
      · subst e
        rw [d3 _ (by omega), sup_s]
      · exact d2 x (by omega) h2
    · rw [d3 j (by omega), sup_n (by omega)]
theorem x_bdD {w : hS} {t n B N : Nat} {S : Nat → Int} {G : Nat → Int → Int} {h : Int} (c : pfC w t n B N S G h) : ∀ (k fl : Nat) (D : Nat → Int), k < fl → k ≤ n → (∀ j x, k ≤ j → j ≤ n → x < N → D (8 * j + x) = bdN S (hV w 41) B G h (n - j) j x) → ∃ D', m_X2_findBounds_L53 fl 40 ((k : Int) - 1) (hput w 43 D) = some (0, hput w 43 D') ∧ ∀ j x, j ≤ n → x < N → D' (8 * j + x) = bdN S (hV w 41) B G h (n - j) j x := by
  obtain ⟨hs, rf, f5, v6, hn, v8, hB, hN, hg, hG⟩ := id c
  have w0 := rf.2.2.2.1.1
  intro k
  induction k with
  | zero =>
    intro fl D hf hk hD
    obtain ⟨fl, rfl⟩ : ∃ x, fl = x + 1 := ⟨fl - 1, by omega⟩
    refine ⟨D, ?_, fun j x h1 h2 => hD j x (by omega) h1 h2⟩
    simp only [m_X2_findBounds_L53, hgI_k, hgR_k, hpI_k, hpR_k, hpZ_k, haI_k, haR_k, hsI_k, hsZ_k, hlen_k, hlet_p, hret_p, hretZ_0, hretZ_1, hif_p, okk_setV, okk_setF, nV, nF, fV, vF]
    rw [if_pos (by omega)]
  | succ k ih =>
    intro fl D hf hk hD
    obtain ⟨fl, rfl⟩ : ∃ x, fl = x + 1 := ⟨fl - 1, by omega⟩
    obtain ⟨D1, a1, a2, a3⟩ := x_bdQ c (k := k) (by omega) (m_X2_findBounds_L53 fl) N 1000000000 0 D (by omega) (by omega) (fun x hx => hD (k + 1) x (by omega) hk hx)
    obtain ⟨D', b1, b2⟩ := ih fl D1 (by omega) (by omega) (fun j x h1 h2 h3 => by
      by_cases e : j = k
      · subst e
        exact a2 x (by omega) h3
      · rw [a3 _ (by omega)]
        exact hD j x (by omega) h2 h3)
    refine ⟨D', ?_, b2⟩
    have a1' : m_X2_findBounds_L59 (m_X2_findBounds_L53 fl) 1000000000 40 k 0 (hput w 43 D) = _ := a1
    rw [← b1, ← a1']
    have ek : (((k + 1 : Nat) : Int) - 1) = (k : Int) := by omega
    rw [ek]
    simp only [m_X2_findBounds_L53, hgI_k, hgR_k, hpI_k, hpR_k, hpZ_k, haI_k, haR_k, hsI_k, hsZ_k, hlen_k, hlet_p, hret_p, hretZ_0, hretZ_1, hif_p, okk_setV, okk_setF, nV, nF, fV, vF]
    rw [if_neg (by omega)]
theorem x_bdI {w : hS} {t n B N : Nat} {S : Nat → Int} {G : Nat → Int → Int} {h : Int} (c : pfC w t n B N S G h) : ∀ (m fl q : Nat) (D : Nat → Int), m < fl → q + m = N → (∀ x, x < q → D (8 * n + x) = bdN S (hV w 41) B G h 0 n x) → ∃ D', m_X2_findBounds_L2 fl 40 q (hput w 43 D) = some (0, hput w 43 D') ∧ ∀ j x, j ≤ n → x < N → D' (8 * j + x) = bdN S (hV w 41) B G h (n - j) j x := by
  obtain ⟨hs, rf, f5, v6, hn, v8, hB, hN, hg, hG⟩ := id c
  obtain ⟨rs, tz, rw0, ws, wv⟩ := id rf
  have w0 := ws.1
  intro m
  induction m with
  | zero =>
    intro fl q D hf hq hD
    obtain ⟨fl, rfl⟩ : ∃ x, fl = x + 1 := ⟨fl - 1, by omega⟩
    have h1 : shp (hput w 43 D) := hs
    have r0 : RepS (hput w 43 D) 30 t S := rs.fr (ext.put w 43 D) (fun a _ _ => agr.put (by omega)) (fun a _ _ => agr.put (by omega))
    have ht := r0.ht
    have f5' : hF (hput w 43 D) 40 5 = t := f5
    have v0 := r0.v0
    have v6' : hV (hput w 43 D) 40 6 = (n : Int) := by rw [hV_put_n (by decide), v6]
    obtain ⟨D', d1, d2⟩ := x_bdD c n 1000000000 D (by omega) (Nat.le_refl _) (fun j x h1 h2 h3 => by
      obtain rfl : j = n := by omega
      rw [hD x (by omega), Nat.sub_self])
    refine ⟨D', ?_, d2⟩
    rw [← d1]
    have wn : w32 ((n : Int) - 1) = (n : Int) - 1 := w32_id ⟨by omega, by omega⟩
    simp only [m_X2_findBounds_L2, hgI_k, hgR_k, hpI_k, hpR_k, hpZ_k, haI_k, haR_k, hsI_k, hsZ_k, hlen_k, hlet_p, hret_p, hretZ_0, hretZ_1, hif_p, okk_setV, okk_setF, nV, nF, fV, vF, kk_40 h1, f5', TwA.k0 ht, TwA.k1 ht, TwA.k2 ht, TwA.k3 ht, TwA.k4 ht, TwA.k5 ht, TwA.k6 ht, TwA.k7 ht, TwA.k8 ht, TwA.k9 ht, TwA.k10 ht, TwA.k11 ht, TwA.k12 ht, TwA.k13 ht, TwA.k14 ht, TwA.k15 ht, TwA.k16 ht, TwA.k17 ht, TwA.n2 ht, TwA.n3 ht, TwA.n4 ht, TwA.n6 ht, TwA.n7 ht, TwA.n8 ht, TwA.n9 ht, TwA.n10 ht, TwA.n11 ht, TwA.n12 ht, TwA.n13 ht, TwA.n14 ht, TwA.n15 ht, TwA.n16 ht, TwA.n17 ht, TwA.f2 ht, TwA.f3 ht, TwA.f5 ht, TwA.f6 ht, TwA.f8 ht, TwA.f9 ht, TwA.f11 ht, TwA.f12 ht, TwA.f13 ht, TwA.f14 ht, TwA.f15 ht, TwA.b0 ht, TwA.b1 ht, TwA.b2 ht, TwA.g0 ht, TwA.g1 ht, TwA.g2 ht, v0, hN, v6', wn]
    rw [if_pos (by omega)]
  | succ m ih =>
    intro fl q D hf hq hD
    obtain ⟨fl, rfl⟩ : ∃ x, fl = x + 1 := ⟨fl - 1, by omega⟩
    have h1 : shp (hput w 43 D) := hs
    have r0 : RepS (hput w 43 D) 30 t S := rs.fr (ext.put w 43 D) (fun a _ _ => agr.put (by omega)) (fun a _ _ => agr.put (by omega))
    have ht := r0.ht
    have f5' : hF (hput w 43 D) 40 5 = t := f5
    have v0 := r0.v0
    have v6' : hV (hput w 43 D) 40 6 = (n : Int) := by rw [hV_put_n (by decide), v6]
    have v8' : hV (hput w 43 D) 40 8 = h := by rw [hV_put_n (by decide), v8]
    have n100 : n < 100 := by omega
    have q100 : q < 100 := by omega
    have i2 : 8 * n + q < 56 := by omega
    obtain ⟨D', d1, d2⟩ := ih fl (q + 1) (sup D (8 * n + q) (bdN S (hV w 41) B G h 0 n q)) (by omega) (by omega) (fun x hx => by
      by_cases e : x = q
      · subst e
        rw [sup_s]
      · rw [sup_n (by omega)]
        exact hD x (by omega))
    refine ⟨D', ?_, d2⟩
    rw [← d1]
    simp only [m_X2_findBounds_L2, m_X2_findBounds_L39, hgI_k, hgR_k, hpI_k, hpR_k, hpZ_k, haI_k, haR_k, hsI_k, hsZ_k, hlen_k, hlet_p, hret_p, hretZ_0, hretZ_1, hif_p, okk_setV, okk_setF, nV, nF, fV, vF, hsI_n, kk_40 h1, f5', TwA.k0 ht, TwA.k1 ht, TwA.k2 ht, TwA.k3 ht, TwA.k4 ht, TwA.k5 ht, TwA.k6 ht, TwA.k7 ht, TwA.k8 ht, TwA.k9 ht, TwA.k10 ht, TwA.k11 ht, TwA.k12 ht, TwA.k13 ht, TwA.k14 ht, TwA.k15 ht, TwA.k16 ht, TwA.k17 ht, TwA.n2 ht, TwA.n3 ht, TwA.n4 ht, TwA.n6 ht, TwA.n7 ht, TwA.n8 ht, TwA.n9 ht, TwA.n10 ht, TwA.n11 ht, TwA.n12 ht, TwA.n13 ht, TwA.n14 ht, TwA.n15 ht, TwA.n16 ht, TwA.n17 ht, TwA.f2 ht, TwA.f3 ht, TwA.f5 ht, TwA.f6 ht, TwA.f8 ht, TwA.f9 ht, TwA.f11 ht, TwA.f12 ht, TwA.f13 ht, TwA.f14 ht, TwA.f15 ht, TwA.b0 ht, TwA.b1 ht, TwA.b2 ht, TwA.g0 ht, TwA.g1 ht, TwA.g2 ht, v0, hN, v6', v8', rf_40_2 h1, kk_43 h1, ln_43 h1, ix_kq n100 q100, i2, setV_put, ix_s (show q < 1000000 by omega)]
    rw [if_neg (by omega)]
    have b0 : bdN S (hV w 41) B G h 0 n q = if (q : Int) = h then 0 else -1 := rfl
    rw [b0]
    by_cases e : (q : Int) = h
    · rw [if_neg (fun y => y e), if_pos e]
    · rw [if_pos e, if_neg e]
theorem x_solve {w : hS} {t n B N q0 : Nat} {S : Nat → Int} {G : Nat → Int → Int} {h : Int} (c : pfC w t n B N S G h) (v7 : hV w 40 7 = (q0 : Int)) (hq : q0 < N) (hL : ∀ b, b < B → 0 ≤ hV w 41 b ∧ hV w 41 b ≤ 10) (r : Nat → Int) : ∃ D W V, m_X2_solve 40 w = some (0, PL (hput w 43 D) (hV w 41) W V (liN S B G h opF ctT n 0 q0 (hV w 41) 0 r (-1, hV w 45)).1) ∧ ∀ j, j < n → V j = (liN S B G h opF ctT n 0 q0 (hV w 41) 0 r (-1, hV w 45)).2 j := by
  obtain ⟨hs, rf, f5, v6, hn, v8, hB, hN, hg, hG⟩ := id c
  obtain ⟨rs, tz, rw0, ws, wv⟩ := id rf
  have w0 := ws.1
  have w2 := ws.2.2.1
  obtain ⟨D, d1, d2⟩ := x_bdI c N 1000000000 0 (hV w 43) (by omega) (by omega) (fun x hx => by omega)
  rw [hput_self] at d1
  have fb : m_X2_findBounds 40 w = some (0, hput w 43 D) := by
    simp only [m_X2_findBounds, hlet_p]
    exact d1
  have hs1 : shp (hput w 43 D) := hs
  have rf1 : RepF (hput w 43 D) 30 t S := rf.fr (ext.put w 43 D) (fun a _ _ => agr.put (by omega)) (fun a _ _ => agr.put (by omega))
  have pc : plC (hput w 43 D) t n B S (hV w 41) G h := ⟨hs1, rf1, f5, by rw [hV_put_n (by decide), v6], hn, hB, fun k q hk hq => ⟨by rw [hV_put_n (by decide)]; exact hg k q hk (by omega), (hG k q).1, (hG k q).2⟩, fun k q hk hq => ⟨by rw [hV_put_s]; exact d2 k q hk (by omega), (bdN_in hG _ _ _).1, (bdN_in hG _ _ _).2⟩⟩
  have sP : hsetV (hput w 43 D) 40 9 (-1) = PL (hput w 43 D) (hV w 41) (hV w 44) (hV w 45) (-1) := by
    unfold PL
    have a1 : hV (hput w 43 D) 41 = hV w 41 := hV_put_n (by decide)
    have a2 : hV (hput w 43 D) 44 = hV w 44 := hV_put_n (by decide)
    have a3 : hV (hput w 43 D) 45 = hV w 45 := hV_put_n (by decide)
    rw [← a1, hput_self, ← a2, hput_self, ← a3, hput_self, setV_put1]
  have hG0 : ∀ k q, 0 ≤ G k q := fun k q => (hG k q).1
  have leq := liN_eq (S := S) (L0 := hV w 41) (B := B) (n := n) (G := G) (h := h) hG0 (g := fsO S) (fun L b _ hh => fsO_1 L b hh) (fun L b hb o hh => fsO_2 wv (by omega) (rf.ne (by omega)) o hh) n 0 q0 (hV w 41) 0 r (-1, hV w 45) (by omega) (fun _ _ o => o)
  have h2 : shp (PL (hput w 43 D) (hV w 41) (hV w 44) (hV w 45) (-1)) := hs
  have b0 := d2 0 q0 (by omega) hq
  have v7' : hV (PL (hput w 43 D) (hV w 41) (hV w 44) (hV w 45) (-1)) 40 7 = (q0 : Int) := by rw [PL_j (by decide), hV_put_n (by decide), v7]
  have q43 : hV (PL (hput w 43 D) (hV w 41) (hV w 44) (hV w 45) (-1)) 43 q0 = bdN S (hV w 41) B G h n 0 q0 := by
    rw [PL_n (by decide) (by decide) (by decide) (by decide), hV_put_s]
    have e : 8 * 0 + q0 = q0 := by omega
    rw [e] at b0
    exact b0
  have q56 : q0 < 56 := by omega
  by_cases no : bdN S (hV w 41) B G h n 0 q0 = -1
  · have kp : liN S B G h opF ctT n 0 q0 (hV w 41) 0 r (-1, hV w 45) = (-1, hV w 45) := liN_keep n 0 q0 (hV w 41) 0 r _ (fun v hv => by
      have y := bdN_up (L0 := hV w 41) hG0 n 0 q0 (hV w 41) v (fun _ _ o => o) hv
      omega)
    rw [kp]
    refine ⟨D, hV w 44, hV w 45, ?_, fun _ _ => rfl⟩
    simp only [m_X2_solve, m_X2_solve_L32, hgI_k, hgR_k, hpI_k, hpR_k, hpZ_k, haI_k, haR_k, hsI_k, hsZ_k, hlen_k, hlet_p, hret_p, hretZ_0, hretZ_1, hif_p, okk_setV, okk_setF, nV, nF, fV, vF, hcallV_b, hbind_p, haI_n, kk_40 hs, fb, kk_40 hs1, sP, kk_40 h2, rf_40_2 h2, v7', kk_43 h2, ln_43 h2, q56, q43]
    rw [if_pos no]
  · obtain ⟨W', V', a1, a2⟩ := x_search pc n 8 0 q0 (hV w 41) 0 r (hV w 44) (hV w 45) (-1, hV w 45) (by omega) (by omega) (by omega) hL ⟨by omega, by omega⟩ ⟨fun j hj => by omega, fun _ _ => rfl⟩ (show (-1 : Int) ≤ -1 by decide) (fun z => by omega)
    rw [leq] at a1 a2
    refine ⟨D, W', V', ?_, a2.2⟩
    have a1' : M_X2_search 8 40 0 q0 0 (PL (hput w 43 D) (hV w 41) (hV w 44) (hV w 45) (-1)) = _ := a1
    simp only [m_X2_solve, m_X2_solve_L32, hgI_k, hgR_k, hpI_k, hpR_k, hpZ_k, haI_k, haR_k, hsI_k, hsZ_k, hlen_k, hlet_p, hret_p, hretZ_0, hretZ_1, hif_p, okk_setV, okk_setF, nV, nF, fV, vF, hcallV_b, hbind_p, haI_n, kk_40 hs, fb, kk_40 hs1, sP, kk_40 h2, rf_40_2 h2, v7', kk_43 h2, ln_43 h2, q56, q43, a1']
    rw [if_neg no]
