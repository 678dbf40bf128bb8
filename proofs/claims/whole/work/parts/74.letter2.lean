/-! letters: the class -/
theorem nxt_lt {M : Nat → Nat → Bool} {H : Nat → Nat} {h n : Nat} (hh : h < n) : ∀ k i, i + k ≤ n → nxt M H h k i < n := by
  intro k
  induction k with
  | zero =>
    intro i _
    exact hh
  | succ k ih =>
    intro i hi
    show (if H i + 1 = H h ∧ M h i = true then i else nxt M H h k (i + 1)) < n
    split
    · omega
    · exact ih (i + 1) (by omega)
def rowH (H : Nat → Nat) (g : Nat → Int) : Nat → Int := fun j => if j < 4 then (H j : Int) else g j
theorem rowH_at {H : Nat → Nat} {g : Nat → Int} {j : Nat} (h : j < 4) : rowH H g j = (H j : Int) := if_pos h
theorem rowH_sup {H : Nat → Nat} {g : Nat → Int} {v r : Nat} (h : v < 4) : sup (rowH H g) v (r : Int) = rowH (fun j => if j = v then r else H j) g := by
  funext j
  unfold sup rowH
  by_cases e : j = v
  · rw [if_pos e, if_pos (by omega)]
    show _ = (((if j = v then r else H j : Nat) : Nat) : Int)
    rw [if_pos e]
  · rw [if_neg e]
    by_cases e1 : j < 4
    · rw [if_pos e1, if_pos e1]
      show _ = (((if j = v then r else H j : Nat) : Nat) : Int)
      rw [if_neg e]
    · rw [if_neg e1, if_neg e1]
theorem x_cm {u : hS} (hs : shp u) {f : Nat → Nat} {M : Nat → Nat → Bool} {p q : Nat} (hp : p < 4) (hq : q < 4) (l1 : f p < 512) (h1 : hV u 10 p = (f p : Int)) (h2 : hV u 10 q = (f q : Int)) (hM : M p q = true ↔ f p &&& f q ≠ 0) : m_X9_canMeet 1 p q u = some (if M p q = true then 1 else 0, u) := by
  simp only [m_X9_canMeet_L21, m_X9_canMeet, hgI_k, hgR_k, hpI_k, hpR_k, hpZ_k, haI_k, haR_k, hsI_k, hsZ_k, hlen_k, hlet_p, hret_p, hretZ_0, hretZ_1, hif_p, okk_setV, okk_setF, nV, nF, fV, vF, haI_n, kk_1 hs, kk_10 hs, rf_1_16 hs, ln_10 hs, hp, hq, h1, h2, iandZ_n (a := f p) (b := f q) (by omega)]
  by_cases h : M p q = true
  · have z := hM.mp h
    rw [if_neg (by omega), if_pos h]
  · have z : f p &&& f q = 0 := by
      apply Classical.byContradiction
      intro y
      exact h (hM.mpr y)
    rw [if_pos (by omega), if_neg h]
/-- what both sides know of the people -/
def lcx (u : hS) (t N : Nat) (S : Nat → Int) (f : Nat → Nat) (M : Nat → Nat → Bool) : Prop := shp u ∧ RepS u 30 t S ∧ (t = 12 ∨ 243 ≤ t) ∧ S 4 = (N : Int) ∧ N < 5 ∧ (∀ p, p < N → f p < 512) ∧ (∀ p, p < N → hV u 10 p = (f p : Int)) ∧ ∀ p q, p < N → q < N → (M p q = true ↔ f p &&& f q ≠ 0)
theorem x_hdT {u : hS} {t N : Nat} {S : Nat → Int} {f : Nat → Nat} {M : Nat → Nat → Bool} (c : lcx u t N S f M) {rd gv : Nat} (hr : 1 ≤ rd ∧ rd < 9) (hg : gv < N) (g : Nat → Int) (K1 : Nat → Int → hM) (K2 : Nat → Int → Int → hM) : ∀ (k n i : Nat) (H : Nat → Nat), k < n → i + k = N → m_X9_findHands_L51 K1 K2 n 1 rd gv i (hput u 11 (rowH H g)) = K2 1 rd ((gv + 1 : Nat) : Int) (hput u 11 (rowH (hdT M rd gv k i H) g)) := by
  obtain ⟨hs, r0, tz, h4, h5, hf, h10, hM⟩ := c
  intro k
  induction k with
  | zero =>
    intro n i H hn hi
    obtain ⟨n, rfl⟩ : ∃ k, n = k + 1 := ⟨n - 1, by omega⟩
    have r := r0.fr (ext.put u 11 (rowH H g)) (fun a _ _ => agr.put (by omega)) (fun a _ _ => agr.put (by omega))
    have ht := r.ht
    simp only [m_X9_findHands_L51, hgI_k, hgR_k, hpI_k, hpR_k, hpZ_k, haI_k, haR_k, hsI_k, hsZ_k, hlen_k, hlet_p, hret_p, hretZ_0, hretZ_1, hif_p, okk_setV, okk_setF, nV, nF, fV, vF, okk_put, nP, fP, kk_1 hs, kk_30 hs, rf_1_3 hs, r0.to, TwA.k0 ht, TwA.k1 ht, TwA.k2 ht, TwA.k3 ht, TwA.k4 ht, TwA.k5 ht, TwA.k6 ht, TwA.k7 ht, TwA.k8 ht, TwA.k9 ht, TwA.k10 ht, TwA.k11 ht, TwA.k12 ht, TwA.k13 ht, TwA.k14 ht, TwA.k15 ht, TwA.k16 ht, TwA.k17 ht, TwA.n2 ht, TwA.n3 ht, TwA.n4 ht, TwA.n6 ht, TwA.n7 ht, TwA.n8 ht, TwA.n9 ht, TwA.n10 ht, TwA.n11 ht, TwA.n12 ht, TwA.n13 ht, TwA.n14 ht, TwA.n15 ht, TwA.n16 ht, TwA.n17 ht, TwA.f2 ht, TwA.f3 ht, TwA.f5 ht, TwA.f6 ht, TwA.f8 ht, TwA.f9 ht, TwA.f11 ht, TwA.f12 ht, TwA.f13 ht, TwA.f14 ht, TwA.f15 ht, TwA.b0 ht, TwA.b1 ht, TwA.b2 ht, TwA.g0 ht, TwA.g1 ht, TwA.g2 ht, r.v4, h4, ix_s (show gv < 1000000 by omega)]
    rw [if_pos (by omega)]
    rfl
  | succ k ih =>
    intro n i H hn hi
    obtain ⟨n, rfl⟩ : ∃ k, n = k + 1 := ⟨n - 1, by omega⟩
    have r := r0.fr (ext.put u 11 (rowH H g)) (fun a _ _ => agr.put (by omega)) (fun a _ _ => agr.put (by omega))
    have ht := r.ht
    have hs1 : shp (hput u 11 (rowH H g)) := hs
    have i4 : i < 4 := by omega
    have g4 : gv < 4 := by omega
    have cm := x_cm hs1 (M := M) (f := f) g4 i4 (hf gv hg) (by rw [hV_put_n (by decide)]; exact h10 gv hg) (by rw [hV_put_n (by decide)]; exact h10 i (by omega)) (hM gv i hg (by omega))
    have w1 : w32 ((rd : Int) - 1) = (rd : Int) - 1 := w32_id ⟨by omega, by omega⟩
    have j1 := ih n (i + 1) H (by omega) (by omega)
    have j2 := ih n (i + 1) (fun j => if j = gv then rd else H j) (by omega) (by omega)
    simp only [m_X9_findHands_L51, m_X9_findHands_L107, hgI_k, hgR_k, hpI_k, hpR_k, hpZ_k, haI_k, haR_k, hsI_k, hsZ_k, hlen_k, hlet_p, hret_p, hretZ_0, hretZ_1, hif_p, okk_setV, okk_setF, nV, nF, fV, vF, okk_put, nP, fP, haI_n, hsI_n, hcallV_b, hbind_p, kk_1 hs, kk_30 hs, kk_11 hs, rf_1_3 hs, rf_1_17 hs, ln_11 hs, r0.to, TwA.k0 ht, TwA.k1 ht, TwA.k2 ht, TwA.k3 ht, TwA.k4 ht, TwA.k5 ht, TwA.k6 ht, TwA.k7 ht, TwA.k8 ht, TwA.k9 ht, TwA.k10 ht, TwA.k11 ht, TwA.k12 ht, TwA.k13 ht, TwA.k14 ht, TwA.k15 ht, TwA.k16 ht, TwA.k17 ht, TwA.n2 ht, TwA.n3 ht, TwA.n4 ht, TwA.n6 ht, TwA.n7 ht, TwA.n8 ht, TwA.n9 ht, TwA.n10 ht, TwA.n11 ht, TwA.n12 ht, TwA.n13 ht, TwA.n14 ht, TwA.n15 ht, TwA.n16 ht, TwA.n17 ht, TwA.f2 ht, TwA.f3 ht, TwA.f5 ht, TwA.f6 ht, TwA.f8 ht, TwA.f9 ht, TwA.f11 ht, TwA.f12 ht, TwA.f13 ht, TwA.f14 ht, TwA.f15 ht, TwA.b0 ht, TwA.b1 ht, TwA.b2 ht, TwA.g0 ht, TwA.g1 ht, TwA.g2 ht, r.v4, h4, hV_put_s, i4, g4, rowH_at i4, rowH_at g4, w1, cm, setV_put, rowH_sup g4, ix_s (show i < 1000000 by omega), j1, j2]
    rw [if_neg (by omega)]
    show _ = K2 1 rd ((gv + 1 : Nat) : Int) (hput u 11 (rowH (hdT M rd gv k (i + 1) (if H i + 1 = rd ∧ H gv = 99 ∧ M gv i = true then (fun j => if j = gv then rd else H j) else H)) g))
    by_cases e1 : H i + 1 = rd
    · rw [if_neg (by omega)]
      by_cases e2 : H gv = 99
      · rw [if_neg (by omega)]
        by_cases e3 : M gv i = true
        · rw [if_pos e3, if_neg (by decide), if_pos ⟨e1, e2, e3⟩]
        · rw [if_neg e3, if_pos rfl, if_neg (fun z => e3 z.2.2)]
      · rw [if_pos (by omega), if_neg (fun z => e2 z.2.1)]
    · rw [if_pos (by omega), if_neg (fun z => e1 z.1)]
theorem x_hdG {u : hS} {t N : Nat} {S : Nat → Int} {f : Nat → Nat} {M : Nat → Nat → Bool} (c : lcx u t N S f M) {rd : Nat} (hr : 1 ≤ rd ∧ rd < 9) (g : Nat → Int) (K1 : Nat → Int → hM) : ∀ (k n i : Nat) (H : Nat → Nat), k < n → i + k = N → m_X9_findHands_L34 K1 n 1 rd i (hput u 11 (rowH H g)) = K1 1 ((rd + 1 : Nat) : Int) (hput u 11 (rowH (hdG M rd N k i H) g)) := by
  obtain ⟨hs, r0, tz, h4, h5, hf, h10, hM⟩ := id c
  intro k
  induction k with
  | zero =>
    intro n i H hn hi
    obtain ⟨n, rfl⟩ : ∃ k, n = k + 1 := ⟨n - 1, by omega⟩
    have r := r0.fr (ext.put u 11 (rowH H g)) (fun a _ _ => agr.put (by omega)) (fun a _ _ => agr.put (by omega))
    have ht := r.ht
    simp only [m_X9_findHands_L34, hgI_k, hgR_k, hpI_k, hpR_k, hpZ_k, haI_k, haR_k, hsI_k, hsZ_k, hlen_k, hlet_p, hret_p, hretZ_0, hretZ_1, hif_p, okk_setV, okk_setF, nV, nF, fV, vF, okk_put, nP, fP, kk_1 hs, kk_30 hs, rf_1_3 hs, r0.to, TwA.k0 ht, TwA.k1 ht, TwA.k2 ht, TwA.k3 ht, TwA.k4 ht, TwA.k5 ht, TwA.k6 ht, TwA.k7 ht, TwA.k8 ht, TwA.k9 ht, TwA.k10 ht, TwA.k11 ht, TwA.k12 ht, TwA.k13 ht, TwA.k14 ht, TwA.k15 ht, TwA.k16 ht, TwA.k17 ht, TwA.n2 ht, TwA.n3 ht, TwA.n4 ht, TwA.n6 ht, TwA.n7 ht, TwA.n8 ht, TwA.n9 ht, TwA.n10 ht, TwA.n11 ht, TwA.n12 ht, TwA.n13 ht, TwA.n14 ht, TwA.n15 ht, TwA.n16 ht, TwA.n17 ht, TwA.f2 ht, TwA.f3 ht, TwA.f5 ht, TwA.f6 ht, TwA.f8 ht, TwA.f9 ht, TwA.f11 ht, TwA.f12 ht, TwA.f13 ht, TwA.f14 ht, TwA.f15 ht, TwA.b0 ht, TwA.b1 ht, TwA.b2 ht, TwA.g0 ht, TwA.g1 ht, TwA.g2 ht, r.v4, h4, ix_s (show rd < 1000000 by omega)]
    rw [if_pos (by omega)]
    rfl
  | succ k ih =>
    intro n i H hn hi
    obtain ⟨n, rfl⟩ : ∃ k, n = k + 1 := ⟨n - 1, by omega⟩
    have r := r0.fr (ext.put u 11 (rowH H g)) (fun a _ _ => agr.put (by omega)) (fun a _ _ => agr.put (by omega))
    have ht := r.ht
    have T := x_hdT c hr (show i < N by omega) g K1 (m_X9_findHands_L34 K1 n) N 1000000000 0 H (by omega) (by omega)
    have T' : m_X9_findHands_L51 K1 (m_X9_findHands_L34 K1 n) 1000000000 1 rd i 0 (hput u 11 (rowH H g)) = _ := T
    have j1 := ih n (i + 1) (hdT M rd i N 0 H) (by omega) (by omega)
    simp only [m_X9_findHands_L34, hgI_k, hgR_k, hpI_k, hpR_k, hpZ_k, haI_k, haR_k, hsI_k, hsZ_k, hlen_k, hlet_p, hret_p, hretZ_0, hretZ_1, hif_p, okk_setV, okk_setF, nV, nF, fV, vF, okk_put, nP, fP, kk_1 hs, kk_30 hs, rf_1_3 hs, r0.to, TwA.k0 ht, TwA.k1 ht, TwA.k2 ht, TwA.k3 ht, TwA.k4 ht, TwA.k5 ht, TwA.k6 ht, TwA.k7 ht, TwA.k8 ht, TwA.k9 ht, TwA.k10 ht, TwA.k11 ht, TwA.k12 ht, TwA.k13 ht, TwA.k14 ht, TwA.k15 ht, TwA.k16 ht, TwA.k17 ht, TwA.n2 ht, TwA.n3 ht, TwA.n4 ht, TwA.n6 ht, TwA.n7 ht, TwA.n8 ht, TwA.n9 ht, TwA.n10 ht, TwA.n11 ht, TwA.n12 ht, TwA.n13 ht, TwA.n14 ht, TwA.n15 ht, TwA.n16 ht, TwA.n17 ht, TwA.f2 ht, TwA.f3 ht, TwA.f5 ht, TwA.f6 ht, TwA.f8 ht, TwA.f9 ht, TwA.f11 ht, TwA.f12 ht, TwA.f13 ht, TwA.f14 ht, TwA.f15 ht, TwA.b0 ht, TwA.b1 ht, TwA.b2 ht, TwA.g0 ht, TwA.g1 ht, TwA.g2 ht, r.v4, h4]
    rw [if_neg (by omega), T', j1]
    rfl
theorem x_hdR {u : hS} {t N : Nat} {S : Nat → Int} {f : Nat → Nat} {M : Nat → Nat → Bool} (c : lcx u t N S f M) (g : Nat → Int) : ∀ (k n i : Nat) (H : Nat → Nat), k < n → i + k = N → 1 ≤ i → m_X9_findHands_L18 n 1 i (hput u 11 (rowH H g)) = some (0, hput u 11 (rowH (hdR M N k i H) g)) := by
  obtain ⟨hs, r0, tz, h4, h5, hf, h10, hM⟩ := id c
  intro k
  induction k with
  | zero =>
    intro n i H hn hi h1
    obtain ⟨n, rfl⟩ : ∃ k, n = k + 1 := ⟨n - 1, by omega⟩
    have r := r0.fr (ext.put u 11 (rowH H g)) (fun a _ _ => agr.put (by omega)) (fun a _ _ => agr.put (by omega))
    have ht := r.ht
    simp only [m_X9_findHands_L18, hgI_k, hgR_k, hpI_k, hpR_k, hpZ_k, haI_k, haR_k, hsI_k, hsZ_k, hlen_k, hlet_p, hret_p, hretZ_0, hretZ_1, hif_p, okk_setV, okk_setF, nV, nF, fV, vF, okk_put, nP, fP, kk_1 hs, kk_30 hs, rf_1_3 hs, r0.to, TwA.k0 ht, TwA.k1 ht, TwA.k2 ht, TwA.k3 ht, TwA.k4 ht, TwA.k5 ht, TwA.k6 ht, TwA.k7 ht, TwA.k8 ht, TwA.k9 ht, TwA.k10 ht, TwA.k11 ht, TwA.k12 ht, TwA.k13 ht, TwA.k14 ht, TwA.k15 ht, TwA.k16 ht, TwA.k17 ht, TwA.n2 ht, TwA.n3 ht, TwA.n4 ht, TwA.n6 ht, TwA.n7 ht, TwA.n8 ht, TwA.n9 ht, TwA.n10 ht, TwA.n11 ht, TwA.n12 ht, TwA.n13 ht, TwA.n14 ht, TwA.n15 ht, TwA.n16 ht, TwA.n17 ht, TwA.f2 ht, TwA.f3 ht, TwA.f5 ht, TwA.f6 ht, TwA.f8 ht, TwA.f9 ht, TwA.f11 ht, TwA.f12 ht, TwA.f13 ht, TwA.f14 ht, TwA.f15 ht, TwA.b0 ht, TwA.b1 ht, TwA.b2 ht, TwA.g0 ht, TwA.g1 ht, TwA.g2 ht, r.v4, h4]
    rw [if_pos (by omega)]
    rfl
  | succ k ih =>
    intro n i H hn hi h1
    obtain ⟨n, rfl⟩ : ∃ k, n = k + 1 := ⟨n - 1, by omega⟩
    have r := r0.fr (ext.put u 11 (rowH H g)) (fun a _ _ => agr.put (by omega)) (fun a _ _ => agr.put (by omega))
    have ht := r.ht
    have T := x_hdG c (rd := i) (by omega) g (m_X9_findHands_L18 n) N 1000000000 0 H (by omega) (by omega)
    have T' : m_X9_findHands_L34 (m_X9_findHands_L18 n) 1000000000 1 i 0 (hput u 11 (rowH H g)) = _ := T
    have j1 := ih n (i + 1) (hdG M i N N 0 H) (by omega) (by omega) (by omega)
    simp only [m_X9_findHands_L18, hgI_k, hgR_k, hpI_k, hpR_k, hpZ_k, haI_k, haR_k, hsI_k, hsZ_k, hlen_k, hlet_p, hret_p, hretZ_0, hretZ_1, hif_p, okk_setV, okk_setF, nV, nF, fV, vF, okk_put, nP, fP, kk_1 hs, kk_30 hs, rf_1_3 hs, r0.to, TwA.k0 ht, TwA.k1 ht, TwA.k2 ht, TwA.k3 ht, TwA.k4 ht, TwA.k5 ht, TwA.k6 ht, TwA.k7 ht, TwA.k8 ht, TwA.k9 ht, TwA.k10 ht, TwA.k11 ht, TwA.k12 ht, TwA.k13 ht, TwA.k14 ht, TwA.k15 ht, TwA.k16 ht, TwA.k17 ht, TwA.n2 ht, TwA.n3 ht, TwA.n4 ht, TwA.n6 ht, TwA.n7 ht, TwA.n8 ht, TwA.n9 ht, TwA.n10 ht, TwA.n11 ht, TwA.n12 ht, TwA.n13 ht, TwA.n14 ht, TwA.n15 ht, TwA.n16 ht, TwA.n17 ht, TwA.f2 ht, TwA.f3 ht, TwA.f5 ht, TwA.f6 ht, TwA.f8 ht, TwA.f9 ht, TwA.f11 ht, TwA.f12 ht, TwA.f13 ht, TwA.f14 ht, TwA.f15 ht, TwA.b0 ht, TwA.b1 ht, TwA.b2 ht, TwA.g0 ht, TwA.g1 ht, TwA.g2 ht, r.v4, h4]
    rw [if_neg (by omega), T', j1]
    rfl
theorem x_findHands {u : hS} {t N : Nat} {S : Nat → Int} {f : Nat → Nat} {M : Nat → Nat → Bool} (c : lcx u t N S f M) {q : Nat} (hq : q < N) : m_X9_findHands 1 q u = some (0, hput u 11 (rowH (hd M N q) (hV u 11))) := by
  have c' := c
  obtain ⟨hs, r0, tz, h4, h5, hf, h10, hM⟩ := c'
  have R := x_hdR c (hV u 11) (N - 1) 1000000000 1 (fun j => if j = q then 0 else 99) (by omega) (by omega) (by omega)
  have q4 : q < 4 := by omega
  have e : sup (fun j => if j < 4 then (99 : Int) else hV u 11 j) q 0 = rowH (fun j => if j = q then 0 else 99) (hV u 11) := by
    funext j
    unfold sup rowH
    by_cases e : j = q
    · rw [if_pos e, if_pos (by omega)]
      show _ = (((if j = q then 0 else 99 : Nat) : Nat) : Int)
      rw [if_pos e]
      rfl
    · rw [if_neg e]
      show (if j < 4 then (99 : Int) else hV u 11 j) = (if j < 4 then (((if j = q then 0 else 99 : Nat) : Nat) : Int) else hV u 11 j)
      rw [if_neg e]
      rfl
  simp only [m_X9_findHands, hgI_k, hgR_k, hpI_k, hpR_k, hpZ_k, haI_k, haR_k, hsI_k, hsZ_k, hlen_k, hlet_p, hret_p, hretZ_0, hretZ_1, hif_p, okk_setV, okk_setF, nV, nF, fV, vF, okk_put, nP, fP, hcall_b, hbind_p, hsI_n, kk_1 hs, kk_11 hs, rf_1_17 hs, ln_11 hs, x_fill (kk_11 hs) (ln_11 hs) (by decide), q4, setV_put, e]
  exact R
theorem x_nxL {u : hS} {t N : Nat} {S : Nat → Int} {f : Nat → Nat} {M : Nat → Nat → Bool} {H : Nat → Nat} (c : lcx u t N S f M) (h11 : ∀ j, j < 4 → hV u 11 j = (H j : Int)) {h : Nat} (hh : h < N) (hH : H h ≤ 99) : ∀ k n i : Nat, k < n → i + k = N → m_X9_nextHolder_L2 n 1 h i u = some (((nxt M H h k i : Nat) : Int), u) := by
  obtain ⟨hs, r, tz, h4, h5, hf, h10, hM⟩ := c
  have ht := r.ht
  have k4 : h < 4 := by omega
  intro k
  induction k with
  | zero =>
    intro n i hn hi
    obtain ⟨n, rfl⟩ : ∃ k, n = k + 1 := ⟨n - 1, by omega⟩
    simp only [m_X9_nextHolder_L2, hgI_k, hgR_k, hpI_k, hpR_k, hpZ_k, haI_k, haR_k, hsI_k, hsZ_k, hlen_k, hlet_p, hret_p, hretZ_0, hretZ_1, hif_p, okk_setV, okk_setF, nV, nF, fV, vF, kk_1 hs, kk_30 hs, rf_1_3 hs, r.to, TwA.k0 ht, TwA.k1 ht, TwA.k2 ht, TwA.k3 ht, TwA.k4 ht, TwA.k5 ht, TwA.k6 ht, TwA.k7 ht, TwA.k8 ht, TwA.k9 ht, TwA.k10 ht, TwA.k11 ht, TwA.k12 ht, TwA.k13 ht, TwA.k14 ht, TwA.k15 ht, TwA.k16 ht, TwA.k17 ht, TwA.n2 ht, TwA.n3 ht, TwA.n4 ht, TwA.n6 ht, TwA.n7 ht, TwA.n8 ht, TwA.n9 ht, TwA.n10 ht, TwA.n11 ht, TwA.n12 ht, TwA.n13 ht, TwA.n14 ht, TwA.n15 ht, TwA.n16 ht, TwA.n17 ht, TwA.f2 ht, TwA.f3 ht, TwA.f5 ht, TwA.f6 ht, TwA.f8 ht, TwA.f9 ht, TwA.f11 ht, TwA.f12 ht, TwA.f13 ht, TwA.f14 ht, TwA.f15 ht, TwA.b0 ht, TwA.b1 ht, TwA.b2 ht, TwA.g0 ht, TwA.g1 ht, TwA.g2 ht, r.v4, h4]
    rw [if_pos (by omega)]
    rfl
  | succ k ih =>
    intro n i hn hi
    obtain ⟨n, rfl⟩ : ∃ k, n = k + 1 := ⟨n - 1, by omega⟩
    have i4 : i < 4 := by omega
    have cm := x_cm hs (M := M) (f := f) k4 i4 (hf h hh) (h10 h hh) (h10 i (by omega)) (hM h i hh (by omega))
    have w1 : w32 ((H h : Int) - 1) = (H h : Int) - 1 := w32_id ⟨by omega, by omega⟩
    have j1 := ih n (i + 1) (by omega) (by omega)
    simp only [m_X9_nextHolder_L2, m_X9_nextHolder_L44, hgI_k, hgR_k, hpI_k, hpR_k, hpZ_k, haI_k, haR_k, hsI_k, hsZ_k, hlen_k, hlet_p, hret_p, hretZ_0, hretZ_1, hif_p, okk_setV, okk_setF, nV, nF, fV, vF, haI_n, hcallV_b, hbind_p, kk_1 hs, kk_30 hs, kk_11 hs, rf_1_3 hs, rf_1_17 hs, ln_11 hs, r.to, TwA.k0 ht, TwA.k1 ht, TwA.k2 ht, TwA.k3 ht, TwA.k4 ht, TwA.k5 ht, TwA.k6 ht, TwA.k7 ht, TwA.k8 ht, TwA.k9 ht, TwA.k10 ht, TwA.k11 ht, TwA.k12 ht, TwA.k13 ht, TwA.k14 ht, TwA.k15 ht, TwA.k16 ht, TwA.k17 ht, TwA.n2 ht, TwA.n3 ht, TwA.n4 ht, TwA.n6 ht, TwA.n7 ht, TwA.n8 ht, TwA.n9 ht, TwA.n10 ht, TwA.n11 ht, TwA.n12 ht, TwA.n13 ht, TwA.n14 ht, TwA.n15 ht, TwA.n16 ht, TwA.n17 ht, TwA.f2 ht, TwA.f3 ht, TwA.f5 ht, TwA.f6 ht, TwA.f8 ht, TwA.f9 ht, TwA.f11 ht, TwA.f12 ht, TwA.f13 ht, TwA.f14 ht, TwA.f15 ht, TwA.b0 ht, TwA.b1 ht, TwA.b2 ht, TwA.g0 ht, TwA.g1 ht, TwA.g2 ht, r.v4, h4, i4, k4, h11 i i4, h11 h k4, w1, cm, j1, ix_s (show i < 1000000 by omega)]
    rw [if_neg (by omega)]
    show _ = some (((if H i + 1 = H h ∧ M h i = true then i else nxt M H h k (i + 1) : Nat) : Int), u)
    by_cases e1 : H i + 1 = H h
    · rw [if_neg (by omega)]
      by_cases e3 : M h i = true
      · rw [if_pos e3, if_neg (by decide), if_pos ⟨e1, e3⟩]
      · rw [if_neg e3, if_pos rfl, if_neg (fun z => e3 z.2)]
    · rw [if_pos (by omega), if_neg (fun z => e1 z.1)]
theorem x_nextHolder {u : hS} {t N : Nat} {S : Nat → Int} {f : Nat → Nat} {M : Nat → Nat → Bool} {H : Nat → Nat} (c : lcx u t N S f M) (h11 : ∀ j, j < 4 → hV u 11 j = (H j : Int)) {h : Nat} (hh : h < N) (hH : H h ≤ 99) : m_X9_nextHolder 1 h u = some (((nxt M H h N 0 : Nat) : Int), u) := by
  have z := c.2.2.2.2.1
  simp only [m_X9_nextHolder, hlet_p]
  exact x_nxL c h11 hh hH N 1000000000 0 (by omega) (by omega)
theorem x_hoS {u : hS} (hs : shp u) {h h' : Nat} (e : m_X9_nextHolder 1 h u = some ((h' : Int), u)) (n w i : Nat) (hi : i < 1000) : m_X9_holderAfter_L5 (n + 1) 1 w h i u = if i ≥ w then some ((h : Int), u) else m_X9_holderAfter_L5 n 1 w h' ((i + 1 : Nat) : Int) u := by
  simp only [m_X9_holderAfter_L5, hgI_k, hgR_k, hpI_k, hpR_k, hpZ_k, haI_k, haR_k, hsI_k, hsZ_k, hlen_k, hlet_p, hret_p, hretZ_0, hretZ_1, hif_p, okk_setV, okk_setF, nV, nF, fV, vF, hcallV_b, hbind_p, kk_1 hs, e, ix_s (show i < 1000000 by omega)]
  by_cases z : i ≥ w
  · rw [if_pos (by omega), if_pos z]
  · rw [if_neg (by omega), if_neg z]
