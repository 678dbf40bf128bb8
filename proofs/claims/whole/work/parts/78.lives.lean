/-! lives: a row whose day may go on past the last -/
def clp (R : Nat → Int) : Nat → Int := sup R 6 (if R 6 ≤ 999 then R 6 else 999)
theorem clp_n {R : Nat → Int} {j : Nat} (h : j ≠ 6) : clp R j = R j := sup_n h
theorem sup_self (R : Nat → Int) (i : Nat) : sup R i (R i) = R := by
  funext j
  unfold sup
  by_cases e : j = i
  · rw [if_pos e, e]
  · rw [if_neg e]
theorem clp_id {R : Nat → Int} (h : R 6 ≤ 999) : clp R = R := by
  unfold clp
  rw [if_pos h, sup_self]
theorem sup_comm {R : Nat → Int} {i j : Nat} (h : i ≠ j) (x y : Int) : sup (sup R i x) j y = sup (sup R j y) i x := by
  funext k
  unfold sup
  by_cases e : k = j
  · rw [if_pos e, if_neg (by omega), if_pos e]
  · rw [if_neg e]
    by_cases e2 : k = i
    · rw [if_pos e2, if_pos e2]
    · rw [if_neg e2, if_neg e2, if_neg e]
theorem sup_sup (R : Nat → Int) (i : Nat) (x y : Int) : sup (sup R i x) i y = sup R i y := by
  funext k
  unfold sup
  by_cases e : k = i
  · rw [if_pos e, if_pos e]
  · rw [if_neg e, if_neg e, if_neg e]
theorem qEnd_clp {R : Nat → Int} {a : Nat} (h : 94 ≤ a) (q : Int) : qEnd (clp R) a q = qEnd R a q := by
  unfold qEnd
  rw [clp_n (by omega), clp_n (by omega)]
theorem qLeft_clp (R : Nat → Int) (p b : Nat) : qLeft (clp R) p b = qLeft R p b := by
  unfold qLeft
  rw [clp_n (by omega), clp_n (by omega)]
theorem qCross_clp (R : Nat → Int) (p b : Nat) : qCross (clp R) p b = clp (qCross R p b) := by
  have e6 : qCross R p b 6 = R 6 := by
    unfold qCross
    rw [sup_n (by omega), sup_n (by omega), sup_n (by omega)]
  have c : clp (qCross R p b) = sup (qCross R p b) 6 (if R 6 ≤ 999 then R 6 else 999) := by
    show sup (qCross R p b) 6 (if qCross R p b 6 ≤ 999 then qCross R p b 6 else 999) = _
    rw [e6]
  rw [c]
  unfold qCross
  rw [qEnd_clp (by omega), clp_n (show 10 + 3 * p ≠ 6 by omega), clp_n (show 22 + 9 * p + b ≠ 6 by omega), clp_n (show 58 + 9 * p + b ≠ 6 by omega), sup_comm (show 58 + 9 * p + b ≠ 6 by omega), sup_comm (show 22 + 9 * p + b ≠ 6 by omega), sup_comm (show 10 + 3 * p ≠ 6 by omega)]
  rfl
theorem gsum_z {R : Nat → Int} (p : Nat) : ∀ k i, (∀ w, i ≤ w → w < i + k → R (130 + 4 * w) ≠ R 6) → gsum R p k i = 0 := by
  intro k
  induction k with
  | zero =>
    intro i h
    rfl
  | succ k ih =>
    intro i h
    rw [gsum_s, if_neg (fun z => h i (by omega) (by omega) z.2.2), ih (i + 1) (fun w h1 h2 => h w (by omega) (by omega))]
    rfl
theorem payR_z {G : Nat → Int} (h : ∀ p, G p = 0) : ∀ k i S, payR G k i S = S := by
  intro k
  induction k with
  | zero =>
    intro i S
    rfl
  | succ k ih =>
    intro i S
    show payR G k (i + 1) (sup S (12 + 3 * i) (S (12 + 3 * i) + G i)) = S
    rw [ih, h, Int.add_zero, sup_self]
theorem qDay_z {R : Nat → Int} (h : ∀ w : Nat, (w : Int) < R 5 → R (130 + 4 * w) ≠ R 6) : qDay R = sup R 6 (R 6 + 1) ∧ qDayR R = 0 := by
  have z : ∀ p, gsum R p (R 5).toNat 0 = 0 := fun p => gsum_z p _ _ (fun w _ hw => h w (by omega))
  constructor
  · unfold qDay
    rw [payR_z z]
  · unfold qDayR
    have e : (fun p => gsum R p (R 5).toNat 0) = fun _ => 0 := funext z
    rw [e, sumU_0]
/-- what a row of lives is -/
def lok (R : Nat → Int) : Prop := WS (clp R) ∧ WV (clp R) ∧ 0 ≤ R 6 ∧ R 6 < 1999
theorem lok.day {R : Nat → Int} (h : lok R) (h9 : R 6 < 1998) : lok (qDay R) ∧ (999 ≤ R 6 → qDay R = sup R 6 (R 6 + 1) ∧ qDayR R = 0 ∧ clp (qDay R) = clp R) := by
  obtain ⟨ws, wv, h0, _⟩ := h
  by_cases e : R 6 < 999
  · have c := clp_id (R := R) (by omega)
    rw [c] at ws wv
    have q := qDay_ok ws wv e
    have d6 := qDay_6 R
    have c2 := clp_id (R := qDay R) (by rw [d6]; omega)
    refine ⟨⟨by rw [c2]; exact q.2.1, by rw [c2]; exact q.2.2.1, by omega, by omega⟩, fun z => by omega⟩
  · have w5 : (clp R) 5 = R 5 := clp_n (by decide)
    have z := qDay_z (R := R) (fun w hw => by
      have y := (wv.2.2.2.2 w (by rw [w5]; exact hw)).2.2.1
      rw [clp_n (show 130 + 4 * w ≠ 6 by omega)] at y
      omega)
    have c : clp (qDay R) = clp R := by
      rw [z.1]
      unfold clp
      rw [sup_s, sup_sup, if_neg (show ¬ R 6 + 1 ≤ 999 by omega)]
      by_cases y : R 6 ≤ 999
      · rw [if_pos y, show R 6 = 999 by omega]
      · rw [if_neg y]
    refine ⟨⟨by rw [c]; exact ws, by rw [c]; exact wv, ?_, ?_⟩, fun _ => ⟨z.1, z.2, c⟩⟩
    · rw [z.1, sup_s]
      omega
    · rw [z.1, sup_s]
      omega
theorem lok.crs {R : Nat → Int} (h : lok R) {p b : Nat} (hp : (p : Int) < R 4) (hb : (b : Int) < R 2) (hc : qCan R p b) : lok (qCross R p b) := by
  obtain ⟨ws, wv, h0, h1⟩ := h
  have q := qCross_ok ws wv (p := p) (b := b) (by rw [clp_n (by decide)]; exact hp) (by rw [clp_n (by decide)]; exact hb) (by
    unfold qCan
    rw [qEnd_clp (by omega), qLeft_clp, clp_n (by omega)]
    exact hc)
  have e6 : qCross R p b 6 = R 6 := by
    unfold qCross
    rw [sup_n (by omega), sup_n (by omega), sup_n (by omega)]
  rw [qCross_clp] at q
  exact ⟨q.2.1, q.2.2.1, by omega, by omega⟩
theorem x_endC {v : hS} {t : Nat} {R : Nat → Int} (r : RepS v 35 t (clp R)) (tz : t = 12 ∨ 243 ≤ t) (h : lok R) (h9 : R 6 < 1998) : ∃ v', m_X4_endDay 35 v = some (qDayR R, v') ∧ RepS v' 35 t (clp (qDay R)) ∧ ext v v' ∧ (shp v → shp v') ∧ ∀ a, a < 35 ∨ 39 < a → agr v v' a := by
  have d : 35 + 5 ≤ t ∨ t + 18 ≤ 35 := by omega
  by_cases e : R 6 < 999
  · have c := clp_id (R := R) (by omega)
    have ld := (h.day h9).1
    rw [c] at r
    obtain ⟨ws, wv, _, _⟩ := h
    rw [c] at ws wv
    have c2 := clp_id (R := qDay R) (by rw [qDay_6]; omega)
    rw [c2]
    exact x_endDay r ws wv d e
  · obtain ⟨z1, z2, z3⟩ := (h.day h9).2 (by omega)
    obtain ⟨ws, wv, _, _⟩ := h
    have w5 := ws.2.2.2.2.2.1
    have c6 : clp R 6 = 999 := by
      unfold clp
      rw [sup_s]
      by_cases y : R 6 ≤ 999
      · rw [if_pos y]
        omega
      · rw [if_neg y]
    have l := x_endZ d r ws wv c6 (clp R 5).toNat 1000000000 0 (by omega) (by omega)
    have rs := r.setDay d ws.2.2.1.2 ws.2.2.2.2.1.2 999
    have e9 : sup (clp R) 6 999 = clp R := by
      rw [← c6, sup_self]
    rw [e9] at rs
    refine ⟨hsetV v 35 1 999, ?_, by rw [z3]; exact rs, ext.setV _ _ _ _, fun h => h, fun a h => agr.setV (by omega)⟩
    rw [z2]
    simp only [m_X4_endDay, hlet_p]
    exact l
/-! one day's wandering -/
abbrev goB (B : Int) (R : Nat → Int) (i : Nat) (x : Int) : Prop := drw x (B + 1) < B ∧ 0 ≤ qEnd R (94 + 2 * (drw x (B + 1)).toNat) (R (10 + 3 * i)) ∧ 0 < qLeft R i (drw x (B + 1)).toNat
def stR (B : Int) (R : Nat → Int) (i : Nat) (x : Int) : Nat → Int := if goB B R i x then qCross R i (drw x (B + 1)).toNat else R
def wanR (B : Int) : Nat → Nat → (Nat → Int) → Int → Nat → Int
  | 0, _, R, _ => R
  | k + 1, i, R, x => wanR B k (i + 1) (stR B R i x) (nxX x)
def wanC (B : Int) : Nat → Nat → (Nat → Int) → Int → Int
  | 0, _, _, _ => 0
  | k + 1, i, R, x => (if goB B R i x then 1 else 0) + wanC B k (i + 1) (stR B R i x) (nxX x)
def wanX : Nat → Int → Int
  | 0, x => x
  | k + 1, x => wanX k (nxX x)
theorem wanX_in : ∀ k x, 0 ≤ x ∧ x < 2147483648 → 0 ≤ wanX k x ∧ wanX k x < 2147483648 := by
  intro k
  induction k with
  | zero =>
    intro x h
    exact h
  | succ k ih =>
    intro x h
    exact ih (nxX x) (nxX_in x)
theorem wanC_in (B : Int) : ∀ k i R x, 0 ≤ wanC B k i R x ∧ wanC B k i R x ≤ k := by
  intro k
  induction k with
  | zero =>
    intro i R x
    exact ⟨Int.le_refl _, Int.le_refl _⟩
  | succ k ih =>
    intro i R x
    have z := ih (i + 1) (stR B R i x) (nxX x)
    show 0 ≤ (if goB B R i x then (1 : Int) else 0) + wanC B k (i + 1) (stR B R i x) (nxX x) ∧ (if goB B R i x then (1 : Int) else 0) + wanC B k (i + 1) (stR B R i x) (nxX x) ≤ ((k + 1 : Nat) : Int)
    split <;> omega
theorem stR_ok {B : Int} {R : Nat → Int} {i : Nat} {x : Int} (h : lok R) (hB : R 2 = B) (hi : (i : Int) < R 4) : lok (stR B R i x) ∧ ∀ j, j < 10 ∨ 94 ≤ j → stR B R i x j = R j := by
  have w2 := h.1.2.2.1
  have w4 := h.1.2.2.2.2.1
  rw [clp_n (by decide)] at w2 w4
  unfold stR
  by_cases g : goB B R i x
  · rw [if_pos g]
    have di := drw_in (x := x) (m := B + 1) (by omega)
    refine ⟨h.crs hi (by have := g.1; omega) g.2, fun j hj => ?_⟩
    have g1 := g.1
    unfold qCross
    rw [sup_n (by omega), sup_n (by omega), sup_n (by omega)]
  · rw [if_neg g]
    exact ⟨h, fun _ _ => rfl⟩
theorem wanR_ok {B : Int} : ∀ k i R x, lok R → R 2 = B → ((i + k : Nat) : Int) ≤ R 4 → lok (wanR B k i R x) ∧ ∀ j, j < 10 ∨ 94 ≤ j → wanR B k i R x j = R j := by
  intro k
  induction k with
  | zero =>
    intro i R x h _ _
    exact ⟨h, fun _ _ => rfl⟩
  | succ k ih =>
    intro i R x h hB hi
    have s := stR_ok (x := x) h hB (show (i : Int) < R 4 by omega)
    have z := ih (i + 1) (stR B R i x) (nxX x) s.1 (by rw [s.2 2 (by omega)]; exact hB) (by rw [s.2 4 (by omega)]; omega)
    exact ⟨z.1, fun j hj => (z.2 j hj).trans (s.2 j hj)⟩
/-- what the class's lives leave alone -/
def livF (v v' : hS) : Prop := ext v v' ∧ shp v' ∧ (∀ a, a ≠ 1 → (a < 35 ∨ 39 < a) → agr v v' a) ∧ (∀ j, j ≠ 9 → hV v' 1 j = hV v 1 j) ∧ ∀ j, hF v' 1 j = hF v 1 j
theorem livF.tr {u v w : hS} (h : livF u v) (k : livF v w) : livF u w :=
  ⟨h.1.tr k.1, k.2.1, fun a h1 h2 => (h.2.2.1 a h1 h2).tr (k.2.2.1 a h1 h2), fun j hj => (k.2.2.2.1 j hj).trans (h.2.2.2.1 j hj), fun j => (k.2.2.2.2 j).trans (h.2.2.2.2 j)⟩
theorem livF.rf {u : hS} (hs : shp u) : livF u u := ⟨ext.rf u, hs, fun _ _ _ _ => ⟨rfl, rfl⟩, fun _ _ => rfl, fun _ => rfl⟩
theorem livF.of {u v : hS} (e : ext u v) (hs : shp v) (g : ∀ a, a < 35 ∨ 39 < a → agr u v a) : livF u v :=
  ⟨e, hs, fun a _ h => g a h, fun j _ => (g 1 (by omega) j).1, fun j => (g 1 (by omega) j).2⟩
theorem x_wanL {t : Nat} (tz : t = 12 ∨ 243 ≤ t) {B : Int} : ∀ (k n i : Nat) (R : Nat → Int) (v : hS) (c : Int), RepS v 35 t (clp R) → lok R → shp v → 0 ≤ hV v 1 9 ∧ hV v 1 9 < 2147483648 → k < n → R 4 = ((i + k : Nat) : Int) → R 2 = B → 0 ≤ c → c + k ≤ 1000 → ∃ v', m_X9_wanderByDraws_L18 n 1 c B i v = some (c + wanC B k i R (hV v 1 9), v') ∧ RepS v' 35 t (clp (wanR B k i R (hV v 1 9))) ∧ hV v' 1 9 = wanX k (hV v 1 9) ∧ livF v v' := by
  intro k
  induction k with
  | zero =>
    intro n i R v c r h hs hx hn h4 hB h0 h1
    obtain ⟨n, rfl⟩ : ∃ k, n = k + 1 := ⟨n - 1, by omega⟩
    have ht := r.ht
    have ha := r.ha
    have v4 := r.v4
    rw [clp_n (by decide)] at v4
    refine ⟨v, ?_, r, rfl, livF.rf hs⟩
    simp only [m_X9_wanderByDraws_L18, hgI_k, hgR_k, hpI_k, hpR_k, hpZ_k, haI_k, haR_k, hsI_k, hsZ_k, hlen_k, hlet_p, hret_p, hretZ_0, hretZ_1, hif_p, okk_setV, okk_setF, nV, nF, fV, vF, kk_1 hs, kk_35 hs, rf_1_4 hs, r.to, TwA.k0 ht, TwA.k1 ht, TwA.k2 ht, TwA.k3 ht, TwA.k4 ht, TwA.k5 ht, TwA.k6 ht, TwA.k7 ht, TwA.k8 ht, TwA.k9 ht, TwA.k10 ht, TwA.k11 ht, TwA.k12 ht, TwA.k13 ht, TwA.k14 ht, TwA.k15 ht, TwA.k16 ht, TwA.k17 ht, TwA.n2 ht, TwA.n3 ht, TwA.n4 ht, TwA.n6 ht, TwA.n7 ht, TwA.n8 ht, TwA.n9 ht, TwA.n10 ht, TwA.n11 ht, TwA.n12 ht, TwA.n13 ht, TwA.n14 ht, TwA.n15 ht, TwA.n16 ht, TwA.n17 ht, TwA.f2 ht, TwA.f3 ht, TwA.f5 ht, TwA.f6 ht, TwA.f8 ht, TwA.f9 ht, TwA.f11 ht, TwA.f12 ht, TwA.f13 ht, TwA.f14 ht, TwA.f15 ht, TwA.b0 ht, TwA.b1 ht, TwA.b2 ht, TwA.g0 ht, TwA.g1 ht, TwA.g2 ht, v4]
    rw [if_pos (by omega)]
    show _ = some (c + 0, v)
    rw [Int.add_zero]
  | succ k ih =>
    intro n i R v c r h hs hx hn h4 hB h0 h1
    obtain ⟨n, rfl⟩ : ∃ k, n = k + 1 := ⟨n - 1, by omega⟩
    have ht := r.ht
    have ha := r.ha
    have v4 := r.v4
    rw [clp_n (by decide)] at v4
    have w2 := h.1.2.2.1
    have w4 := h.1.2.2.2.2.1
    rw [clp_n (by decide)] at w2 w4
    have hi : (i : Int) < R 4 := by omega
    have di := drw_in (x := hV v 1 9) (m := B + 1) (by omega)
    have wB : w32 (B + 1) = B + 1 := w32_id ⟨by omega, by omega⟩
    have xd := x_draw hs hx (m := B + 1) (by omega)
    have hs1 : shp (hsetV v 1 9 (nxX (hV v 1 9))) := hs
    have r1 := r.fr (ext.setV v 1 9 (nxX (hV v 1 9))) (fun a _ _ => agr.setV (by omega)) (fun a _ _ => agr.setV (by omega))
    have so := stR_ok (x := hV v 1 9) h hB hi
    have f1 : livF v (hsetV v 1 9 (nxX (hV v 1 9))) := ⟨ext.setV _ _ _ _, hs, fun a h1 _ => agr.setV h1, fun j hj => hV_setV_i hj, fun _ => rfl⟩
    by_cases g : goB B R i (hV v 1 9)
    · obtain ⟨b, hb⟩ : ∃ b : Nat, drw (hV v 1 9) (B + 1) = b := ⟨(drw (hV v 1 9) (B + 1)).toNat, by omega⟩
      have st : stR B R i (hV v 1 9) = qCross R i b := by
        unfold stR
        rw [if_pos g, hb, Int.toNat_natCast]
      have g' := g
      unfold goB at g'
      rw [hb, Int.toNat_natCast] at g'
      have cc := (x_canCross r1 h.1 (p := i) (b := b) (by rw [clp_n (by decide)]; exact hi) (by rw [clp_n (by decide)]; omega) (qEnd_pos h.2.1 (by rw [clp_n (by decide)]; omega))).1 (by
        unfold qCan
        rw [qEnd_clp (by omega), qLeft_clp, clp_n (by omega)]
        exact g'.2)
      obtain ⟨v2, g1, g2, g3, g4, g5⟩ := x_goOver r1 h.1 (p := i) (b := b) (by omega) (by rw [clp_n (by decide)]; exact hi) (by rw [clp_n (by decide)]; omega)
      rw [qCross_clp, ← st] at g2
      have hs2 := g4 hs1
      have x2 : hV v2 1 9 = nxX (hV v 1 9) := by
        rw [(g5 1 (by omega) 9).1, hV_setV_s]
      obtain ⟨v', q1, q2, q3, q4⟩ := ih n (i + 1) _ v2 (c + 1) g2 so.1 hs2 (by rw [x2]; exact nxX_in _) (by omega) (by rw [so.2 4 (by omega)]; omega) (by rw [so.2 2 (by omega)]; exact hB) (by omega) (by omega)
      rw [x2] at q1 q2 q3
      refine ⟨v', ?_, q2, q3, (f1.tr (livF.of g3 hs2 g5)).tr q4⟩
      have w1 : w32 (c + 1) = c + 1 := w32_id ⟨by omega, by omega⟩
      simp only [m_X9_wanderByDraws_L18, m_X9_wanderByDraws_L73, hgI_k, hgR_k, hpI_k, hpR_k, hpZ_k, haI_k, haR_k, hsI_k, hsZ_k, hlen_k, hlet_p, hret_p, hretZ_0, hretZ_1, hif_p, okk_setV, okk_setF, nV, nF, fV, vF, hcallV_b, hbind_p, kk_1 hs, kk_35 hs, rf_1_4 hs, r.to, TwA.k0 ht, TwA.k1 ht, TwA.k2 ht, TwA.k3 ht, TwA.k4 ht, TwA.k5 ht, TwA.k6 ht, TwA.k7 ht, TwA.k8 ht, TwA.k9 ht, TwA.k10 ht, TwA.k11 ht, TwA.k12 ht, TwA.k13 ht, TwA.k14 ht, TwA.k15 ht, TwA.k16 ht, TwA.k17 ht, TwA.n2 ht, TwA.n3 ht, TwA.n4 ht, TwA.n6 ht, TwA.n7 ht, TwA.n8 ht, TwA.n9 ht, TwA.n10 ht, TwA.n11 ht, TwA.n12 ht, TwA.n13 ht, TwA.n14 ht, TwA.n15 ht, TwA.n16 ht, TwA.n17 ht, TwA.f2 ht, TwA.f3 ht, TwA.f5 ht, TwA.f6 ht, TwA.f8 ht, TwA.f9 ht, TwA.f11 ht, TwA.f12 ht, TwA.f13 ht, TwA.f14 ht, TwA.f15 ht, TwA.b0 ht, TwA.b1 ht, TwA.b2 ht, TwA.g0 ht, TwA.g1 ht, TwA.g2 ht, v4, wB, xd, hb, cc, kk_1 hs1, kk_35 hs1, rf_1_4 hs1, g1, w1, ix_s (show i < 1000000 by omega)]
      rw [if_neg (by omega), if_neg (by omega), if_neg (by decide), q1]
      show _ = some (c + ((if goB B R i (hV v 1 9) then (1 : Int) else 0) + wanC B k (i + 1) (stR B R i (hV v 1 9)) (nxX (hV v 1 9))), v')
      rw [if_pos g, Int.add_assoc]
    · have st : stR B R i (hV v 1 9) = R := by
        unfold stR
        rw [if_neg g]
      have x2 : hV (hsetV v 1 9 (nxX (hV v 1 9))) 1 9 = nxX (hV v 1 9) := hV_setV_s _ _ _ _
      obtain ⟨v', q1, q2, q3, q4⟩ := ih n (i + 1) R (hsetV v 1 9 (nxX (hV v 1 9))) c r1 h hs1 (by rw [x2]; exact nxX_in _) (by omega) (by omega) hB (by omega) (by omega)
      rw [x2] at q1 q2 q3
      refine ⟨v', ?_, ?_, q3, f1.tr q4⟩
      · show _ = some (c + ((if goB B R i (hV v 1 9) then (1 : Int) else 0) + wanC B k (i + 1) (stR B R i (hV v 1 9)) (nxX (hV v 1 9))), v')
        rw [if_neg g, st, Int.zero_add, ← q1]
        simp only [m_X9_wanderByDraws_L18, m_X9_wanderByDraws_L73, hgI_k, hgR_k, hpI_k, hpR_k, hpZ_k, haI_k, haR_k, hsI_k, hsZ_k, hlen_k, hlet_p, hret_p, hretZ_0, hretZ_1, hif_p, okk_setV, okk_setF, nV, nF, fV, vF, hcallV_b, hbind_p, kk_1 hs, kk_35 hs, rf_1_4 hs, r.to, TwA.k0 ht, TwA.k1 ht, TwA.k2 ht, TwA.k3 ht, TwA.k4 ht, TwA.k5 ht, TwA.k6 ht, TwA.k7 ht, TwA.k8 ht, TwA.k9 ht, TwA.k10 ht, TwA.k11 ht, TwA.k12 ht, TwA.k13 ht, TwA.k14 ht, TwA.k15 ht, TwA.k16 ht, TwA.k17 ht, TwA.n2 ht, TwA.n3 ht, TwA.n4 ht, TwA.n6 ht, TwA.n7 ht, TwA.n8 ht, TwA.n9 ht, TwA.n10 ht, TwA.n11 ht, TwA.n12 ht, TwA.n13 ht, TwA.n14 ht, TwA.n15 ht, TwA.n16 ht, TwA.n17 ht, TwA.f2 ht, TwA.f3 ht, TwA.f5 ht, TwA.f6 ht, TwA.f8 ht, TwA.f9 ht, TwA.f11 ht, TwA.f12 ht, TwA.f13 ht, TwA.f14 ht, TwA.f15 ht, TwA.b0 ht, TwA.b1 ht, TwA.b2 ht, TwA.g0 ht, TwA.g1 ht, TwA.g2 ht, v4, wB, xd, kk_1 hs1, rf_1_4 hs1, kk_35 hs1, ix_s (show i < 1000000 by omega)]
        rw [if_neg (by omega)]
        by_cases gb : drw (hV v 1 9) (B + 1) ≥ B
        · rw [if_pos gb]
        · rw [if_neg gb]
          obtain ⟨b, hb⟩ : ∃ b : Nat, drw (hV v 1 9) (B + 1) = b := ⟨(drw (hV v 1 9) (B + 1)).toNat, by omega⟩
          have cc := (x_canCross r1 h.1 (p := i) (b := b) (by rw [clp_n (by decide)]; exact hi) (by rw [clp_n (by decide)]; omega) (qEnd_pos h.2.1 (by rw [clp_n (by decide)]; omega))).2 (by
            unfold qCan
            rw [qEnd_clp (by omega), qLeft_clp, clp_n (by omega)]
            intro z
            refine g ⟨by omega, ?_⟩
            rw [hb, Int.toNat_natCast]
            exact z)
          rw [hb]
          simp only [cc, hbind_p, hgI_k, hgR_k, hpI_k, hpR_k, hpZ_k, haI_k, haR_k, hsI_k, hsZ_k, hlen_k, hlet_p, hret_p, hretZ_0, hretZ_1, hif_p, okk_setV, okk_setF, nV, nF, fV, vF]
          rw [if_pos trivial]
      · show RepS v' 35 t (clp (wanR B k (i + 1) (stR B R i (hV v 1 9)) (nxX (hV v 1 9))))
        rw [st]
        exact q2
