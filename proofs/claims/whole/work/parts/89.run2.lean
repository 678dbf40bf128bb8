/-! days under a rule -/
def rnP (cd op : Nat → Int) (C : Nat) (a b e : Nat → Nat) (T : Nat → Int) : Nat → Nat → (Nat → Int) → Nat → Int
  | 0, _, S => S
  | k + 1, i, S => rnP cd op C a b e T k (i + 1) (obS cd op C a b e T S i)
def rnS (cd op : Nat → Int) (C : Nat) (a b e : Nat → Nat) (T : Nat → Int) (P : Nat) : Nat → (Nat → Int) → Nat → Int
  | 0, S => S
  | k + 1, S => rnS cd op C a b e T P k (qDay (rnP cd op C a b e T P 0 S))
def rnG (cd op : Nat → Int) (C : Nat) (a b e : Nat → Nat) (T : Nat → Int) (P : Nat) : Nat → (Nat → Int) → Int
  | 0, _ => 0
  | k + 1, S => qDayR (rnP cd op C a b e T P 0 S) + rnG cd op C a b e T P k (qDay (rnP cd op C a b e T P 0 S))
theorem rnP_ok {cd op : Nat → Int} {C : Nat} {a b e : Nat → Nat} {T : Nat → Int} : ∀ (k i : Nat) (S : Nat → Int), WS S → WV S → ((i + k : Nat) : Int) ≤ S 4 → twn (rnP cd op C a b e T k i S) = twn S ∧ WS (rnP cd op C a b e T k i S) ∧ WV (rnP cd op C a b e T k i S) ∧ ∀ j, j < 10 ∨ 94 ≤ j → rnP cd op C a b e T k i S j = S j := by
  intro k
  induction k with
  | zero =>
    intro i S ws wv _
    exact ⟨rfl, ws, wv, fun _ _ => rfl⟩
  | succ k ih =>
    intro i S ws wv h
    have o := obS_ok (cd := cd) (op := op) (C := C) (a := a) (b := b) (e := e) (T := T) ws wv (p := i) (by omega)
    have z := ih (i + 1) _ o.2.1 o.2.2.1 (by rw [o.2.2.2 4 (by omega)]; omega)
    exact ⟨z.1.trans o.1, z.2.1, z.2.2.1, fun j hj => (z.2.2.2 j hj).trans (o.2.2.2 j hj)⟩
theorem rxC.fr {u v : hS} {q : Nat} {cd op : Nat → Int} {C : Nat} {a b e : Nat → Nat} (h : rxC u q cd op C a b e) (q54 : 54 ≤ q) (f : runF q u v) : rxC v q cd op C a b e := by
  have g : ∀ a, q ≤ a → a ≤ q + 5 → hV v a = hV u a := fun a h1 h2 => funext fun i => (f.2.2 a (by omega) (by omega) (by omega) i).1
  unfold rxC
  rw [g (q + 1) (by omega) (by omega), g (q + 2) (by omega) (by omega), g q (by omega) (by omega), g (q + 3) (by omega) (by omega), g (q + 4) (by omega) (by omega), g (q + 5) (by omega) (by omega)]
  exact h
theorem x_rnP {t r M C : Nat} {cd op : Nat → Int} {a b e : Nat → Nat} {T : Nat → Int} (hr : r < 6) (rc : rlC cd op M C a b e) (l2 l3 l4 : Int) (K : Nat → Int → Int → Int → Int → hM) : ∀ (k n i : Nat) (u : hS) (S : Nat → Int), k < n → S 4 = ((i + k : Nat) : Int) → shp u → RepF u 30 t S → rxC u (54 + 7 * r) cd op C a b e → hV u (t + 17) = T → S 6 < 999 → ∃ v, m_X9_run_L67 K n 1 r l2 l3 l4 i u = K 1 r l2 (w32 (l3 + qDayR (rnP cd op C a b e T k i S))) (w32 (l4 + 1)) v ∧ RepF v 30 t (qDay (rnP cd op C a b e T k i S)) ∧ runF (54 + 7 * r) u v := by
  intro k
  induction k with
  | zero =>
    intro n i u S hn hv hs rf rx hT h6
    obtain ⟨n, rfl⟩ : ∃ k, n = k + 1 := ⟨n - 1, by omega⟩
    obtain ⟨rs, tz, rw0, ws, wv⟩ := id rf
    have ht := rs.ht
    obtain ⟨v, g1, g2, g3, g4, g5⟩ := x_endDay rs ws wv (by omega) h6
    have fv : runF (54 + 7 * r) u v := ⟨g3, g4 hs, fun a h _ _ => g5 a h⟩
    have qo := qDay_ok ws wv h6
    refine ⟨v, ?_, rf.nx g2 (fun a _ _ => g5 a (by omega)) ⟨qo.1, qo.2.1, qo.2.2.1⟩, fv⟩
    show _ = K 1 r l2 (w32 (l3 + qDayR S)) (w32 (l4 + 1)) v
    simp only [m_X9_run_L67, hgI_k, hgR_k, hpI_k, hpR_k, hpZ_k, haI_k, haR_k, hsI_k, hsZ_k, hlen_k, hlet_p, hret_p, hretZ_0, hretZ_1, hif_p, okk_setV, okk_setF, nV, nF, fV, vF, hcallV_b, hbind_p, kk_1 hs, kk_30 hs, rf_1_3 hs, rs.to, TwA.k0 ht, TwA.k1 ht, TwA.k2 ht, TwA.k3 ht, TwA.k4 ht, TwA.k5 ht, TwA.k6 ht, TwA.k7 ht, TwA.k8 ht, TwA.k9 ht, TwA.k10 ht, TwA.k11 ht, TwA.k12 ht, TwA.k13 ht, TwA.k14 ht, TwA.k15 ht, TwA.k16 ht, TwA.k17 ht, TwA.n2 ht, TwA.n3 ht, TwA.n4 ht, TwA.n6 ht, TwA.n7 ht, TwA.n8 ht, TwA.n9 ht, TwA.n10 ht, TwA.n11 ht, TwA.n12 ht, TwA.n13 ht, TwA.n14 ht, TwA.n15 ht, TwA.n16 ht, TwA.n17 ht, TwA.f2 ht, TwA.f3 ht, TwA.f5 ht, TwA.f6 ht, TwA.f8 ht, TwA.f9 ht, TwA.f11 ht, TwA.f12 ht, TwA.f13 ht, TwA.f14 ht, TwA.f15 ht, TwA.b0 ht, TwA.b1 ht, TwA.b2 ht, TwA.g0 ht, TwA.g1 ht, TwA.g2 ht, rs.v4, g1]
    rw [if_pos (by omega)]
  | succ k ih =>
    intro n i u S hn hv hs rf rx hT h6
    obtain ⟨n, rfl⟩ : ∃ k, n = k + 1 := ⟨n - 1, by omega⟩
    obtain ⟨rs, tz, rw0, ws, wv⟩ := id rf
    have ht := rs.ht
    have w4 := ws.2.2.2.2.1
    obtain ⟨v, g1, g2, g3⟩ := x_obey hs rf hr rc rx (p := i) (by omega)
    rw [hT] at g2
    have o := obS_ok (cd := cd) (op := op) (C := C) (a := a) (b := b) (e := e) (T := T) ws wv (p := i) (by omega)
    have hT' : hV v (t + 17) = T := by
      rw [← hT]
      exact funext fun j => (g3.2.2 (t + 17) (by omega) (by omega) (by omega) j).1
    obtain ⟨v', q1, q2, q3⟩ := ih n (i + 1) v _ (by omega) (by rw [o.2.2.2 4 (by omega)]; omega) g3.2.1 g2 (rx.fr (by omega) g3) hT' (by rw [o.2.2.2 6 (by omega)]; exact h6)
    refine ⟨v', ?_, q2, g3.tr q3⟩
    show _ = K 1 r l2 (w32 (l3 + qDayR (rnP cd op C a b e T k (i + 1) (obS cd op C a b e T S i)))) (w32 (l4 + 1)) v'
    rw [← q1]
    simp only [m_X9_run_L67, hgI_k, hgR_k, hpI_k, hpR_k, hpZ_k, haI_k, haR_k, hsI_k, hsZ_k, hlen_k, hlet_p, hret_p, hretZ_0, hretZ_1, hif_p, okk_setV, okk_setF, nV, nF, fV, vF, hcallV_b, hbind_p, haR_n, kk_1 hs, kk_30 hs, kk_4 hs, rf_1_1 hs, rf_1_3 hs, ln_4 hs, rs.to, TwA.k0 ht, TwA.k1 ht, TwA.k2 ht, TwA.k3 ht, TwA.k4 ht, TwA.k5 ht, TwA.k6 ht, TwA.k7 ht, TwA.k8 ht, TwA.k9 ht, TwA.k10 ht, TwA.k11 ht, TwA.k12 ht, TwA.k13 ht, TwA.k14 ht, TwA.k15 ht, TwA.k16 ht, TwA.k17 ht, TwA.n2 ht, TwA.n3 ht, TwA.n4 ht, TwA.n6 ht, TwA.n7 ht, TwA.n8 ht, TwA.n9 ht, TwA.n10 ht, TwA.n11 ht, TwA.n12 ht, TwA.n13 ht, TwA.n14 ht, TwA.n15 ht, TwA.n16 ht, TwA.n17 ht, TwA.f2 ht, TwA.f3 ht, TwA.f5 ht, TwA.f6 ht, TwA.f8 ht, TwA.f9 ht, TwA.f11 ht, TwA.f12 ht, TwA.f13 ht, TwA.f14 ht, TwA.f15 ht, TwA.b0 ht, TwA.b1 ht, TwA.b2 ht, TwA.g0 ht, TwA.g1 ht, TwA.g2 ht, rs.v4, hr, (rul_at hs hr).2, g1, ix_s (show i < 1000000 by omega)]
    rw [if_neg (by omega)]
theorem qDayR_in2 {S : Nat → Int} (ws : WS S) (wv : WV S) : 0 ≤ qDayR S ∧ qDayR S ≤ 4000 := by
  have w6 := ws.2.2.2.2.2.2.1
  have c := clp_id (R := S) (by omega)
  exact qDayR_in ⟨by rw [c]; exact ws, by rw [c]; exact wv, by omega, by omega⟩
theorem x_rnS {t r M C P D : Nat} {cd op : Nat → Int} {a b e : Nat → Nat} {T : Nat → Int} (hD : D ≤ 60) (hr : r < 6) (rc : rlC cd op M C a b e) : ∀ (k n j : Nat) (g : Int) (u : hS) (S : Nat → Int), k < n → j + k = D → S 4 = (P : Int) → shp u → RepF u 30 t S → rxC u (54 + 7 * r) cd op C a b e → hV u (t + 17) = T → S 6 + k ≤ 999 → 0 ≤ g → g ≤ 4000 * j → ∃ v, m_X9_run_L58 n 1 r D g j u = some (g + rnG cd op C a b e T P k S, v) ∧ RepF v 30 t (rnS cd op C a b e T P k S) ∧ runF (54 + 7 * r) u v := by
  intro k
  induction k with
  | zero =>
    intro n j g u S hn hj hP hs rf rx hT h6 h0 h1
    obtain ⟨n, rfl⟩ : ∃ k, n = k + 1 := ⟨n - 1, by omega⟩
    refine ⟨u, ?_, rf, runF.rf hs⟩
    show _ = some (g + 0, u)
    simp only [m_X9_run_L58, hgI_k, hgR_k, hpI_k, hpR_k, hpZ_k, haI_k, haR_k, hsI_k, hsZ_k, hlen_k, hlet_p, hret_p, hretZ_0, hretZ_1, hif_p, okk_setV, okk_setF, nV, nF, fV, vF]
    rw [if_pos (by omega), Int.add_zero]
  | succ k ih =>
    intro n j g u S hn hj hP hs rf rx hT h6 h0 h1
    obtain ⟨n, rfl⟩ : ∃ k, n = k + 1 := ⟨n - 1, by omega⟩
    obtain ⟨rs, tz, rw0, ws, wv⟩ := id rf
    have w4 := ws.2.2.2.2.1
    obtain ⟨v, g1, g2, g3⟩ := x_rnP (T := T) hr rc D g j (m_X9_run_L58 n) P 1000000000 0 u S (by omega) (by omega) hs rf rx hT (by omega)
    have o := rnP_ok (cd := cd) (op := op) (C := C) (a := a) (b := b) (e := e) (T := T) P 0 S ws wv (by omega)
    have gi := qDayR_in2 o.2.1 o.2.2.1
    have e1 : w32 (g + qDayR (rnP cd op C a b e T P 0 S)) = g + qDayR (rnP cd op C a b e T P 0 S) := w32_id ⟨by omega, by omega⟩
    rw [e1, ix_s (show j < 1000000 by omega)] at g1
    have hT' : hV v (t + 17) = T := by
      rw [← hT]
      exact funext fun j => (g3.2.2 (t + 17) (by omega) (by omega) (by omega) j).1
    have d4 : qDay (rnP cd op C a b e T P 0 S) 4 = (P : Int) := by
      rw [qDay_ne o.2.1 (by decide) (by omega), o.2.2.2 4 (by omega)]
      exact hP
    have d6 : qDay (rnP cd op C a b e T P 0 S) 6 = S 6 + 1 := by
      rw [qDay_6, o.2.2.2 6 (by omega)]
    obtain ⟨v', q1, q2, q3⟩ := ih n (j + 1) (g + qDayR (rnP cd op C a b e T P 0 S)) v _ (by omega) (by omega) d4 g3.2.1 g2 (rx.fr (by omega) g3) hT' (by rw [d6]; omega) (by omega) (by omega)
    refine ⟨v', ?_, q2, g3.tr q3⟩
    show _ = some (g + (qDayR (rnP cd op C a b e T P 0 S) + rnG cd op C a b e T P k (qDay (rnP cd op C a b e T P 0 S))), v')
    have g1' : m_X9_run_L67 (m_X9_run_L58 n) 1000000000 1 r D g j 0 u = _ := g1
    rw [← Int.add_assoc, ← q1, ← g1']
    simp only [m_X9_run_L58, hgI_k, hgR_k, hpI_k, hpR_k, hpZ_k, haI_k, haR_k, hsI_k, hsZ_k, hlen_k, hlet_p, hret_p, hretZ_0, hretZ_1, hif_p, okk_setV, okk_setF, nV, nF, fV, vF]
    rw [if_neg (by omega)]
theorem y_rnP {w : hS} {t r M C : Nat} {cd op : Nat → Int} {a b e : Nat → Nat} (hr : r < 6) (rc : rlC cd op M C a b e) (l2 l3 l4 : Int) (K : Nat → Int → Int → Int → Int → hM) : ∀ (k n i : Nat) (u : hS) (S : Nat → Int), k < n → S 4 = ((i + k : Nat) : Int) → shp u → hV u 230 = S → (∀ c, c < 9 → hV u 231 c = 0) → WS S → WV S → RepW0 w t (twn S) → ryC u r cd op M C a b e → S 6 < 999 → ∃ v, m_X10_run_L63 K n 220 r l2 l3 l4 i u = K 220 r l2 (w32 (l3 + qDayR (rnP cd op C a b e (hV w (t + 17)) k i S))) (w32 (l4 + 1)) v ∧ hV v 230 = qDay (rnP cd op C a b e (hV w (t + 17)) k i S) ∧ rfF u v := by
  intro k
  induction k with
  | zero =>
    intro n i u S hn hv hs hS ex ws wv rw0 ry h6
    obtain ⟨n, rfl⟩ : ∃ k, n = k + 1 := ⟨n - 1, by omega⟩
    have pa := y_passes hs (by rw [hS]; exact ws) (by rw [hS]; exact wv) (by rw [hS]; exact h6)
    rw [hS] at pa
    have pa' : m_X10_passes 220 u = some (qDayR S, hput u 230 (qDay S)) := pa
    refine ⟨hput u 230 (qDay S), ?_, hV_put_s _ _ _, rfF.row hs _⟩
    show _ = K 220 r l2 (w32 (l3 + qDayR S)) (w32 (l4 + 1)) _
    simp only [m_X10_run_L63, hgI_k, hgR_k, hpI_k, hpR_k, hpZ_k, haI_k, haR_k, hsI_k, hsZ_k, hlen_k, hlet_p, hret_p, hretZ_0, hretZ_1, hif_p, okk_setV, okk_setF, nV, nF, fV, vF, hcallV_b, hbind_p, haI_4, kk_220 hs, kk_230 hs, rf_220_20 hs, ln_230 hs, lt_c 4 160 rfl, hS, pa']
    rw [if_pos (by omega)]
  | succ k ih =>
    intro n i u S hn hv hs hS ex ws wv rw0 ry h6
    obtain ⟨n, rfl⟩ : ∃ k, n = k + 1 := ⟨n - 1, by omega⟩
    obtain ⟨v, g1, g2, g3⟩ := y_obey hs ex hS ws wv rw0 hr rc ry (p := i) (by omega) K l2 l3 l4 n
    have o := obS_ok (cd := cd) (op := op) (C := C) (a := a) (b := b) (e := e) (T := hV w (t + 17)) ws wv (p := i) (by omega)
    obtain ⟨v', q1, q2, q3⟩ := ih n (i + 1) v _ (by omega) (by rw [o.2.2.2 4 (by omega)]; omega) g3.2.1 g2 (fun c hc => by
      rw [(g3.2.2.1 231 (by decide) (by decide) (by decide) (by decide) (by decide) c).1]
      exact ex c hc) o.2.1 o.2.2.1 (by rw [o.1]; exact rw0) (ry.fr g3) (by rw [o.2.2.2 6 (by omega)]; exact h6)
    exact ⟨v', g1.trans q1, q2, g3.tr q3⟩
theorem y_rnS {w : hS} {t r M C P D : Nat} {cd op : Nat → Int} {a b e : Nat → Nat} (hD : D ≤ 60) (hr : r < 6) (rc : rlC cd op M C a b e) : ∀ (k n j : Nat) (g : Int) (u : hS) (S : Nat → Int), k < n → j + k = D → S 4 = (P : Int) → shp u → hV u 230 = S → (∀ c, c < 9 → hV u 231 c = 0) → WS S → WV S → RepW0 w t (twn S) → ryC u r cd op M C a b e → S 6 + k ≤ 999 → 0 ≤ g → g ≤ 4000 * j → ∃ v, m_X10_run_L54 n 220 r D g j u = some (g + rnG cd op C a b e (hV w (t + 17)) P k S, v) ∧ hV v 230 = rnS cd op C a b e (hV w (t + 17)) P k S ∧ rfF u v := by
  intro k
  induction k with
  | zero =>
    intro n j g u S hn hj hP hs hS ex ws wv rw0 ry h6 h0 h1
    obtain ⟨n, rfl⟩ : ∃ k, n = k + 1 := ⟨n - 1, by omega⟩
    refine ⟨u, ?_, hS, rfF.rf hs⟩
    show _ = some (g + 0, u)
    simp only [m_X10_run_L54, hgI_k, hgR_k, hpI_k, hpR_k, hpZ_k, haI_k, haR_k, hsI_k, hsZ_k, hlen_k, hlet_p, hret_p, hretZ_0, hretZ_1, hif_p, okk_setV, okk_setF, nV, nF, fV, vF]
    rw [if_pos (by omega), Int.add_zero]
  | succ k ih =>
    intro n j g u S hn hj hP hs hS ex ws wv rw0 ry h6 h0 h1
    obtain ⟨n, rfl⟩ : ∃ k, n = k + 1 := ⟨n - 1, by omega⟩
    have w4 := ws.2.2.2.2.1
    obtain ⟨v, g1, g2, g3⟩ := y_rnP hr rc D g j (m_X10_run_L54 n) P 1000000000 0 u S (by omega) (by omega) hs hS ex ws wv rw0 ry (by omega)
    have o := rnP_ok (cd := cd) (op := op) (C := C) (a := a) (b := b) (e := e) (T := hV w (t + 17)) P 0 S ws wv (by omega)
    have gi := qDayR_in2 o.2.1 o.2.2.1
    have o6 := o.2.2.2 6 (by omega)
    have qo := qDay_ok o.2.1 o.2.2.1 (by omega)
    have e1 : w32 (g + qDayR (rnP cd op C a b e (hV w (t + 17)) P 0 S)) = g + qDayR (rnP cd op C a b e (hV w (t + 17)) P 0 S) := w32_id ⟨by omega, by omega⟩
    rw [e1, ix_s (show j < 1000000 by omega)] at g1
    have d4 : qDay (rnP cd op C a b e (hV w (t + 17)) P 0 S) 4 = (P : Int) := by
      rw [qDay_ne o.2.1 (by decide) (by omega), o.2.2.2 4 (by omega)]
      exact hP
    have d6 : qDay (rnP cd op C a b e (hV w (t + 17)) P 0 S) 6 = S 6 + 1 := by
      rw [qDay_6, o6]
    obtain ⟨v', q1, q2, q3⟩ := ih n (j + 1) (g + qDayR (rnP cd op C a b e (hV w (t + 17)) P 0 S)) v _ (by omega) (by omega) d4 g3.2.1 g2 (fun c hc => by
      rw [(g3.2.2.1 231 (by decide) (by decide) (by decide) (by decide) (by decide) c).1]
      exact ex c hc) qo.2.1 qo.2.2.1 (by rw [qo.1, o.1]; exact rw0) (ry.fr g3) (by rw [d6]; omega) (by omega) (by omega)
    refine ⟨v', ?_, q2, g3.tr q3⟩
    show _ = some (g + (qDayR (rnP cd op C a b e (hV w (t + 17)) P 0 S) + rnG cd op C a b e (hV w (t + 17)) P k (qDay (rnP cd op C a b e (hV w (t + 17)) P 0 S))), v')
    have g1' : m_X10_run_L63 (m_X10_run_L54 n) 1000000000 220 r D g j 0 u = _ := g1
    rw [← Int.add_assoc, ← q1, ← g1']
    simp only [m_X10_run_L54, hgI_k, hgR_k, hpI_k, hpR_k, hpZ_k, haI_k, haR_k, hsI_k, hsZ_k, hlen_k, hlet_p, hret_p, hretZ_0, hretZ_1, hif_p, okk_setV, okk_setF, nV, nF, fV, vF]
    rw [if_neg (by omega)]
theorem rnS_ok {cd op : Nat → Int} {C : Nat} {a b e : Nat → Nat} {T : Nat → Int} {P : Nat} : ∀ (k : Nat) (S : Nat → Int), WS S → WV S → S 4 = (P : Int) → S 6 + k ≤ 999 → ∀ j, 94 ≤ j → rnS cd op C a b e T P k S j = S j := by
  intro k
  induction k with
  | zero =>
    intro S _ _ _ _ j _
    rfl
  | succ k ih =>
    intro S ws wv hP h6 j hj
    have w4 := ws.2.2.2.2.1
    have o := rnP_ok (cd := cd) (op := op) (C := C) (a := a) (b := b) (e := e) (T := T) P 0 S ws wv (by omega)
    have o6 := o.2.2.2 6 (by omega)
    have qo := qDay_ok o.2.1 o.2.2.1 (by omega)
    have z := ih _ qo.2.1 qo.2.2.1 (by
      rw [qDay_ne o.2.1 (by decide) (by omega), o.2.2.2 4 (by omega)]
      exact hP) (by rw [qDay_6, o6]; omega) j hj
    exact z.trans ((qo.2.2.2 j hj).trans (o.2.2.2 j (by omega)))
/-- run: the answers agree, and what is left as it was -/
theorem a_run {u : hS} (hs : shp u) (ai : actInv u) (rr : RepR u) (ex : ∀ c, c < 9 → hV u 231 c = 0) (r d : Int) : ∃ v u1 u2, m_X9_run 1 r d u = some (v, u1) ∧ m_X10_run 220 r d u1 = some (v, u2) ∧ shp u1 ∧ ext u u2 ∧ shp u2 ∧ actInv u2 ∧ (∀ i, i ≠ 6 → i ≠ 7 → hV u2 1 i = hV u 1 i) ∧ (∀ i, i ≠ 18 → i ≠ 25 → hV u2 220 i = hV u 220 i) ∧ ∀ a, a ≠ 1 → (a < 30 ∨ 34 < a) → a ≠ 7 → (a < 54 ∨ 95 < a ∨ a % 7 ≠ 4) → a ≠ 220 → a ≠ 228 → a ≠ 229 → a ≠ 230 → a ≠ 232 → agr u u2 a := by
  obtain ⟨t, c, rf, ru, h25⟩ := id ai
  obtain ⟨N, N6, n1, n2, rall⟩ := rr
  have rs := rf.1
  have tz := rf.2.1
  have ws := rf.2.2.2.1
  have wv := rf.2.2.2.2
  have w4 := ws.2.2.2.2.1
  have w6 := ws.2.2.2.2.2.2.1
  have n10 : ¬ (1 : Int) = 0 := by decide
  have same : ∀ v : Int, m_X9_run 1 r d u = some (v, u) → m_X10_run 220 r d u = some (v, u) → ∃ v u1 u2, m_X9_run 1 r d u = some (v, u1) ∧ m_X10_run 220 r d u1 = some (v, u2) ∧ shp u1 ∧ ext u u2 ∧ shp u2 ∧ actInv u2 ∧ (∀ i, i ≠ 6 → i ≠ 7 → hV u2 1 i = hV u 1 i) ∧ (∀ i, i ≠ 18 → i ≠ 25 → hV u2 220 i = hV u 220 i) ∧ ∀ a, a ≠ 1 → (a < 30 ∨ 34 < a) → a ≠ 7 → (a < 54 ∨ 95 < a ∨ a % 7 ≠ 4) → a ≠ 220 → a ≠ 228 → a ≠ 229 → a ≠ 230 → a ≠ 232 → agr u u2 a := fun v h1 h2 => ⟨v, u, u, h1, h2, hs, ext.rf u, hs, ai, fun _ _ _ => rfl, fun _ _ _ => rfl, fun _ _ _ _ _ _ _ _ _ _ _ => ⟨rfl, rfl⟩⟩
  have y_isRule : m_X10_isRule 220 r u = some (if 0 ≤ r ∧ r < (N : Int) then 1 else 0, u) := by
    simp only [m_X10_isRule_L17, m_X10_isRule_L16, m_X10_isRule, hgI_k, hgR_k, hpI_k, hpR_k, hpZ_k, haI_k, haR_k, hsI_k, hsZ_k, hlen_k, hlet_p, hret_p, hretZ_0, hretZ_1, hif_p, okk_setV, okk_setF, nV, nF, fV, vF, kk_220 hs, n2]
    by_cases h0 : r < 0
    · rw [if_pos h0, if_neg (by omega)]
    · rw [if_neg h0]
      by_cases h1 : r ≥ (N : Int)
      · rw [if_pos h1, if_neg (by omega)]
      · rw [if_neg h1, if_pos (by omega)]
  by_cases h0 : hV u 230 0 ≤ 0
  · refine same (-1) ?_ ?_
    · simp only [m_X9_run, m_X9_run_L30, hgI_k, hgR_k, hpI_k, hpR_k, hpZ_k, haI_k, haR_k, hsI_k, hsZ_k, hlen_k, hlet_p, hret_p, hretZ_0, hretZ_1, hif_p, okk_setV, okk_setF, nV, nF, fV, vF, hcallV_b, hbind_p, x_hasTown hs rs, kk_1 hs, if_pos h0, if_true]
    · simp only [m_X10_run, m_X10_run_L42, hgI_k, hgR_k, hpI_k, hpR_k, hpZ_k, haI_k, haR_k, hsI_k, hsZ_k, hlen_k, hlet_p, hret_p, hretZ_0, hretZ_1, hif_p, okk_setV, okk_setF, nV, nF, fV, vF, hcallV_b, hbind_p, y_isTown hs, kk_220 hs, if_pos h0, if_true]
  by_cases hr : 0 ≤ r ∧ r < (N : Int)
  case neg =>
    refine same (-1) ?_ ?_
    · simp only [m_X9_run, m_X9_run_L30, hgI_k, hgR_k, hpI_k, hpR_k, hpZ_k, haI_k, haR_k, hsI_k, hsZ_k, hlen_k, hlet_p, hret_p, hretZ_0, hretZ_1, hif_p, okk_setV, okk_setF, nV, nF, fV, vF, hcallV_b, hbind_p, x_hasTown hs rs, kk_1 hs, if_neg h0, if_neg n10, n1]
      by_cases z : r < 0
      · rw [if_pos z]
      · rw [if_neg z, if_pos (by omega)]
    · simp only [m_X10_run, m_X10_run_L42, hgI_k, hgR_k, hpI_k, hpR_k, hpZ_k, haI_k, haR_k, hsI_k, hsZ_k, hlen_k, hlet_p, hret_p, hretZ_0, hretZ_1, hif_p, okk_setV, okk_setF, nV, nF, fV, vF, hcallV_b, hbind_p, y_isTown hs, y_isRule, kk_220 hs, if_neg h0, if_neg n10, if_neg hr, if_true]
  have r0 : ¬ r < 0 := by omega
  have r1 : ¬ r ≥ (N : Int) := by omega
  by_cases hd : 1 ≤ d ∧ d ≤ 60
  case neg =>
    refine same (-1) ?_ ?_
    · simp only [m_X9_run, m_X9_run_L30, hgI_k, hgR_k, hpI_k, hpR_k, hpZ_k, haI_k, haR_k, hsI_k, hsZ_k, hlen_k, hlet_p, hret_p, hretZ_0, hretZ_1, hif_p, okk_setV, okk_setF, nV, nF, fV, vF, hcallV_b, hbind_p, x_hasTown hs rs, kk_1 hs, if_neg h0, if_neg n10, n1, if_neg r0, if_neg r1]
      by_cases z : d < 1
      · rw [if_pos z]
      · rw [if_neg z, if_neg (by omega)]
    · simp only [m_X10_run, m_X10_run_L42, hgI_k, hgR_k, hpI_k, hpR_k, hpZ_k, haI_k, haR_k, hsI_k, hsZ_k, hlen_k, hlet_p, hret_p, hretZ_0, hretZ_1, hif_p, okk_setV, okk_setF, nV, nF, fV, vF, hcallV_b, hcall_b, hbind_p, y_isTown hs, y_isRule, y_in, kk_220 hs, if_neg h0, if_neg n10, if_pos hr, if_neg hd, if_true]
  have d0 : ¬ d < 1 := by omega
  have wd : w32 (hV u 230 6 + d) = hV u 230 6 + d := w32_id ⟨by omega, by omega⟩
  by_cases h9 : hV u 230 6 + d ≤ 999
  case neg =>
    refine same (-1) ?_ ?_
    · simp only [m_X9_run, m_X9_run_L30, hgI_k, hgR_k, hpI_k, hpR_k, hpZ_k, haI_k, haR_k, hsI_k, hsZ_k, hlen_k, hlet_p, hret_p, hretZ_0, hretZ_1, hif_p, okk_setV, okk_setF, nV, nF, fV, vF, hcallV_b, hbind_p, x_hasTown hs rs, kk_1 hs, kk_30 hs, rf_1_3 hs, if_neg h0, if_neg n10, n1, if_neg r0, if_neg r1, if_neg d0, if_pos hd.2, rs.v6, wd, if_neg h9]
    · simp only [m_X10_run, m_X10_run_L42, hgI_k, hgR_k, hpI_k, hpR_k, hpZ_k, haI_k, haR_k, hsI_k, hsZ_k, hlen_k, hlet_p, hret_p, hretZ_0, hretZ_1, hif_p, okk_setV, okk_setF, nV, nF, fV, vF, hcallV_b, hcall_b, hbind_p, haI_6, y_isTown hs, y_isRule, y_in, kk_220 hs, kk_230 hs, rf_220_20 hs, ln_230 hs, lt_c 6 160 rfl, if_neg h0, if_neg n10, if_pos hr, if_pos hd, wd, if_neg h9]
  obtain ⟨r, rfl⟩ : ∃ n : Nat, r = n := ⟨r.toNat, by omega⟩
  obtain ⟨D, rfl⟩ : ∃ n : Nat, d = n := ⟨d.toNat, by omega⟩
  obtain ⟨P, hP⟩ : ∃ n : Nat, hV u 230 4 = n := ⟨(hV u 230 4).toNat, by omega⟩
  obtain ⟨C, M, a, b, e, c1, c2, c3, c4, c5, c6⟩ := rall r (by omega)
  have r6 : r < 6 := by omega
  have rc : rlC (hV u (54 + 7 * r + 1)) (hV u (54 + 7 * r + 2)) M C a b e := ⟨c4, c3, fun j hj => (c5 j hj).1, fun c hc => (c6 c hc).1⟩
  obtain ⟨u0, hu0⟩ : ∃ u0, u0 = hsetV (hsetV u 1 6 0) 1 7 0 := ⟨_, rfl⟩
  have e0 : ext u u0 := by
    rw [hu0]
    exact (ext.setV _ _ _ _).tr (ext.setV _ _ _ _)
  have hs0 : shp u0 := by
    rw [hu0]
    exact hs
  have g0 : ∀ x, x ≠ 1 → agr u u0 x := fun x hx => by
    rw [hu0]
    exact (agr.setV hx).tr (agr.setV hx)
  have rf0 : RepF u0 30 t (hV u 230) := rf.fr e0 (fun x _ _ => g0 x (by omega)) (fun x _ _ => g0 x (by omega))
  have rx : rxC u0 (54 + 7 * r) (hV u (54 + 7 * r + 1)) (hV u (54 + 7 * r + 2)) C a b e := by
    have g : ∀ x, x ≠ 1 → hV u0 x = hV u x := fun x hx => funext fun i => (g0 x hx i).1
    unfold rxC
    rw [g (54 + 7 * r + 1) (by omega), g (54 + 7 * r + 2) (by omega), g (54 + 7 * r) (by omega), g (54 + 7 * r + 3) (by omega), g (54 + 7 * r + 4) (by omega), g (54 + 7 * r + 5) (by omega)]
    exact ⟨rfl, rfl, c1, fun c hc => (c6 c hc).2.1⟩
  have eT : hV u0 (t + 17) = hV u (t + 17) := funext fun i => (g0 (t + 17) (by omega) i).1
  obtain ⟨v, X, rfv, F⟩ := x_rnS (P := P) (D := D) (T := hV u (t + 17)) (by omega) r6 rc D 1000000000 0 0 u0 (hV u 230) (by omega) (by omega) hP hs0 rf0 rx eT h9 (by omega) (by omega)
  have hsv := F.2.1
  have gv : ∀ x, x ≠ 1 → (x < 30 ∨ 34 < x) → x ≠ 7 → x ≠ 54 + 7 * r + 6 → agr u v x := fun x h1 h2 h3 h4 => (g0 x h1).tr (F.2.2 x h2 h3 h4)
  have q : ∀ x, 96 ≤ x → hV v x = hV u x := fun x hx => funext fun i => (gv x (by omega) (by omega) (by omega) (by omega) i).1
  obtain ⟨v1, hv1⟩ : ∃ v1, v1 = hsetV v 220 25 0 := ⟨_, rfl⟩
  have hs1 : shp v1 := by
    rw [hv1]
    exact hsv
  have p : ∀ x, 96 ≤ x → x ≠ 220 → hV v1 x = hV u x := fun x hx h2 => by
    rw [hv1]
    funext i
    rw [hV_setV_a h2, q x hx]
  have ry : ryC v1 r (hV u (54 + 7 * r + 1)) (hV u (54 + 7 * r + 2)) M C a b e := by
    unfold ryC
    rw [p 222 (by decide) (by decide), p 224 (by decide) (by decide), p 225 (by decide) (by decide)]
    exact ⟨fun j hj => (c5 j hj).2, c2, fun c hc => (c6 c hc).2.2⟩
  obtain ⟨v2, Y, s2, G⟩ := y_rnS (w := u) (t := t) (P := P) (D := D) (by omega) r6 rc D 1000000000 0 0 v1 (hV u 230) (by omega) (by omega) hP hs1 (p 230 (by decide) (by decide)) (fun c hc => by
    rw [p 231 (by decide) (by decide)]
    exact ex c hc) ws wv rf.2.2.1 ry h9 (by omega) (by omega)
  rw [Int.zero_add] at X Y
  have hs2 := G.2.1
  have e1 : ext v v1 := by
    rw [hv1]
    exact ext.setV _ _ _ _
  have ge : ∀ x, x ≠ 220 → x ≠ 228 → x ≠ 229 → x ≠ 230 → x ≠ 232 → agr v v2 x := fun x h1 h2 h3 h4 h5 => by
    have z : agr v v1 x := by
      rw [hv1]
      exact agr.setV h1
    exact z.tr (G.2.2.1 x h1 h2 h3 h4 h5)
  have rf2 : RepF v2 30 t (hV v2 230) := by
    rw [s2]
    exact rfv.fr (e1.tr G.1) (fun x _ _ => ge x (by omega) (by omega) (by omega) (by omega) (by omega)) (fun x _ _ => ge x (by omega) (by omega) (by omega) (by omega) (by omega))
  have v2i : ∀ i, hV v2 1 i = hV v 1 i := fun i => (ge 1 (by decide) (by decide) (by decide) (by decide) (by decide) i).1
  have v1i : ∀ i, hV v 1 i = hV u0 1 i := fun i => (F.2.2 1 (by omega) (by decide) (by omega) i).1
  have h16 : hV u0 1 6 = 0 := by
    rw [hu0, hV_setV_i (by decide), hV_setV_s]
  have h17 : hV u0 1 7 = 0 := by
    rw [hu0, hV_setV_s]
  have f25 : hV v2 220 25 = 0 := by
    rw [G.2.2.2 25 (by decide), hv1, hV_setV_s]
  refine ⟨rnG (hV u (54 + 7 * r + 1)) (hV u (54 + 7 * r + 2)) C a b e (hV u (t + 17)) P D (hV u 230), v, v2, ?_, ?_, hsv, ?_, hs2, ?_, ?_, ?_, ?_⟩
  · have fa : m_X9_forgetActs 1 u = some (0, u0) := by
      rw [hu0]
      simp only [m_X9_forgetActs, hgI_k, hgR_k, hpI_k, hpR_k, hpZ_k, haI_k, haR_k, hsI_k, hsZ_k, hlen_k, hlet_p, hret_p, hretZ_0, hretZ_1, hif_p, okk_setV, okk_setF, nV, nF, fV, vF, kk_1 hs]
    simp only [m_X9_run, hgI_k, hgR_k, hpI_k, hpR_k, hpZ_k, haI_k, haR_k, hsI_k, hsZ_k, hlen_k, hlet_p, hret_p, hretZ_0, hretZ_1, hif_p, okk_setV, okk_setF, nV, nF, fV, vF, hcallV_b, hbind_p, x_hasTown hs rs, kk_1 hs, kk_30 hs, rf_1_3 hs, if_neg h0, if_neg n10, n1, if_neg r0, if_neg r1, if_neg d0, if_pos hd.2, rs.v6, wd, if_pos h9, fa]
    exact X
  · have q220 : ∀ i, hV v 220 i = hV u 220 i := fun i => by rw [q 220 (by decide)]
    have q230 : hV v 230 = hV u 230 := q 230 (by decide)
    have yr : m_X10_isRule 220 r v = some (1, v) := by
      simp only [m_X10_isRule_L17, m_X10_isRule_L16, m_X10_isRule, hgI_k, hgR_k, hpI_k, hpR_k, hpZ_k, haI_k, haR_k, hsI_k, hsZ_k, hlen_k, hlet_p, hret_p, hretZ_0, hretZ_1, hif_p, okk_setV, okk_setF, nV, nF, fV, vF, kk_220 hsv, q220, n2]
      rw [if_neg r0, if_neg r1]
    simp only [m_X10_run, hgI_k, hgR_k, hpI_k, hpR_k, hpZ_k, haI_k, haR_k, hsI_k, hsZ_k, hlen_k, hlet_p, hret_p, hretZ_0, hretZ_1, hif_p, okk_setV, okk_setF, nV, nF, fV, vF, hcallV_b, hcall_b, hbind_p, haI_6, y_isTown hsv, yr, y_in, kk_220 hsv, rf_220_20 hsv, kk_230 hsv, ln_230 hsv, lt_c 6 160 rfl, q230, if_neg h0, if_neg n10, if_pos hd, wd, if_pos h9]
    rw [← hv1]
    exact Y
  · exact (e0.tr F.1).tr (e1.tr G.1)
  · refine ⟨t, 0, rf2, ⟨0, by decide, ?_, by decide, ?_, fun j hj => by omega⟩, f25⟩
    · rw [v2i, v1i, h16]
      rfl
    · rw [v2i, v1i, h17]
      rfl
  · intro i h6 h7
    rw [v2i, v1i, hu0, hV_setV_i h7, hV_setV_i h6]
  · intro i h18 h25
    rw [G.2.2.2 i h18, hv1, hV_setV_i h25, q 220 (by decide)]
  · intro x k1 k2 k3 k4 k5 k6 k7 k8 k9
    exact (gv x k1 k2 k3 (by omega)).tr (ge x k5 k6 k7 k8 k9)
