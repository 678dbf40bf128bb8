/-! days and lives: the reference -/
def LVS (u : hS) (R : Nat → Int) (x : Int) : hS := hput (hput u 230 R) 220 (sup (hV u 220) 39 x)
theorem LVS_230 (u : hS) (R : Nat → Int) (x : Int) : hV (LVS u R x) 230 = R := by
  unfold LVS
  rw [hV_put_n (by decide), hV_put_s]
theorem LVS_39 (u : hS) (R : Nat → Int) (x : Int) : hV (LVS u R x) 220 39 = x := by
  unfold LVS
  rw [hV_put_s, sup_s]
theorem LVS_n {u : hS} {R : Nat → Int} {x : Int} {a : Nat} (h : a ≠ 230) (h2 : a ≠ 220) : hV (LVS u R x) a = hV u a := by
  unfold LVS
  rw [hV_put_n h2, hV_put_n h]
theorem LVS_shp {u : hS} (R : Nat → Int) (x : Int) (hs : shp u) : shp (LVS u R x) := hs
theorem LVS_x (u : hS) (R : Nat → Int) (x y : Int) : hsetV (LVS u R x) 220 39 y = LVS u R y := by
  unfold LVS
  rw [setV_put, sup_sup]
theorem LVS_R (u : hS) (R R' : Nat → Int) (x : Int) : hput (LVS u R x) 230 R' = LVS u R' x := by
  unfold LVS
  rw [put_comm (show 220 ≠ 230 by decide), hput_put]
theorem LVS_set (u : hS) (R : Nat → Int) (x : Int) (i : Nat) (y : Int) : hsetV (LVS u R x) 230 i y = LVS u (sup R i y) x := by
  rw [setV_put1, LVS_230, LVS_R]
theorem lok.wsd {R : Nat → Int} (h : lok R) : WSd R ∧ WW R ∧ ∀ p : Nat, (p : Int) < R 4 → 0 ≤ R (12 + 3 * p) ∧ R (12 + 3 * p) ≤ 1000000 := by
  obtain ⟨ws, wv, h0, h1⟩ := h
  have w4 := ws.2.2.2.2.1
  have w5 := ws.2.2.2.2.2.1
  have w6 := ws.2.2.2.2.2.2.1
  rw [clp_n (by decide)] at w4 w5
  refine ⟨⟨w4, w5, h0, by omega⟩, fun w hw => ?_, fun p hp => ?_⟩
  · have z := (wv.2.2.2.2 w (by rw [clp_n (by decide)]; exact hw)).2.2.2
    rw [clp_n (by omega)] at z
    exact z
  · have z := (wv.2.2.1 p (by rw [clp_n (by decide)]; exact hp)).2.2
    rw [clp_n (show 12 + 3 * p ≠ 6 by omega)] at z
    omega
theorem y_wanL {u : hS} (hs : shp u) (ex : ∀ b, b < 9 → hV u 231 b = 0) {B : Int} (l1 l2 l3 g l6 : Int) (l7 : Int) (K1 : Nat → Int → Int → Int → Int → Int → Int → hM) (K2 : Nat → Int → Int → Int → Int → Int → Int → Int → hM) : ∀ (k n i : Nat) (R : Nat → Int) (x c : Int), lok R → 0 ≤ x ∧ x < 2147483648 → k < n → R 4 = ((i + k : Nat) : Int) → R 2 = B → R 6 < 1998 → 0 ≤ c → c + k ≤ 10000 → 0 ≤ g → g ≤ 10000000 → m_X10_lives_L109 K1 K2 n 220 l1 l2 l3 c g l6 l7 i (LVS u R x) = K2 220 l1 l2 l3 (c + wanC B k i R x) (g + qDayR (wanR B k i R x)) l6 (w32 (l7 + 1)) (LVS u (qDay (wanR B k i R x)) (wanX k x)) := by
  intro k
  induction k with
  | zero =>
    intro n i R x c h hx hn h4 hB h6 h0 h1 h2 h3
    obtain ⟨n, rfl⟩ : ∃ k, n = k + 1 := ⟨n - 1, by omega⟩
    have hs1 := LVS_shp R x hs
    obtain ⟨d1, d2, d3⟩ := h.wsd
    have pa := y_passesD hs1 (by rw [LVS_230]; exact d1) (by rw [LVS_230]; exact d2) (by rw [LVS_230]; exact d3) (by rw [LVS_230]; omega)
    rw [LVS_230, LVS_R] at pa
    have gi := qDayR_in h
    have e : w32 (g + qDayR R) = g + qDayR R := w32_id ⟨by omega, by omega⟩
    show _ = K2 220 l1 l2 l3 (c + 0) (g + qDayR R) l6 (w32 (l7 + 1)) (LVS u (qDay R) x)
    simp only [m_X10_lives_L109, hgI_k, hgR_k, hpI_k, hpR_k, hpZ_k, haI_k, haR_k, hsI_k, hsZ_k, hlen_k, hlet_p, hret_p, hretZ_0, hretZ_1, hif_p, okk_setV, okk_setF, nV, nF, fV, vF, hcallV_b, hbind_p, haI_4, kk_220 hs1, rf_220_20 hs1, kk_230 hs1, ln_230 hs1, lt_c 4 160 rfl, LVS_230, pa, e]
    rw [if_pos (by omega), Int.add_zero]
  | succ k ih =>
    intro n i R x c h hx hn h4 hB h6 h0 h1 h2 h3
    obtain ⟨n, rfl⟩ : ∃ k, n = k + 1 := ⟨n - 1, by omega⟩
    have hs1 := LVS_shp R x hs
    have w2 := h.1.2.2.1
    have w4 := h.1.2.2.2.2.1
    rw [clp_n (by decide)] at w2 w4
    have hi : (i : Int) < R 4 := by omega
    have i4 : i < 4 := by omega
    have di := drw_in (x := x) (m := B + 1) (by omega)
    have wB : w32 (B + 1) = B + 1 := w32_id ⟨by omega, by omega⟩
    have yd := y_draw hs1 (by rw [LVS_39]; exact hx) (m := B + 1) (by omega) (by omega)
    rw [LVS_39, LVS_x] at yd
    have hs2 := LVS_shp (u := u) R (nxX x) hs
    have so := stR_ok (x := x) h hB hi
    obtain ⟨b, hb⟩ : ∃ b : Nat, drw x (B + 1) = b := ⟨(drw x (B + 1)).toNat, by omega⟩
    show _ = K2 220 l1 l2 l3 (c + ((if goB B R i x then (1 : Int) else 0) + wanC B k (i + 1) (stR B R i x) (nxX x))) (g + qDayR (wanR B k (i + 1) (stR B R i x) (nxX x))) l6 (w32 (l7 + 1)) (LVS u (qDay (wanR B k (i + 1) (stR B R i x) (nxX x))) (wanX k (nxX x)))
    have q := fun c' hc1 hc2 => ih n (i + 1) (stR B R i x) (nxX x) c' so.1 (nxX_in x) (by omega) (by rw [so.2 4 (by omega)]; omega) (by rw [so.2 2 (by omega)]; exact hB) (by rw [so.2 6 (by omega)]; exact h6) hc1 hc2 h2 h3
    by_cases hbB : (b : Int) = B
    · have g0 : ¬ goB B R i x := fun z => by
        have := z.1
        omega
      have st : stR B R i x = R := by
        unfold stR
        rw [if_neg g0]
      rw [if_neg g0, Int.zero_add, ← q c h0 (by omega), st]
      simp only [m_X10_lives_L109, m_X10_lives_L170, hgI_k, hgR_k, hpI_k, hpR_k, hpZ_k, haI_k, haR_k, hsI_k, hsZ_k, hlen_k, hlet_p, hret_p, hretZ_0, hretZ_1, hif_p, okk_setV, okk_setF, nV, nF, fV, vF, hcallV_b, hbind_p, haI_4, haI_2, kk_220 hs1, rf_220_20 hs1, kk_230 hs1, ln_230 hs1, lt_c 4 160 rfl, lt_c 2 160 rfl, LVS_230, hB, wB, yd, hb, kk_220 hs2, rf_220_20 hs2, kk_230 hs2, ln_230 hs2, ix_s (show i < 1000000 by omega)]
      rw [if_neg (by omega), if_pos hbB]
    · have b9 : b < 9 := by omega
      have cc := y_canCross hs2 (fun c hc => by rw [LVS_n (by decide) (by decide)]; exact ex c hc) i4 b9
      rw [LVS_230] at cc
      by_cases hc : qCan R i b
      · have g1 : goB B R i x := by
          unfold goB
          rw [hb, Int.toNat_natCast]
          exact ⟨by omega, hc⟩
        have st : stR B R i x = qCross R i b := by
          unfold stR
          rw [if_pos g1, hb, Int.toNat_natCast]
        have cr := y_crosses hs2 i4 b9
        rw [LVS_230, LVS_R, ← st] at cr
        have w1 : w32 (c + 1) = c + 1 := w32_id ⟨by omega, by omega⟩
        rw [if_pos g1, ← Int.add_assoc, ← q (c + 1) (by omega) (by omega)]
        simp only [m_X10_lives_L109, m_X10_lives_L170, hgI_k, hgR_k, hpI_k, hpR_k, hpZ_k, haI_k, haR_k, hsI_k, hsZ_k, hlen_k, hlet_p, hret_p, hretZ_0, hretZ_1, hif_p, okk_setV, okk_setF, nV, nF, fV, vF, hcallV_b, hbind_p, haI_4, haI_2, kk_220 hs1, rf_220_20 hs1, kk_230 hs1, ln_230 hs1, lt_c 4 160 rfl, lt_c 2 160 rfl, LVS_230, hB, wB, yd, hb, kk_220 hs2, rf_220_20 hs2, kk_230 hs2, ln_230 hs2, cc.1 hc, cr, w1, ix_s (show i < 1000000 by omega)]
        rw [if_neg (by omega), if_neg hbB, if_pos (by decide)]
      · have g0 : ¬ goB B R i x := fun z => by
          unfold goB at z
          rw [hb, Int.toNat_natCast] at z
          exact hc z.2
        have st : stR B R i x = R := by
          unfold stR
          rw [if_neg g0]
        rw [if_neg g0, Int.zero_add, ← q c h0 (by omega), st]
        simp only [m_X10_lives_L109, m_X10_lives_L170, hgI_k, hgR_k, hpI_k, hpR_k, hpZ_k, haI_k, haR_k, hsI_k, hsZ_k, hlen_k, hlet_p, hret_p, hretZ_0, hretZ_1, hif_p, okk_setV, okk_setF, nV, nF, fV, vF, hcallV_b, hbind_p, haI_4, haI_2, kk_220 hs1, rf_220_20 hs1, kk_230 hs1, ln_230 hs1, lt_c 4 160 rfl, lt_c 2 160 rfl, LVS_230, hB, wB, yd, hb, kk_220 hs2, rf_220_20 hs2, kk_230 hs2, ln_230 hs2, cc.2 hc, ix_s (show i < 1000000 by omega)]
        rw [if_neg (by omega), if_neg hbB, if_neg (by decide)]
theorem y_dyL {u : hS} (hs : shp u) (ex : ∀ b, b < 9 → hV u 231 b = 0) {B : Int} {P D : Nat} (hD : D ≤ 60) (l1 l3 l6 : Int) (K1 : Nat → Int → Int → Int → Int → Int → Int → hM) : ∀ (k n j : Nat) (R : Nat → Int) (x c g : Int), lok R → 0 ≤ x ∧ x < 2147483648 → k < n → j + k = D → R 2 = B → R 4 = (P : Int) → R 6 < 1100 + j → 0 ≤ c → c + 4 * k ≤ 9000 → 0 ≤ g → g + 4000 * k ≤ 9000000 → m_X10_lives_L100 K1 n 220 l1 D l3 c g l6 j (LVS u R x) = m_X10_lives_L194 K1 1000000000 220 l1 D l3 (c + dyC B P k R x) (g + dyG B P k R x) l6 0 (LVS u (dyR B P k R x) (dyX P k x)) := by
  intro k
  induction k with
  | zero =>
    intro n j R x c g h hx hn hj hB hP h6 h0 h1 h2 h3
    obtain ⟨n, rfl⟩ : ∃ k, n = k + 1 := ⟨n - 1, by omega⟩
    show _ = m_X10_lives_L194 K1 1000000000 220 l1 D l3 (c + 0) (g + 0) l6 0 (LVS u R x)
    simp only [m_X10_lives_L100, hgI_k, hgR_k, hpI_k, hpR_k, hpZ_k, haI_k, haR_k, hsI_k, hsZ_k, hlen_k, hlet_p, hret_p, hretZ_0, hretZ_1, hif_p, okk_setV, okk_setF, nV, nF, fV, vF]
    rw [if_pos (by omega), Int.add_zero, Int.add_zero]
  | succ k ih =>
    intro n j R x c g h hx hn hj hB hP h6 h0 h1 h2 h3
    obtain ⟨n, rfl⟩ : ∃ k, n = k + 1 := ⟨n - 1, by omega⟩
    have w4 := h.1.2.2.2.2.1
    rw [clp_n (by decide)] at w4
    have dk := day_ok (x := x) h hB hP (by omega)
    have ci := wanC_in B P 0 R x
    have gi := qDayR_in dk.1
    have a := y_wanL hs ex (B := B) l1 D l3 g l6 j K1 (m_X10_lives_L100 K1 n) P 1000000000 0 R x c h hx (by omega) (by omega) hB (by omega) h0 (by omega) h2 (by omega)
    have a' : m_X10_lives_L109 K1 (m_X10_lives_L100 K1 n) 1000000000 220 l1 D l3 c g l6 j 0 (LVS u R x) = _ := a
    have q := ih n (j + 1) _ (wanX P x) (c + wanC B P 0 R x) (g + qDayR (wanR B P 0 R x)) dk.2.2.1 (wanX_in P x hx) (by omega) (by omega) dk.2.2.2.1 dk.2.2.2.2.1 (by rw [dk.2.2.2.2.2.1]; omega) (by omega) (by omega) (by omega) (by omega)
    show _ = m_X10_lives_L194 K1 1000000000 220 l1 D l3 (c + (wanC B P 0 R x + dyC B P k (qDay (wanR B P 0 R x)) (wanX P x))) (g + (qDayR (wanR B P 0 R x) + dyG B P k (qDay (wanR B P 0 R x)) (wanX P x))) l6 0 (LVS u (dyR B P k (qDay (wanR B P 0 R x)) (wanX P x)) (dyX P k (wanX P x)))
    rw [← Int.add_assoc, ← Int.add_assoc, ← q]
    rw [ix_s (show j < 1000000 by omega)] at a'
    rw [← a']
    simp only [m_X10_lives_L100, hgI_k, hgR_k, hpI_k, hpR_k, hpZ_k, haI_k, haR_k, hsI_k, hsZ_k, hlen_k, hlet_p, hret_p, hretZ_0, hretZ_1, hif_p, okk_setV, okk_setF, nV, nF, fV, vF]
    rw [if_neg (by omega)]
theorem dyR_hi {B : Int} {P : Nat} : ∀ (k : Nat) (R : Nat → Int) (x : Int), lok R → R 2 = B → R 4 = (P : Int) → R 6 + k < 1998 → ∀ j, 94 ≤ j → dyR B P k R x j = R j := by
  intro k
  induction k with
  | zero =>
    intro R x _ _ _ _ j _
    rfl
  | succ k ih =>
    intro R x h hB hP h6 j hj
    have dk := day_ok (x := x) h hB hP (by omega)
    have z := ih _ (wanX P x) dk.2.2.1 dk.2.2.2.1 dk.2.2.2.2.1 (by rw [dk.2.2.2.2.2.1]; omega) j hj
    exact z.trans (dk.2.2.2.2.2.2 j hj)
theorem y_bkL {u : hS} (hs : shp u) {S : Nat → Int} (hK : ∀ j, j < 94 → hV u 239 j = S j) (l1 l2 l3 c g l6 x : Int) (K1 : Nat → Int → Int → Int → Int → Int → Int → hM) : ∀ (k n i : Nat) (R : Nat → Int), k < n → i + k = 94 → (∀ j, j < i ∨ 94 ≤ j → R j = S j) → m_X10_lives_L194 K1 n 220 l1 l2 l3 c g l6 i (LVS u R x) = K1 220 l1 l2 l3 c g (w32 (l6 + 1)) (LVS u S x) := by
  intro k
  induction k with
  | zero =>
    intro n i R hn hi hR
    obtain ⟨n, rfl⟩ : ∃ k, n = k + 1 := ⟨n - 1, by omega⟩
    have e : R = S := by
      funext j
      exact hR j (by omega)
    rw [e]
    simp only [m_X10_lives_L194, hgI_k, hgR_k, hpI_k, hpR_k, hpZ_k, haI_k, haR_k, hsI_k, hsZ_k, hlen_k, hlet_p, hret_p, hretZ_0, hretZ_1, hif_p, okk_setV, okk_setF, nV, nF, fV, vF]
    rw [if_pos (by omega)]
  | succ k ih =>
    intro n i R hn hi hR
    obtain ⟨n, rfl⟩ : ∃ k, n = k + 1 := ⟨n - 1, by omega⟩
    have hs1 := LVS_shp R x hs
    have i94 : i < 94 := by omega
    have i160 : i < 160 := by omega
    have e := ih n (i + 1) (sup R i (S i)) (by omega) (by omega) (fun j hj => by
      by_cases q : j = i
      · rw [q, sup_s]
      · rw [sup_n q]
        exact hR j (by omega))
    rw [← e]
    simp only [m_X10_lives_L194, hgI_k, hgR_k, hpI_k, hpR_k, hpZ_k, haI_k, haR_k, hsI_k, hsZ_k, hlen_k, hlet_p, hret_p, hretZ_0, hretZ_1, hif_p, okk_setV, okk_setF, nV, nF, fV, vF, haI_n, hsI_n, kk_220 hs1, rf_220_20 hs1, rf_220_38 hs1, kk_230 hs1, ln_230 hs1, kk_239 hs1, ln_239 hs1, i94, i160, LVS_n (show 239 ≠ 230 by decide) (show 239 ≠ 220 by decide), hK i i94, LVS_set, ix_s (show i < 1000000 by omega)]
    rw [if_neg (by omega)]
theorem y_lvL {u : hS} (hs : shp u) (ex : ∀ b, b < 9 → hV u 231 b = 0) {B : Int} {P D M : Nat} {S : Nat → Int} (hD : D ≤ 60) (hM : M ≤ 10) (h : lok S) (ws : WS S) (hB : S 2 = B) (hP : S 4 = (P : Int)) (hK : ∀ j, j < 94 → hV u 239 j = S j) (l3 : Int) : ∀ (k n j : Nat) (x c g : Int), 0 ≤ x ∧ x < 2147483648 → k < n → j + k = M → 0 ≤ c → c ≤ 240 * j → 0 ≤ g → g ≤ 240000 * j → m_X10_lives_L91 n 220 M D l3 c g j (LVS u S x) = some (if l3 ≠ 0 then g + lvG B P D S k x else c + lvC B P D S k x, LVS u S (lvX P D k x)) := by
  intro k
  induction k with
  | zero =>
    intro n j x c g hx hn hj h0 h1 h2 h3
    obtain ⟨n, rfl⟩ : ∃ k, n = k + 1 := ⟨n - 1, by omega⟩
    show _ = some (if l3 ≠ 0 then g + 0 else c + 0, LVS u S x)
    simp only [m_X10_lives_L91, m_X10_lives_L238, hgI_k, hgR_k, hpI_k, hpR_k, hpZ_k, haI_k, haR_k, hsI_k, hsZ_k, hlen_k, hlet_p, hret_p, hretZ_0, hretZ_1, hif_p, okk_setV, okk_setF, nV, nF, fV, vF]
    rw [if_pos (by omega), Int.add_zero, Int.add_zero]
    by_cases e : l3 = 0
    · rw [if_neg (fun z => z e), if_neg (fun z => z e)]
    · rw [if_pos e, if_pos e]
  | succ k ih =>
    intro n j x c g hx hn hj h0 h1 h2 h3
    obtain ⟨n, rfl⟩ : ∃ k, n = k + 1 := ⟨n - 1, by omega⟩
    have w4 := ws.2.2.2.2.1
    have w6 := ws.2.2.2.2.2.2.1
    have ci := dyC_in B P (by omega) D S x
    have gi := dyG_in (B := B) (P := P) D S x h hB hP (by omega)
    have a := y_dyL hs ex (B := B) (P := P) hD M l3 j (m_X10_lives_L91 n) D 1000000000 0 S x c g h hx (by omega) (by omega) hB hP (by omega) (by omega) (by omega) (by omega) (by omega)
    have b := y_bkL hs hK M D l3 (c + dyC B P D S x) (g + dyG B P D S x) j (dyX P D x) (m_X10_lives_L91 n) 94 1000000000 0 (dyR B P D S x) (by omega) (by omega) (fun i hi => dyR_hi D S x h hB hP (by omega) i (by omega))
    have q := ih n (j + 1) (dyX P D x) (c + dyC B P D S x) (g + dyG B P D S x) (dyX_in P D x hx) (by omega) (by omega) (by omega) (by omega) (by omega) (by omega)
    show _ = some (if l3 ≠ 0 then g + (dyG B P D S x + lvG B P D S k (dyX P D x)) else c + (dyC B P D S x + lvC B P D S k (dyX P D x)), LVS u S (lvX P D k (dyX P D x)))
    rw [← Int.add_assoc, ← Int.add_assoc, ← q]
    have a' : m_X10_lives_L100 (m_X10_lives_L91 n) 1000000000 220 M D l3 c g j 0 (LVS u S x) = _ := a
    have b' : m_X10_lives_L194 (m_X10_lives_L91 n) 1000000000 220 M D l3 (c + dyC B P D S x) (g + dyG B P D S x) j 0 (LVS u (dyR B P D S x) (dyX P D x)) = _ := b
    rw [ix_s (show j < 1000000 by omega)] at b'
    rw [← b', ← a']
    simp only [m_X10_lives_L91, hgI_k, hgR_k, hpI_k, hpR_k, hpZ_k, haI_k, haR_k, hsI_k, hsZ_k, hlen_k, hlet_p, hret_p, hretZ_0, hretZ_1, hif_p, okk_setV, okk_setF, nV, nF, fV, vF]
    rw [if_neg (by omega)]
theorem y_lvK {u : hS} (hs : shp u) (l1 l2 l3 c g : Int) : ∀ (k n i : Nat) (K : Nat → Int), k < n → i + k = 94 → (∀ j, j < i → K j = hV u 230 j) → ∃ K', m_X10_lives_L61 n 220 l1 l2 l3 c g i (hput u 239 K) = m_X10_lives_L91 1000000000 220 l1 l2 l3 c g 0 (hput u 239 K') ∧ ∀ j, j < 94 → K' j = hV u 230 j := by
  intro k
  induction k with
  | zero =>
    intro n i K hn hi hK
    obtain ⟨n, rfl⟩ : ∃ k, n = k + 1 := ⟨n - 1, by omega⟩
    refine ⟨K, ?_, fun j hj => hK j (by omega)⟩
    simp only [m_X10_lives_L61, hgI_k, hgR_k, hpI_k, hpR_k, hpZ_k, haI_k, haR_k, hsI_k, hsZ_k, hlen_k, hlet_p, hret_p, hretZ_0, hretZ_1, hif_p, okk_setV, okk_setF, nV, nF, fV, vF]
    rw [if_pos (by omega)]
  | succ k ih =>
    intro n i K hn hi hK
    obtain ⟨n, rfl⟩ : ∃ k, n = k + 1 := ⟨n - 1, by omega⟩
    have i94 : i < 94 := by omega
    have i160 : i < 160 := by omega
    obtain ⟨K', e1, e2⟩ := ih n (i + 1) (sup K i (hV u 230 i)) (by omega) (by omega) (fun j hj => by
      by_cases q : j = i
      · rw [q, sup_s]
      · rw [sup_n q]
        exact hK j (by omega))
    refine ⟨K', ?_, e2⟩
    rw [← e1]
    simp only [m_X10_lives_L61, hgI_k, hgR_k, hpI_k, hpR_k, hpZ_k, haI_k, haR_k, hsI_k, hsZ_k, hlen_k, hlet_p, hret_p, hretZ_0, hretZ_1, hif_p, okk_setV, okk_setF, nV, nF, fV, vF, okk_put, nP, fP, haI_n, hsI_n, kk_220 hs, kk_230 hs, kk_239 hs, rf_220_20 hs, rf_220_38 hs, ln_230 hs, ln_239 hs, i94, i160, hV_put_n (show 230 ≠ 239 by decide), setV_put, ix_s (show i < 1000000 by omega)]
    rw [if_neg (by omega)]
theorem a_lives {u : hS} (hs : shp u) (ai : actInv u) (rx : RepX u) (m d w : Int) : ∃ r u1 u2, m_X9_lives 1 m d w u = some (r, u1) ∧ m_X10_lives 220 m d w u1 = some (r, u2) ∧ shp u1 ∧ ext u u2 ∧ shp u2 ∧ (∀ a, (a < 35 ∨ 39 < a) → a ≠ 220 → a ≠ 239 → agr u u2 a) ∧ (∀ j, j ≠ 39 → hV u2 220 j = hV u 220 j) := by
  obtain ⟨t, c, r, ru, h25⟩ := id ai
  have ws := r.2.2.2.1
  have wv := r.2.2.2.2
  have w2 := ws.2.2.1
  have w4 := ws.2.2.2.2.1
  have w6 := ws.2.2.2.2.2.2.1
  have tz := r.2.1
  have n10 : ¬ (1 : Int) = 0 := by decide
  have n11 : (1 : Int) ≠ 0 := by decide
  have same : ∀ v : Int, m_X9_lives 1 m d w u = some (v, u) → m_X10_lives 220 m d w u = some (v, u) → ∃ r u1 u2, m_X9_lives 1 m d w u = some (r, u1) ∧ m_X10_lives 220 m d w u1 = some (r, u2) ∧ shp u1 ∧ ext u u2 ∧ shp u2 ∧ (∀ a, (a < 35 ∨ 39 < a) → a ≠ 220 → a ≠ 239 → agr u u2 a) ∧ (∀ j, j ≠ 39 → hV u2 220 j = hV u 220 j) := fun v h1 h2 => ⟨v, u, u, h1, h2, hs, ext.rf u, hs, fun _ _ _ _ _ => ⟨rfl, rfl⟩, fun _ _ => rfl⟩
  by_cases h0 : hV u 230 0 ≤ 0
  · refine same (-1) ?_ ?_
    · simp only [m_X9_lives, m_X9_lives_L38, hgI_k, hgR_k, hpI_k, hpR_k, hpZ_k, haI_k, haR_k, hsI_k, hsZ_k, hlen_k, hlet_p, hret_p, hretZ_0, hretZ_1, hif_p, okk_setV, okk_setF, nV, nF, fV, vF, hcallV_b, hbind_p, x_hasTown hs r.1, kk_1 hs, if_pos h0, if_true]
    · simp only [m_X10_lives, m_X10_lives_L41, hgI_k, hgR_k, hpI_k, hpR_k, hpZ_k, haI_k, haR_k, hsI_k, hsZ_k, hlen_k, hlet_p, hret_p, hretZ_0, hretZ_1, hif_p, okk_setV, okk_setF, nV, nF, fV, vF, hcallV_b, hbind_p, y_isTown hs, kk_220 hs, if_pos h0, if_true]
  by_cases hm : 1 ≤ m ∧ m ≤ 10
  case neg =>
    refine same (-1) ?_ ?_
    · simp only [m_X9_lives, m_X9_lives_L38, hgI_k, hgR_k, hpI_k, hpR_k, hpZ_k, haI_k, haR_k, hsI_k, hsZ_k, hlen_k, hlet_p, hret_p, hretZ_0, hretZ_1, hif_p, okk_setV, okk_setF, nV, nF, fV, vF, hcallV_b, hbind_p, x_hasTown hs r.1, kk_1 hs, if_neg h0, if_neg n10]
      by_cases z : m < 1
      · rw [if_pos z]
      · rw [if_neg z, if_pos (by omega)]
    · simp only [m_X10_lives, m_X10_lives_L41, hgI_k, hgR_k, hpI_k, hpR_k, hpZ_k, haI_k, haR_k, hsI_k, hsZ_k, hlen_k, hlet_p, hret_p, hretZ_0, hretZ_1, hif_p, okk_setV, okk_setF, nV, nF, fV, vF, hcallV_b, hcall_b, hbind_p, y_isTown hs, y_in, kk_220 hs, if_neg h0, if_neg n10, if_neg hm, if_true]
  have m1 : ¬ m < 1 := by omega
  have m2 : ¬ m > 10 := by omega
  by_cases hd : 1 ≤ d ∧ d ≤ 60
  case neg =>
    refine same (-1) ?_ ?_
    · simp only [m_X9_lives, m_X9_lives_L38, hgI_k, hgR_k, hpI_k, hpR_k, hpZ_k, haI_k, haR_k, hsI_k, hsZ_k, hlen_k, hlet_p, hret_p, hretZ_0, hretZ_1, hif_p, okk_setV, okk_setF, nV, nF, fV, vF, hcallV_b, hbind_p, x_hasTown hs r.1, kk_1 hs, if_neg h0, if_neg n10, if_neg m1, if_neg m2]
      by_cases z : d < 1
      · rw [if_pos z]
      · rw [if_neg z, if_pos (by omega)]
    · simp only [m_X10_lives, m_X10_lives_L41, hgI_k, hgR_k, hpI_k, hpR_k, hpZ_k, haI_k, haR_k, hsI_k, hsZ_k, hlen_k, hlet_p, hret_p, hretZ_0, hretZ_1, hif_p, okk_setV, okk_setF, nV, nF, fV, vF, hcallV_b, hcall_b, hbind_p, y_isTown hs, y_in, kk_220 hs, if_neg h0, if_neg n10, if_pos hm, if_neg hd, if_true]
  have d1 : ¬ d < 1 := by omega
  have d2 : ¬ d > 60 := by omega
  by_cases hw : 0 ≤ w ∧ w ≤ 1
  case neg =>
    refine same (-1) ?_ ?_
    · simp only [m_X9_lives, m_X9_lives_L38, hgI_k, hgR_k, hpI_k, hpR_k, hpZ_k, haI_k, haR_k, hsI_k, hsZ_k, hlen_k, hlet_p, hret_p, hretZ_0, hretZ_1, hif_p, okk_setV, okk_setF, nV, nF, fV, vF, hcallV_b, hbind_p, x_hasTown hs r.1, kk_1 hs, if_neg h0, if_neg n10, if_neg m1, if_neg m2, if_neg d1, if_neg d2]
      by_cases z : w < 0
      · rw [if_pos z]
      · rw [if_neg z, if_neg (by omega)]
    · simp only [m_X10_lives, m_X10_lives_L41, hgI_k, hgR_k, hpI_k, hpR_k, hpZ_k, haI_k, haR_k, hsI_k, hsZ_k, hlen_k, hlet_p, hret_p, hretZ_0, hretZ_1, hif_p, okk_setV, okk_setF, nV, nF, fV, vF, hcallV_b, hcall_b, hbind_p, y_isTown hs, y_in, kk_220 hs, if_neg h0, if_neg n10, if_pos hm, if_pos hd, if_neg hw, ne_eq, not_true_eq_false, if_false]
  have w0 : ¬ w < 0 := by omega
  obtain ⟨M, rfl⟩ : ∃ n : Nat, m = n := ⟨m.toNat, by omega⟩
  obtain ⟨D, rfl⟩ : ∃ n : Nat, d = n := ⟨d.toNat, by omega⟩
  obtain ⟨P, hP⟩ : ∃ n : Nat, hV u 230 4 = n := ⟨(hV u 230 4).toNat, by omega⟩
  have cS := clp_id (R := hV u 230) (by omega)
  have lk : lok (hV u 230) := ⟨by rw [cS]; exact ws, by rw [cS]; exact wv, by omega, by omega⟩
  obtain ⟨x1, x2, ex⟩ := rx
  have xr : 0 ≤ hV u 1 9 ∧ hV u 1 9 < 2147483648 := by rw [x1]; exact x2
  obtain ⟨v, X, F⟩ := x_lvL tz (B := hV u 230 2) (P := P) (D := D) (M := M) (S := hV u 230) (by omega) (by omega) lk ws rfl hP w (hV u 1 9) M 1000000000 0 u 0 0 r.1 hs xr (by omega) (by omega) (by omega) (by omega) (by omega) (by omega)
  have g1 : ∀ a, (a < 35 ∨ 39 < a) → agr u (hsetV v 1 9 (hV u 1 9)) a := fun a h => by
    by_cases e : a = 1
    · subst e
      intro i
      constructor
      · by_cases i9 : i = 9
        · subst i9
          exact hV_setV_s _ _ _ _
        · rw [hV_setV_i i9]
          exact F.2.2.2.1 i i9
      · exact F.2.2.2.2 i
    · exact (F.2.2.1 a e h).tr (agr.setV e)
  have hs1 : shp (hsetV v 1 9 (hV u 1 9)) := F.2.1
  have e1 : ext u (hsetV v 1 9 (hV u 1 9)) := F.1.tr (ext.setV _ _ _ _)
  have q230 : hV (hsetV v 1 9 (hV u 1 9)) 230 = hV u 230 := funext fun i => (g1 230 (by omega) i).1
  have q231 : hV (hsetV v 1 9 (hV u 1 9)) 231 = hV u 231 := funext fun i => (g1 231 (by omega) i).1
  have q220 : hV (hsetV v 1 9 (hV u 1 9)) 220 = hV u 220 := funext fun i => (g1 220 (by omega) i).1
  have q239 : hV (hsetV v 1 9 (hV u 1 9)) 239 = hV u 239 := funext fun i => (g1 239 (by omega) i).1
  have hs2 : shp (hsetV (hsetV v 1 9 (hV u 1 9)) 220 39 (hV u 220 21)) := hs1
  have p230 : hV (hsetV (hsetV v 1 9 (hV u 1 9)) 220 39 (hV u 220 21)) 230 = hV u 230 := by
    funext i
    rw [hV_setV_a (by decide), q230]
  obtain ⟨K, k1, k2⟩ := y_lvK hs2 M D w 0 0 94 1000000000 0 (hV u 239) (by omega) (by omega) (fun j hj => by omega)
  have q239' : hV (hsetV (hsetV v 1 9 (hV u 1 9)) 220 39 (hV u 220 21)) 239 = hV u 239 := by
    funext i
    rw [hV_setV_a (by decide), q239]
  rw [← q239', hput_self] at k1
  rw [p230] at k2
  have hs3 : shp (hput (hsetV v 1 9 (hV u 1 9)) 239 K) := hs1
  have sL : hput (hsetV (hsetV v 1 9 (hV u 1 9)) 220 39 (hV u 220 21)) 239 K = LVS (hput (hsetV v 1 9 (hV u 1 9)) 239 K) (hV u 230) (hV u 220 21) := by
    unfold LVS
    have a1 : hV (hput (hsetV v 1 9 (hV u 1 9)) 239 K) 230 = hV u 230 := by rw [hV_put_n (by decide), q230]
    have a2 : hV (hput (hsetV v 1 9 (hV u 1 9)) 239 K) 220 = hV u 220 := by rw [hV_put_n (by decide), q220]
    rw [← a1, hput_self, a2, setV_put1 (hsetV v 1 9 (hV u 1 9)), q220, put_comm (by decide)]
  have Y := y_lvL hs3 (fun b hb => by rw [hV_put_n (by decide), q231]; exact ex b hb) (B := hV u 230 2) (P := P) (D := D) (M := M) (S := hV u 230) (by omega) (by omega) lk ws rfl hP (fun j hj => by rw [hV_put_s]; exact k2 j hj) w M 1000000000 0 (hV u 220 21) 0 0 x2 (by omega) (by omega) (by omega) (by omega) (by omega) (by omega)
  rw [x1, Int.zero_add, Int.zero_add] at X
  rw [Int.zero_add, Int.zero_add] at Y
  refine ⟨if w ≠ 0 then lvG (hV u 230 2) P D (hV u 230) M (hV u 220 21) else lvC (hV u 230 2) P D (hV u 230) M (hV u 220 21), hsetV v 1 9 (hV u 1 9), LVS (hput (hsetV v 1 9 (hV u 1 9)) 239 K) (hV u 230) (lvX P D M (hV u 220 21)), ?_, ?_, hs1, ?_, LVS_shp _ _ hs3, ?_, ?_⟩
  · simp only [m_X9_lives, hgI_k, hgR_k, hpI_k, hpR_k, hpZ_k, haI_k, haR_k, hsI_k, hsZ_k, hlen_k, hlet_p, hret_p, hretZ_0, hretZ_1, hif_p, okk_setV, okk_setF, nV, nF, fV, vF, hcallV_b, hbind_p, x_hasTown hs r.1, kk_1 hs, if_neg h0, if_neg n10, if_neg m1, if_neg m2, if_neg d1, if_neg d2, if_neg w0, if_pos hw.2, x1]
    exact X
  · have q21 : hV (hsetV v 1 9 (hV u 1 9)) 220 21 = hV u 220 21 := by rw [q220]
    simp only [m_X10_lives, hgI_k, hgR_k, hpI_k, hpR_k, hpZ_k, haI_k, haR_k, hsI_k, hsZ_k, hlen_k, hlet_p, hret_p, hretZ_0, hretZ_1, hif_p, okk_setV, okk_setF, nV, nF, fV, vF, hcallV_b, hcall_b, hbind_p, y_isTown hs1, y_in, kk_220 hs1, q230, q21, if_neg h0, if_neg n10, if_pos hm, if_pos hd, if_pos hw, if_pos n11]
    rw [← Y, ← sL]
    exact k1
  · exact e1.tr ((ext.put _ _ _).tr ((ext.put _ _ _).tr (ext.put _ _ _)))
  · intro a ha h1 h2
    refine (g1 a ha).tr ?_
    intro i
    refine ⟨?_, rfl⟩
    by_cases e : a = 230
    · subst e
      rw [LVS_230, q230]
    · rw [LVS_n e h1, hV_put_n h2]
  · intro j hj
    show hV (LVS (hput (hsetV v 1 9 (hV u 1 9)) 239 K) (hV u 230) (lvX P D M (hV u 220 21))) 220 j = _
    unfold LVS
    rw [hV_put_s, sup_n hj, hV_put_n (by decide), q220]
