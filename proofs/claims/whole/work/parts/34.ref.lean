/-! readers of the reference -/
theorem y_personOf0 {u : hS} (hs : shp u) {p : Nat} (hp : p < 4) : m_X10_personOf 220 p 0 u = some (hV u 230 (10 + 3 * p), u) := by
  have i1 : 10 + 3 * p < 160 := by omega
  have i2 : 10 + 3 * p < 1000000 := by omega
  simp only [m_X10_personOf, hgI_k, hgR_k, hpI_k, hpR_k, hpZ_k, haI_k, haR_k, hsI_k, hsZ_k, hlen_k, hlet_e, hret_e, hretZ_0, hretZ_1, hif_e, okk_setV, okk_setF, nV, nF, fV, vF, ix_10 hp, ix_0 i2, haI_n, kk_220 hs, kk_230 hs, rf_220_20 hs, ln_230 hs, i1]
theorem y_personOf1 {u : hS} (hs : shp u) {p : Nat} (hp : p < 4) : m_X10_personOf 220 p 1 u = some (hV u 230 (11 + 3 * p), u) := by
  have i1 : 10 + 3 * p + 1 < 160 := by omega
  have i2 : 10 + 3 * p < 1000000 := by omega
  simp only [m_X10_personOf, hgI_k, hgR_k, hpI_k, hpR_k, hpZ_k, haI_k, haR_k, hsI_k, hsZ_k, hlen_k, hlet_e, hret_e, hretZ_0, hretZ_1, hif_e, okk_setV, okk_setF, nV, nF, fV, vF, ix_10 hp, ix_s i2, haI_n, kk_220 hs, kk_230 hs, rf_220_20 hs, ln_230 hs, i1]
  rw [show 10 + 3 * p + 1 = 11 + 3 * p by omega]
theorem y_personOf2 {u : hS} (hs : shp u) {p : Nat} (hp : p < 4) : m_X10_personOf 220 p 2 u = some (hV u 230 (12 + 3 * p), u) := by
  have i1 : 10 + 3 * p + 2 < 160 := by omega
  have i2 : 10 + 3 * p < 1000000 := by omega
  simp only [m_X10_personOf, hgI_k, hgR_k, hpI_k, hpR_k, hpZ_k, haI_k, haR_k, hsI_k, hsZ_k, hlen_k, hlet_e, hret_e, hretZ_0, hretZ_1, hif_e, okk_setV, okk_setF, nV, nF, fV, vF, ix_10 hp, ix_2 i2, haI_n, kk_220 hs, kk_230 hs, rf_220_20 hs, ln_230 hs, i1]
  rw [show 10 + 3 * p + 2 = 12 + 3 * p by omega]
theorem y_crossedBy {u : hS} (hs : shp u) {p b : Nat} (hp : p < 4) (hb : b < 9) : m_X10_crossedBy 220 p b u = some (hV u 230 (22 + 9 * p + b), u) := by
  have i1 : 22 + 9 * p + b < 160 := by omega
  have i2 : 22 + 9 * p + b < 1000000 := by omega
  simp only [m_X10_crossedBy, hgI_k, hgR_k, hpI_k, hpR_k, hpZ_k, haI_k, haR_k, hsI_k, hsZ_k, hlen_k, hlet_e, hret_e, hretZ_0, hretZ_1, hif_e, okk_setV, okk_setF, nV, nF, fV, vF, ix_22 hp, ix_n i2, haI_n, kk_220 hs, kk_230 hs, rf_220_20 hs, ln_230 hs, i1]
theorem y_leftOfE {u : hS} (hs : shp u) {p b : Nat} (hp : p < 4) (hb : b < 9) : m_X10_leftOf 220 p b u = some (w32 (qLeft (hV u 230) p b + hV u 231 b), u) := by
  simp only [m_X10_leftOf, hgI_k, hgR_k, hpI_k, hpR_k, hpZ_k, haI_k, haR_k, hsI_k, hsZ_k, hlen_k, hlet_e, hret_e, hretZ_0, hretZ_1, hif_e, okk_setV, okk_setF, nV, nF, fV, vF, haI_1, haI_n, hcallV_b, hbind_s, y_crossedBy hs hp hb, kk_220 hs, kk_230 hs, kk_231 hs, rf_220_20 hs, rf_220_22 hs, ln_230 hs, ln_231 hs, lt_c 1 160 rfl, hb]
  rfl
theorem y_leftOf {u : hS} (hs : shp u) (ex : ∀ b, b < 9 → hV u 231 b = 0) {p b : Nat} (hp : p < 4) (hb : b < 9) : m_X10_leftOf 220 p b u = some (qLeft (hV u 230) p b, u) := by
  rw [y_leftOfE hs hp hb, ex b hb, Int.add_zero, show w32 (qLeft (hV u 230) p b) = qLeft (hV u 230) p b from w32_id (w32_in _)]
theorem y_otherEnd {u : hS} (hs : shp u) {a : Nat} (ha : a + 1 < 160) (q : Int) : m_X10_otherEnd 220 a q u = some (qEnd (hV u 230) a q, u) := by
  have i1 : a < 160 := by omega
  have i2 : a < 1000000 := by omega
  simp only [m_X10_otherEnd_L43, m_X10_otherEnd, hgI_k, hgR_k, hpI_k, hpR_k, hpZ_k, haI_k, haR_k, hsI_k, hsZ_k, hlen_k, hlet_e, hret_e, hretZ_0, hretZ_1, hif_e, okk_setV, okk_setF, nV, nF, fV, vF, haI_n, ix_s i2, kk_220 hs, kk_230 hs, rf_220_20 hs, ln_230 hs, i1, ha, qEnd]
  by_cases h1 : hV u 230 a = q
  · simp only [h1, ne_eq, not_true_eq_false, if_true, if_false]
  · by_cases h2 : hV u 230 (a + 1) = q
    · simp only [h1, h2, ne_eq, not_true_eq_false, not_false_eq_true, if_true, if_false]
    · simp only [h1, h2, ne_eq, not_false_eq_true, if_true, if_false]
theorem y_over {u : hS} (hs : shp u) {b : Nat} (hb : b < 9) (q : Int) : m_X10_over 220 b q u = some (qEnd (hV u 230) (94 + 2 * b) q, u) := by
  have i1 : 94 + 2 * b + 1 < 160 := by omega
  simp only [m_X10_over, hgI_k, hgR_k, hpI_k, hpR_k, hpZ_k, haI_k, haR_k, hsI_k, hsZ_k, hlen_k, hlet_e, hret_e, hretZ_0, hretZ_1, hif_e, okk_setV, okk_setF, nV, nF, fV, vF, ix_94 hb, hcallV_b, hbind_s, y_otherEnd hs i1, kk_220 hs]
theorem y_frostL {u : hS} (hs : shp u) (h4 : hV u 230 7 ≤ 4) : ∀ k n i : Nat, k < n → hV u 230 7 = ((i + k : Nat) : Int) → m_X10_isFrost_L2 n 220 i u = some (anyN (fun k => decide (hV u 230 (120 + 2 * k) ≤ hV u 230 6 ∧ hV u 230 6 ≤ hV u 230 (121 + 2 * k))) k i, u) := by
  intro k
  induction k with
  | zero =>
    intro n i hn hb
    obtain ⟨m, rfl⟩ : ∃ m, n = m + 1 := ⟨n - 1, by omega⟩
    simp only [m_X10_isFrost_L2, hgI_k, hgR_k, hpI_k, hpR_k, hpZ_k, haI_k, haR_k, hsI_k, hsZ_k, hlen_k, hlet_e, hret_e, hretZ_0, hretZ_1, hif_e, okk_setV, okk_setF, nV, nF, fV, vF, haI_7, kk_220 hs, kk_230 hs, rf_220_20 hs, ln_230 hs, lt_c 7 160 rfl]
    rw [if_pos (by omega)]
    rfl
  | succ k ih =>
    intro n i hn hb
    obtain ⟨m, rfl⟩ : ∃ m, n = m + 1 := ⟨n - 1, by omega⟩
    have hi : i < 4 := by omega
    have i1 : 120 + 2 * i < 160 := by omega
    have i2 : 120 + 2 * i + 1 < 160 := by omega
    have i3 : 120 + 2 * i < 1000000 := by omega
    have i4 : i < 1000000 := by omega
    simp only [m_X10_isFrost_L2, m_X10_isFrost_L59, hgI_k, hgR_k, hpI_k, hpR_k, hpZ_k, haI_k, haR_k, hsI_k, hsZ_k, hlen_k, hlet_e, hret_e, hretZ_0, hretZ_1, hif_e, okk_setV, okk_setF, nV, nF, fV, vF, haI_7, haI_6, haI_n, ix_120 hi, ix_s i3, ix_s i4, kk_220 hs, kk_230 hs, rf_220_20 hs, ln_230 hs, lt_c 7 160 rfl, lt_c 6 160 rfl, i1, i2, ih m (i + 1) (by omega) (by omega)]
    rw [if_neg (by omega)]
    have e : 120 + 2 * i + 1 = 121 + 2 * i := by omega
    rw [e]
    simp only [anyN_s, decide_eq_true_eq]
    repeat' split
    all_goals first | rfl | omega
theorem y_isFrost {u : hS} (hs : shp u) (ws : WS (hV u 230)) : m_X10_isFrost 220 u = some (qFrost (hV u 230), u) := by
  have w := ws.2.2.2.2.2.2.2
  simp only [m_X10_isFrost, hgI_k, hgR_k, hpI_k, hpR_k, hpZ_k, haI_k, haR_k, hsI_k, hsZ_k, hlen_k, hlet_e, hret_e, hretZ_0, hretZ_1, hif_e, okk_setV, okk_setF, nV, nF, fV, vF]
  exact y_frostL hs w.2 (hV u 230 7).toNat 1000000000 0 (by omega) (by omega)
theorem y_lostL {u : hS} (hs : shp u) (ex : ∀ b, b < 9 → hV u 231 b = 0) {p : Nat} (hp : p < 4) (h4 : hV u 230 2 ≤ 9) : ∀ (k n i : Nat) (a : Int), k < n → hV u 230 2 = ((i + k : Nat) : Int) → m_X10_lostOf_L4 n 220 p a i u = some (accN (fun b a => iorZ a (if qLeft (hV u 230) p b = 0 then ishlZ 1 b else 0)) k i a, u) := by
  intro k
  induction k with
  | zero =>
    intro n i a hn hb
    obtain ⟨m, rfl⟩ : ∃ m, n = m + 1 := ⟨n - 1, by omega⟩
    simp only [m_X10_lostOf_L4, hgI_k, hgR_k, hpI_k, hpR_k, hpZ_k, haI_k, haR_k, hsI_k, hsZ_k, hlen_k, hlet_e, hret_e, hretZ_0, hretZ_1, hif_e, okk_setV, okk_setF, nV, nF, fV, vF, haI_2, kk_220 hs, kk_230 hs, rf_220_20 hs, ln_230 hs, lt_c 2 160 rfl]
    rw [if_pos (by omega)]
    rfl
  | succ k ih =>
    intro n i a hn hb
    obtain ⟨m, rfl⟩ : ∃ m, n = m + 1 := ⟨n - 1, by omega⟩
    have hi : i < 9 := by omega
    have i4 : i < 1000000 := by omega
    simp only [m_X10_lostOf_L4, m_X10_lostOf_L31, hgI_k, hgR_k, hpI_k, hpR_k, hpZ_k, haI_k, haR_k, hsI_k, hsZ_k, hlen_k, hlet_e, hret_e, hretZ_0, hretZ_1, hif_e, okk_setV, okk_setF, nV, nF, fV, vF, haI_2, hcallV_b, hbind_s, y_leftOf hs ex hp hi, ix_s i4, kk_220 hs, kk_230 hs, rf_220_20 hs, ln_230 hs, lt_c 2 160 rfl]
    rw [if_neg (by omega), ih m (i + 1) _ (by omega) (by omega), ih m (i + 1) _ (by omega) (by omega)]
    simp only [accN_s]
    by_cases h : qLeft (hV u 230) p i = 0
    · rw [if_neg (by omega), if_pos h]
    · rw [if_pos h, if_neg h]
theorem y_lostOf {u : hS} (hs : shp u) (ws : WS (hV u 230)) (ex : ∀ b, b < 9 → hV u 231 b = 0) {p : Nat} (hp : p < 4) : m_X10_lostOf 220 p u = some (qLost (hV u 230) p, u) := by
  have w := ws.2.2.1
  simp only [m_X10_lostOf, hgI_k, hgR_k, hpI_k, hpR_k, hpZ_k, haI_k, haR_k, hsI_k, hsZ_k, hlen_k, hlet_e, hret_e, hretZ_0, hretZ_1, hif_e, okk_setV, okk_setF, nV, nF, fV, vF]
  exact y_lostL hs ex hp w.2 (hV u 230 2).toNat 1000000000 0 0 (by omega) (by omega)
theorem y_allL {u : hS} (hs : shp u) {b : Nat} (hb : b < 9) (h4 : hV u 230 4 ≤ 4) : ∀ (k n i : Nat) (a : Int), k < n → hV u 230 4 = ((i + k : Nat) : Int) → m_X10_crossedByAll_L4 n 220 b a i u = some (accN (fun p a => w32 (a + hV u 230 (22 + 9 * p + b))) k i a, u) := by
  intro k
  induction k with
  | zero =>
    intro n i a hn hb
    obtain ⟨m, rfl⟩ : ∃ m, n = m + 1 := ⟨n - 1, by omega⟩
    simp only [m_X10_crossedByAll_L4, hgI_k, hgR_k, hpI_k, hpR_k, hpZ_k, haI_k, haR_k, hsI_k, hsZ_k, hlen_k, hlet_e, hret_e, hretZ_0, hretZ_1, hif_e, okk_setV, okk_setF, nV, nF, fV, vF, haI_4, kk_220 hs, kk_230 hs, rf_220_20 hs, ln_230 hs, lt_c 4 160 rfl]
    rw [if_pos (by omega)]
    rfl
  | succ k ih =>
    intro n i a hn hv
    obtain ⟨m, rfl⟩ : ∃ m, n = m + 1 := ⟨n - 1, by omega⟩
    have hi : i < 4 := by omega
    have i4 : i < 1000000 := by omega
    simp only [m_X10_crossedByAll_L4, hgI_k, hgR_k, hpI_k, hpR_k, hpZ_k, haI_k, haR_k, hsI_k, hsZ_k, hlen_k, hlet_e, hret_e, hretZ_0, hretZ_1, hif_e, okk_setV, okk_setF, nV, nF, fV, vF, haI_4, hcallV_b, hbind_s, y_crossedBy hs hi hb, ix_s i4, kk_220 hs, kk_230 hs, rf_220_20 hs, ln_230 hs, lt_c 4 160 rfl]
    rw [if_neg (by omega), ih m (i + 1) _ (by omega) (by omega)]
    rfl
theorem y_crossedByAll {u : hS} (hs : shp u) (ws : WS (hV u 230)) {b : Nat} (hb : b < 9) : m_X10_crossedByAll 220 b u = some (qAll (hV u 230) b, u) := by
  have w := ws.2.2.2.2.1
  simp only [m_X10_crossedByAll, hgI_k, hgR_k, hpI_k, hpR_k, hpZ_k, haI_k, haR_k, hsI_k, hsZ_k, hlen_k, hlet_e, hret_e, hretZ_0, hretZ_1, hif_e, okk_setV, okk_setF, nV, nF, fV, vF]
  exact y_allL hs hb w.2 (hV u 230 4).toNat 1000000000 0 0 (by omega) (by omega)
theorem y_canCross {u : hS} (hs : shp u) (ex : ∀ b, b < 9 → hV u 231 b = 0) {p b : Nat} (hp : p < 4) (hb : b < 9) : (qCan (hV u 230) p b → m_X10_canCross 220 p b u = some (1, u)) ∧ (¬ qCan (hV u 230) p b → m_X10_canCross 220 p b u = some (0, u)) := by
  simp only [m_X10_canCross_L28, m_X10_canCross_L27, m_X10_canCross, hgI_k, hgR_k, hpI_k, hpR_k, hpZ_k, haI_k, haR_k, hsI_k, hsZ_k, hlen_k, hlet_e, hret_e, hretZ_0, hretZ_1, hif_e, okk_setV, okk_setF, nV, nF, fV, vF, hcallV_b, hbind_s, y_personOf0 hs hp, y_over hs hb, y_leftOf hs ex hp hb, kk_220 hs]
  unfold qCan
  constructor
  · intro h
    rw [if_neg (by omega), if_neg (by omega)]
  · intro h
    repeat' split
    all_goals first | rfl | omega
theorem y_paidL {u : hS} (hs : shp u) (h4 : hV u 230 4 ≤ 4) : ∀ (k n i : Nat) (a : Int), k < n → hV u 230 4 = ((i + k : Nat) : Int) → m_X10_count_L107 n 220 a i u = some (accN (fun p a => w32 (a + hV u 230 (12 + 3 * p))) k i a, u) := by
  intro k
  induction k with
  | zero =>
    intro n i a hn hb
    obtain ⟨m, rfl⟩ : ∃ m, n = m + 1 := ⟨n - 1, by omega⟩
    simp only [m_X10_count_L107, hgI_k, hgR_k, hpI_k, hpR_k, hpZ_k, haI_k, haR_k, hsI_k, hsZ_k, hlen_k, hlet_e, hret_e, hretZ_0, hretZ_1, hif_e, okk_setV, okk_setF, nV, nF, fV, vF, haI_4, kk_220 hs, kk_230 hs, rf_220_20 hs, ln_230 hs, lt_c 4 160 rfl]
    rw [if_pos (by omega)]
    rfl
  | succ k ih =>
    intro n i a hn hv
    obtain ⟨m, rfl⟩ : ∃ m, n = m + 1 := ⟨n - 1, by omega⟩
    have hi : i < 4 := by omega
    have i4 : i < 1000000 := by omega
    simp only [m_X10_count_L107, hgI_k, hgR_k, hpI_k, hpR_k, hpZ_k, haI_k, haR_k, hsI_k, hsZ_k, hlen_k, hlet_e, hret_e, hretZ_0, hretZ_1, hif_e, okk_setV, okk_setF, nV, nF, fV, vF, haI_4, hcallV_b, hbind_s, y_personOf2 hs hi, ix_s i4, kk_220 hs, kk_230 hs, rf_220_20 hs, ln_230 hs, lt_c 4 160 rfl]
    rw [if_neg (by omega), ih m (i + 1) _ (by omega) (by omega)]
    rfl
theorem y_homeL {u : hS} (hs : shp u) (h4 : hV u 230 4 ≤ 4) : ∀ (k n i : Nat) (a : Int), k < n → hV u 230 4 = ((i + k : Nat) : Int) → m_X10_count_L136 n 220 a i u = some (accN (fun p a => iorZ a (if hV u 230 (10 + 3 * p) = hV u 230 (11 + 3 * p) then ishlZ 1 p else 0)) k i a, u) := by
  intro k
  induction k with
  | zero =>
    intro n i a hn hb
    obtain ⟨m, rfl⟩ : ∃ m, n = m + 1 := ⟨n - 1, by omega⟩
    simp only [m_X10_count_L136, hgI_k, hgR_k, hpI_k, hpR_k, hpZ_k, haI_k, haR_k, hsI_k, hsZ_k, hlen_k, hlet_e, hret_e, hretZ_0, hretZ_1, hif_e, okk_setV, okk_setF, nV, nF, fV, vF, haI_4, kk_220 hs, kk_230 hs, rf_220_20 hs, ln_230 hs, lt_c 4 160 rfl]
    rw [if_pos (by omega)]
    rfl
  | succ k ih =>
    intro n i a hn hv
    obtain ⟨m, rfl⟩ : ∃ m, n = m + 1 := ⟨n - 1, by omega⟩
    have hi : i < 4 := by omega
    have i4 : i < 1000000 := by omega
    simp only [m_X10_count_L136, m_X10_count_L169, hgI_k, hgR_k, hpI_k, hpR_k, hpZ_k, haI_k, haR_k, hsI_k, hsZ_k, hlen_k, hlet_e, hret_e, hretZ_0, hretZ_1, hif_e, okk_setV, okk_setF, nV, nF, fV, vF, haI_4, hcallV_b, hbind_s, y_personOf0 hs hi, y_personOf1 hs hi, ix_s i4, kk_220 hs, kk_230 hs, rf_220_20 hs, ln_230 hs, lt_c 4 160 rfl]
    rw [if_neg (by omega), ih m (i + 1) _ (by omega) (by omega), ih m (i + 1) _ (by omega) (by omega)]
    simp only [accN_s]
    by_cases h : hV u 230 (10 + 3 * i) = hV u 230 (11 + 3 * i)
    · rw [if_neg (by omega), if_pos h]
    · rw [if_pos h, if_neg h]
theorem y_wantL {u : hS} (hs : shp u) {p : Nat} (h4 : hV u 230 5 ≤ 8) : ∀ (k n i : Nat) (a : Int), k < n → hV u 230 5 = ((i + k : Nat) : Int) → a = -1 ∨ 0 ≤ a ∧ a < 8 → m_X10_nextWant_L4 n 220 p a i u = some (accN (fun w a => if hV u 230 (128 + 4 * w) = (p : Int) ∧ hV u 230 6 ≤ hV u 230 (130 + 4 * w) ∧ (a < 0 ∨ hV u 230 (130 + 4 * w) < hV u 230 (130 + 4 * a.toNat)) then (w : Int) else a) k i a, u) := by
  intro k
  induction k with
  | zero =>
    intro n i a hn hb ha
    obtain ⟨m, rfl⟩ : ∃ m, n = m + 1 := ⟨n - 1, by omega⟩
    simp only [m_X10_nextWant_L4, hgI_k, hgR_k, hpI_k, hpR_k, hpZ_k, haI_k, haR_k, hsI_k, hsZ_k, hlen_k, hlet_e, hret_e, hretZ_0, hretZ_1, hif_e, okk_setV, okk_setF, nV, nF, fV, vF, haI_5, kk_220 hs, kk_230 hs, rf_220_20 hs, ln_230 hs, lt_c 5 160 rfl]
    rw [if_pos (by omega)]
    rfl
  | succ k ih =>
    intro n i a hn hv ha
    obtain ⟨m, rfl⟩ : ∃ m, n = m + 1 := ⟨n - 1, by omega⟩
    have hi : i < 8 := by omega
    have i1 : 128 + 4 * i < 160 := by omega
    have i2 : 128 + 4 * i + 2 < 160 := by omega
    have i3 : 128 + 4 * i < 1000000 := by omega
    have i4 : i < 1000000 := by omega
    have e2 : 128 + 4 * i + 2 = 130 + 4 * i := by omega
    have j1 := ih m (i + 1) a (by omega) (by omega) ha
    have j2 := ih m (i + 1) (i : Int) (by omega) (by omega) (Or.inr ⟨by omega, by omega⟩)
    simp only [m_X10_nextWant_L4, m_X10_nextWant_L86, m_X10_nextWant_L88, hgI_k, hgR_k, hpI_k, hpR_k, hpZ_k, haI_k, haR_k, hsI_k, hsZ_k, hlen_k, hlet_e, hret_e, hretZ_0, hretZ_1, hif_e, okk_setV, okk_setF, nV, nF, fV, vF, haI_5, haI_6, haI_n, ix_128 hi, ix_2 i3, ix_s i4, kk_220 hs, kk_230 hs, rf_220_20 hs, ln_230 hs, lt_c 5 160 rfl, lt_c 6 160 rfl, i1, i2, j1, j2]
    rw [if_neg (by omega)]
    simp only [e2, accN_s]
    by_cases h1 : hV u 230 (128 + 4 * i) = (p : Int)
    · rw [if_neg (by omega)]
      by_cases h2 : hV u 230 6 ≤ hV u 230 (130 + 4 * i)
      · rw [if_pos (by omega)]
        by_cases h3 : a < 0
        · rw [if_pos h3, if_pos ⟨h1, h2, Or.inl h3⟩]
        · rw [if_neg h3]
          obtain ⟨c, rfl⟩ : ∃ c : Nat, a = c := ⟨a.toNat, by omega⟩
          have hc : c < 8 := by omega
          have c1 : 128 + 4 * c + 2 < 160 := by omega
          have c3 : 128 + 4 * c < 1000000 := by omega
          simp only [ix_128 hc, ix_2 c3, hgI_k, hgR_k, hpI_k, hpR_k, hpZ_k, haI_k, haR_k, hsI_k, hsZ_k, hlen_k, hlet_e, hret_e, hretZ_0, hretZ_1, hif_e, okk_setV, okk_setF, nV, nF, fV, vF, haI_n, kk_220 hs, kk_230 hs, rf_220_20 hs, ln_230 hs, c1, j1, j2]
          have e3 : 128 + 4 * c + 2 = 130 + 4 * c := by omega
          simp only [e2, e3, Int.toNat_natCast]
          by_cases h4 : hV u 230 (130 + 4 * i) < hV u 230 (130 + 4 * c)
          · rw [if_neg (by omega), if_pos ⟨h1, h2, Or.inr h4⟩]
          · rw [if_pos (by omega), if_neg (by omega)]
      · rw [if_neg (by omega), if_neg (by omega)]
    · rw [if_pos h1, if_neg (by omega)]
theorem accN_want {S : Nat → Int} {p : Nat} : ∀ (k i : Nat) (a : Int), a = -1 ∨ 0 ≤ a ∧ a < ((i + k : Nat) : Int) → accN (fun w a => if S (128 + 4 * w) = (p : Int) ∧ S 6 ≤ S (130 + 4 * w) ∧ (a < 0 ∨ S (130 + 4 * w) < S (130 + 4 * a.toNat)) then (w : Int) else a) k i a = -1 ∨ 0 ≤ accN (fun w a => if S (128 + 4 * w) = (p : Int) ∧ S 6 ≤ S (130 + 4 * w) ∧ (a < 0 ∨ S (130 + 4 * w) < S (130 + 4 * a.toNat)) then (w : Int) else a) k i a ∧ accN (fun w a => if S (128 + 4 * w) = (p : Int) ∧ S 6 ≤ S (130 + 4 * w) ∧ (a < 0 ∨ S (130 + 4 * w) < S (130 + 4 * a.toNat)) then (w : Int) else a) k i a < ((i + k : Nat) : Int) := by
  intro k
  induction k with
  | zero =>
    intro i a h
    exact h
  | succ k ih =>
    intro i a h
    simp only [accN_s]
    have e : i + (k + 1) = i + 1 + k := by omega
    rw [e]
    refine ih (i + 1) _ ?_
    split
    · exact Or.inr ⟨by omega, by omega⟩
    · omega
theorem qWant_in {S : Nat → Int} (ws : WS S) (p : Nat) : qWant S p = -1 ∨ 0 ≤ qWant S p ∧ qWant S p < S 5 := by
  have w := ws.2.2.2.2.2.1
  have h := accN_want (S := S) (p := p) (S 5).toNat 0 (-1) (Or.inl rfl)
  have e : ((0 + (S 5).toNat : Nat) : Int) = S 5 := by omega
  rw [e] at h
  exact h
theorem y_nextWant {u : hS} (hs : shp u) (ws : WS (hV u 230)) (p : Nat) : m_X10_nextWant 220 p u = some (qWant (hV u 230) p, u) := by
  have w := ws.2.2.2.2.2.1
  simp only [m_X10_nextWant, hgI_k, hgR_k, hpI_k, hpR_k, hpZ_k, haI_k, haR_k, hsI_k, hsZ_k, hlen_k, hlet_e, hret_e, hretZ_0, hretZ_1, hif_e, okk_setV, okk_setF, nV, nF, fV, vF]
  exact y_wantL hs w.2 (hV u 230 5).toNat 1000000000 0 (-1) (by omega) (by omega) (Or.inl rfl)
theorem y_goalOf {u : hS} (hs : shp u) (ws : WS (hV u 230)) {p : Nat} (hp : p < 4) : m_X10_goalOf 220 p u = some (qGoal (hV u 230) p, u) := by
  have w := ws.2.2.2.2.2.1
  simp only [m_X10_goalOf_L33, m_X10_goalOf, hgI_k, hgR_k, hpI_k, hpR_k, hpZ_k, haI_k, haR_k, hsI_k, hsZ_k, hlen_k, hlet_e, hret_e, hretZ_0, hretZ_1, hif_e, okk_setV, okk_setF, nV, nF, fV, vF, hcallV_b, hbind_s, y_nextWant hs ws, y_personOf1 hs hp, kk_220 hs]
  unfold qGoal
  rcases qWant_in ws p with h | ⟨h, k⟩
  · rw [if_neg (by omega), if_neg (by omega)]
  · rw [if_pos h, if_pos h]
    obtain ⟨c, hc⟩ : ∃ c : Nat, qWant (hV u 230) p = c := ⟨(qWant (hV u 230) p).toNat, by omega⟩
    rw [hc] at h k ⊢
    have hc : c < 8 := by omega
    have c1 : 128 + 4 * c + 1 < 160 := by omega
    have c3 : 128 + 4 * c < 1000000 := by omega
    simp only [ix_128 hc, ix_s c3, hgI_k, hgR_k, hpI_k, hpR_k, hpZ_k, haI_k, haR_k, hsI_k, hsZ_k, hlen_k, hlet_e, hret_e, hretZ_0, hretZ_1, hif_e, okk_setV, okk_setF, nV, nF, fV, vF, haI_n, kk_220 hs, kk_230 hs, rf_220_20 hs, ln_230 hs, c1, Int.toNat_natCast]
    rw [show 128 + 4 * c + 1 = 129 + 4 * c by omega]
