/-! going over and back in the reference's row -/
theorem y_canE {u : hS} (hs : shp u) {p b : Nat} (hp : p < 4) (hb : b < 9) : m_X10_canCross 220 p b u = some (if 0 ≤ qEnd (hV u 230) (94 + 2 * b) (hV u 230 (10 + 3 * p)) ∧ 0 < w32 (qLeft (hV u 230) p b + hV u 231 b) then 1 else 0, u) := by
  simp only [m_X10_canCross_L28, m_X10_canCross_L27, m_X10_canCross, hgI_k, hgR_k, hpI_k, hpR_k, hpZ_k, haI_k, haR_k, hsI_k, hsZ_k, hlen_k, hlet_p, hret_p, hretZ_0, hretZ_1, hif_p, okk_setV, okk_setF, nV, nF, fV, vF, hcallV_b, hbind_p, y_personOf0 hs hp, y_over hs hb, y_leftOfE hs hp hb, kk_220 hs]
  by_cases h : qEnd (hV u 230) (94 + 2 * b) (hV u 230 (10 + 3 * p)) < 0
  · rw [if_pos h, if_neg (fun z => by have := z.1; omega)]
  · rw [if_neg h]
    by_cases k : w32 (qLeft (hV u 230) p b + hV u 231 b) ≤ 0
    · rw [if_pos k, if_neg (fun z => by have := z.2; omega)]
    · rw [if_neg k, if_pos ⟨by omega, by omega⟩]
def nxB (o : Nat → Bool) : Nat → Nat → Nat
  | 0, i => i
  | k + 1, i => if o i = true then i else nxB o k (i + 1)
theorem nxB_in (o : Nat → Bool) : ∀ k i, i ≤ nxB o k i ∧ nxB o k i ≤ i + k ∧ (nxB o k i < i + k → o (nxB o k i) = true) := by
  intro k
  induction k with
  | zero =>
    intro i
    exact ⟨Nat.le_refl _, Nat.le_refl _, fun h => absurd h (Nat.lt_irrefl _)⟩
  | succ k ih =>
    intro i
    show i ≤ (if o i = true then i else nxB o k (i + 1)) ∧ (if o i = true then i else nxB o k (i + 1)) ≤ i + (k + 1) ∧ ((if o i = true then i else nxB o k (i + 1)) < i + (k + 1) → o (if o i = true then i else nxB o k (i + 1)) = true)
    by_cases h : o i = true
    · rw [if_pos h]
      exact ⟨Nat.le_refl _, by omega, fun _ => h⟩
    · rw [if_neg h]
      have z := ih (i + 1)
      exact ⟨by omega, by omega, fun y => z.2.2 (by omega)⟩
theorem y_nxL {u : hS} (hs : shp u) {p B : Nat} (hp : p < 4) (hB : hV u 230 2 = (B : Int)) (B9 : B ≤ 9) {o : Nat → Bool} (ho : ∀ b, b < B → (o b = true ↔ 0 ≤ qEnd (hV u 230) (94 + 2 * b) (hV u 230 (10 + 3 * p)) ∧ 0 < w32 (qLeft (hV u 230) p b + hV u 231 b))) : ∀ k n i : Nat, k < n → i + k = B → m_X10_nextBridge_L4 n 220 p i u = some ((nxB o k i : Int), u) := by
  intro k
  induction k with
  | zero =>
    intro n i hn hi
    obtain ⟨n, rfl⟩ : ∃ k, n = k + 1 := ⟨n - 1, by omega⟩
    simp only [m_X10_nextBridge_L4, m_X10_nextBridge_L29, hgI_k, hgR_k, hpI_k, hpR_k, hpZ_k, haI_k, haR_k, hsI_k, hsZ_k, hlen_k, hlet_p, hret_p, hretZ_0, hretZ_1, hif_p, okk_setV, okk_setF, nV, nF, fV, vF, haI_2, kk_220 hs, kk_230 hs, rf_220_20 hs, ln_230 hs, lt_c 2 160 rfl, hB]
    rw [if_pos (by omega)]
    rfl
  | succ k ih =>
    intro n i hn hi
    obtain ⟨n, rfl⟩ : ∃ k, n = k + 1 := ⟨n - 1, by omega⟩
    have iB : i < B := by omega
    have cc := y_canE hs hp (b := i) (by omega)
    simp only [m_X10_nextBridge_L4, m_X10_nextBridge_L29, hgI_k, hgR_k, hpI_k, hpR_k, hpZ_k, haI_k, haR_k, hsI_k, hsZ_k, hlen_k, hlet_p, hret_p, hretZ_0, hretZ_1, hif_p, okk_setV, okk_setF, nV, nF, fV, vF, hcallV_b, hbind_p, haI_2, kk_220 hs, kk_230 hs, rf_220_20 hs, ln_230 hs, lt_c 2 160 rfl, hB, cc, ih n (i + 1) (by omega) (by omega), ix_s (show i < 1000000 by omega)]
    rw [if_neg (by omega)]
    show _ = some (((if o i = true then i else nxB o k (i + 1) : Nat) : Int), u)
    by_cases h : o i = true
    · rw [if_pos ((ho i iB).mp h), if_pos (by decide), if_pos h]
    · rw [if_neg (fun z => h ((ho i iB).mpr z)), if_neg (by decide), if_neg h]
theorem y_nextBridge {u : hS} (hs : shp u) {p B : Nat} (hp : p < 4) (hB : hV u 230 2 = (B : Int)) (B9 : B ≤ 9) {o : Nat → Bool} (ho : ∀ b, b < B → (o b = true ↔ 0 ≤ qEnd (hV u 230) (94 + 2 * b) (hV u 230 (10 + 3 * p)) ∧ 0 < w32 (qLeft (hV u 230) p b + hV u 231 b))) {i m : Nat} (im : i + m = B) {w : Int} (hw : w = (i : Int) - 1) : m_X10_nextBridge 220 p w u = some ((nxB o m i : Int), u) := by
  have e : w32 (w + 1) = (i : Int) := by
    rw [hw, w32_id ⟨by omega, by omega⟩]
    omega
  simp only [m_X10_nextBridge, hlet_p, e]
  exact y_nxL hs hp hB B9 ho m 1000000000 i (by omega) im
def gvR (R : Nat → Int) (p b : Nat) : Nat → Int := sup (sup R (10 + 3 * p) (qEnd R (94 + 2 * b) (R (10 + 3 * p)))) (22 + 9 * p + b) (w32 (R (22 + 9 * p + b) + 1))
def gbR (R : Nat → Int) (p b : Nat) : Nat → Int := sup (sup R (10 + 3 * p) (qEnd R (94 + 2 * b) (R (10 + 3 * p)))) (22 + 9 * p + b) (w32 (R (22 + 9 * p + b) - 1))
theorem y_goesOver {u : hS} (hs : shp u) {p b : Nat} (hp : p < 4) (hb : b < 9) : m_X10_goesOver 220 p b u = some (0, hput u 230 (gvR (hV u 230) p b)) := by
  have i1 : 10 + 3 * p < 160 := by omega
  have i2 : 22 + 9 * p + b < 160 := by omega
  have j2 : 22 + 9 * p + b < 1000000 := by omega
  simp only [m_X10_goesOver, hgI_k, hgR_k, hpI_k, hpR_k, hpZ_k, haI_k, haR_k, hsI_k, hsZ_k, hlen_k, hlet_p, hret_p, hretZ_0, hretZ_1, hif_p, okk_setV, okk_setF, nV, nF, fV, vF, hcallV_b, hbind_p, y_personOf0 hs hp, y_over hs hb, ix_10 hp, ix_22 hp, ix_n j2, haI_n, hsI_n, kk_220 hs, kk_230 hs, rf_220_20 hs, ln_230 hs, i1, i2, hV_setV_i (show 22 + 9 * p + b ≠ 10 + 3 * p by omega)]
  rw [if_pos (by omega), setV_put1 u, setV_put]
  rfl
theorem y_goesBack {u : hS} (hs : shp u) {p b : Nat} (hp : p < 4) (hb : b < 9) : m_X10_goesBack 220 p b u = some (0, hput u 230 (gbR (hV u 230) p b)) := by
  have i1 : 10 + 3 * p < 160 := by omega
  have i2 : 22 + 9 * p + b < 160 := by omega
  have j2 : 22 + 9 * p + b < 1000000 := by omega
  simp only [m_X10_goesBack, hgI_k, hgR_k, hpI_k, hpR_k, hpZ_k, haI_k, haR_k, hsI_k, hsZ_k, hlen_k, hlet_p, hret_p, hretZ_0, hretZ_1, hif_p, okk_setV, okk_setF, nV, nF, fV, vF, hcallV_b, hbind_p, y_personOf0 hs hp, y_over hs hb, ix_10 hp, ix_22 hp, ix_n j2, haI_n, hsI_n, kk_220 hs, kk_230 hs, rf_220_20 hs, ln_230 hs, i1, i2, hV_setV_i (show 22 + 9 * p + b ≠ 10 + 3 * p by omega)]
  rw [if_pos (by omega), setV_put1 u, setV_put]
  rfl
/-- where one is, and what is left, in the reference's row -/
def tR (S X : Nat → Int) (p B : Nat) (R : Nat → Int) (q : Int) (L : Nat → Int) : Prop := R (10 + 3 * p) = q ∧ (∀ b, b < B → w32 (qLeft R p b + X b) = L b ∧ 0 ≤ R (22 + 9 * p + b) ∧ R (22 + 9 * p + b) ≤ 10) ∧ (∀ j, (j < 10 ∨ 94 ≤ j) → R j = S j) ∧ (0 ≤ S 1 ∧ S 1 ≤ 9) ∧ (∀ b, b < B → 0 ≤ X b ∧ X b ≤ 1) ∧ p < 4 ∧ B ≤ 9
theorem tR.qe {S X : Nat → Int} {p B : Nat} {R : Nat → Int} {q : Int} {L : Nat → Int} (h : tR S X p B R q L) (b : Nat) (x : Int) : qEnd R (94 + 2 * b) x = qEnd S (94 + 2 * b) x := by
  unfold qEnd
  rw [h.2.2.1 (94 + 2 * b) (by omega), h.2.2.1 (94 + 2 * b + 1) (by omega)]
theorem tR.go {S X : Nat → Int} {p B : Nat} {R : Nat → Int} {q : Int} {L : Nat → Int} (h : tR S X p B R q L) {b : Nat} (hb : b < B) (ho : 0 < L b) : tR S X p B (gvR R p b) (qEnd S (94 + 2 * b) q) (lsA L b) := by
  have qe := h.qe
  obtain ⟨h1, h2, h3, h4, h5, h6, h7⟩ := h
  have r1 : R 1 = S 1 := h3 1 (by omega)
  refine ⟨?_, fun c hc => ?_, fun j hj => ?_, h4, h5, h6, h7⟩
  · unfold gvR
    rw [sup_n (by omega), sup_s, h1, qe]
  · have z := h2 c hc
    have x := h5 c hc
    have e1 : gvR R p b 1 = R 1 := by
      unfold gvR
      rw [sup_n (by omega), sup_n (by omega)]
    unfold qLeft at z ⊢
    by_cases e : c = b
    · subst e
      have e2 : gvR R p c (22 + 9 * p + c) = R (22 + 9 * p + c) + 1 := by
        unfold gvR
        rw [sup_s, w32_id ⟨by omega, by omega⟩]
      rw [e1, e2, lsA_s]
      rw [r1] at z ⊢
      rw [w32_id (x := S 1 - R (22 + 9 * p + c)) ⟨by omega, by omega⟩, w32_id ⟨by omega, by omega⟩] at z
      rw [w32_id (x := S 1 - (R (22 + 9 * p + c) + 1)) ⟨by omega, by omega⟩, w32_id ⟨by omega, by omega⟩]
      omega
    · have e2 : gvR R p b (22 + 9 * p + c) = R (22 + 9 * p + c) := by
        unfold gvR
        rw [sup_n (by omega), sup_n (by omega)]
      rw [e1, e2, lsA_n e]
      exact z
  · unfold gvR
    rw [sup_n (by omega), sup_n (by omega)]
    exact h3 j hj
theorem tR.bk {S X : Nat → Int} {p B : Nat} {R : Nat → Int} {q : Int} {L : Nat → Int} (h : tR S X p B R q L) {b : Nat} (hb : b < B) (q0 : 0 ≤ qEnd S (94 + 2 * b) q) : gbR (gvR R p b) p b = R := by
  have qe := h.qe
  obtain ⟨h1, h2, h3, h4, h5, h6, h7⟩ := h
  have z := (h2 b hb).2
  have c1 : gvR R p b (10 + 3 * p) = qEnd S (94 + 2 * b) q := by
    unfold gvR
    rw [sup_n (by omega), sup_s, h1, qe]
  have c2 : gvR R p b (22 + 9 * p + b) = R (22 + 9 * p + b) + 1 := by
    unfold gvR
    rw [sup_s, w32_id ⟨by omega, by omega⟩]
  have c3 : qEnd (gvR R p b) (94 + 2 * b) (qEnd S (94 + 2 * b) q) = q := by
    have e : qEnd (gvR R p b) (94 + 2 * b) (qEnd S (94 + 2 * b) q) = qEnd S (94 + 2 * b) (qEnd S (94 + 2 * b) q) := by
      unfold gvR qEnd
      rw [sup_n (by omega), sup_n (by omega), sup_n (by omega), sup_n (by omega), h3 (94 + 2 * b) (by omega), h3 (94 + 2 * b + 1) (by omega)]
    rw [e]
    exact qEnd_back rfl q0
  unfold gbR
  rw [c1, c2, c3, w32_id (x := R (22 + 9 * p + b) + 1 - 1) ⟨by omega, by omega⟩, show R (22 + 9 * p + b) + 1 - 1 = R (22 + 9 * p + b) by omega]
  unfold gvR
  rw [sup_comm (show 22 + 9 * p + b ≠ 10 + 3 * p by omega), sup_sup, sup_sup, ← h1, sup_self, sup_self]
def opQ (S : Nat → Int) (q : Int) (L : Nat → Int) (b : Nat) : Bool := decide (0 ≤ qEnd S (94 + 2 * b) q ∧ 0 < L b)
theorem tR.op {S X : Nat → Int} {p B : Nat} {R : Nat → Int} {q : Int} {L : Nat → Int} (h : tR S X p B R q L) (b : Nat) (hb : b < B) : opQ S q L b = true ↔ 0 ≤ qEnd R (94 + 2 * b) (R (10 + 3 * p)) ∧ 0 < w32 (qLeft R p b + X b) := by
  rw [h.qe, h.1, (h.2.1 b hb).1]
  exact decide_eq_true_iff
theorem trC_skip {S : Nat → Int} {rc : Int → (Nat → Int) → Int × Int → Int × Int} {len q : Int} {L : Nat → Int} : ∀ k i z, trC S opF rc len q L k i z = trC S opF rc len q L (i + k - nxB (opQ S q L) k i) (nxB (opQ S q L) k i) z := by
  intro k
  induction k with
  | zero =>
    intro i z
    show z = trC S opF rc len q L (i + 0 - i) i z
    rw [show i + 0 - i = 0 by omega]
    rfl
  | succ k ih =>
    intro i z
    show _ = trC S opF rc len q L (i + (k + 1) - (if opQ S q L i = true then i else nxB (opQ S q L) k (i + 1))) (if opQ S q L i = true then i else nxB (opQ S q L) k (i + 1)) z
    by_cases h : opQ S q L i = true
    · rw [if_pos h, show i + (k + 1) - i = k + 1 by omega]
    · rw [if_neg h, trC_s]
      have e : stT S opF rc len q L i z = z := by
        unfold stT
        rw [if_neg (fun y => h (decide_eq_true ⟨y.2.1, of_decide_eq_true y.2.2⟩))]
      rw [e, ih (i + 1) z, show i + 1 + k = i + (k + 1) by omega]
/-! the reference's trail -/
def TS (u : hS) (R W : Nat → Int) (z : Int × Int) : hS := hput (hput (hput u 230 R) 234 W) 220 (sup (sup (hV u 220) 28 z.1) 37 z.2)
theorem TS_230 (u : hS) (R W : Nat → Int) (z : Int × Int) : hV (TS u R W z) 230 = R := by
  unfold TS
  rw [hV_put_n (by decide), hV_put_n (by decide), hV_put_s]
theorem TS_234 (u : hS) (R W : Nat → Int) (z : Int × Int) : hV (TS u R W z) 234 = W := by
  unfold TS
  rw [hV_put_n (by decide), hV_put_s]
theorem TS_28 (u : hS) (R W : Nat → Int) (z : Int × Int) : hV (TS u R W z) 220 28 = z.1 := by
  unfold TS
  rw [hV_put_s, sup_n (by decide), sup_s]
theorem TS_37 (u : hS) (R W : Nat → Int) (z : Int × Int) : hV (TS u R W z) 220 37 = z.2 := by
  unfold TS
  rw [hV_put_s, sup_s]
theorem TS_n {u : hS} {R W : Nat → Int} {z : Int × Int} {a : Nat} (h : a ≠ 230) (h2 : a ≠ 234) (h3 : a ≠ 220) : hV (TS u R W z) a = hV u a := by
  unfold TS
  rw [hV_put_n h3, hV_put_n h2, hV_put_n h]
theorem TS_shp {u : hS} (R W : Nat → Int) (z : Int × Int) (hs : shp u) : shp (TS u R W z) := hs
theorem TS_R (u : hS) (R R' W : Nat → Int) (z : Int × Int) : hput (TS u R W z) 230 R' = TS u R' W z := by
  unfold TS
  rw [put_comm (show 220 ≠ 230 by decide), put_comm (show 234 ≠ 230 by decide), hput_put]
theorem TS_W (u : hS) (R W : Nat → Int) (z : Int × Int) (i : Nat) (x : Int) : hsetV (TS u R W z) 234 i x = TS u R (sup W i x) z := by
  rw [setV_put1, TS_234]
  unfold TS
  rw [put_comm (show 220 ≠ 234 by decide), hput_put]
theorem TS_z1 (u : hS) (R W : Nat → Int) (z : Int × Int) (a : Int) : hsetV (TS u R W z) 220 28 a = TS u R W (a, z.2) := by
  unfold TS
  rw [setV_put, sup_comm (show 37 ≠ 28 by decide), sup_sup]
theorem TS_z2 (u : hS) (R W : Nat → Int) (z : Int × Int) (b : Int) : hsetV (TS u R W z) 220 37 b = TS u R W (z.1, b) := by
  unfold TS
  rw [setV_put, sup_sup]
