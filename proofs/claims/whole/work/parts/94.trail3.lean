/-! the reference's trail, searched -/
def stepsT : Nat → Nat
  | 0 => 1
  | d + 1 => 2 + 9 * stepsT d
theorem y_head0 {u : hS} (hs : shp u) {p k n : Nat} {R W : Nat → Int} {z : Int × Int} (k8 : k < 8) (h : W k < 0) : m_X10_findsTrail_L24 (n + 1) 220 p k (TS u R W z) = m_X10_findsTrail_L48 (m_X10_findsTrail_L24 n) 220 p k (TS u R W z) := by
  have h1 := TS_shp R W z hs
  simp only [m_X10_findsTrail_L24, hgI_k, hgR_k, hpI_k, hpR_k, hpZ_k, haI_k, haR_k, hsI_k, hsZ_k, hlen_k, hlet_p, hret_p, hretZ_0, hretZ_1, hif_p, okk_setV, okk_setF, nV, nF, fV, vF, haI_n, kk_220 h1, rf_220_26 h1, kk_234 h1, ln_234 h1, k8, TS_234]
  rw [if_neg (by omega), if_pos h]
theorem y_head1 {u : hS} (hs : shp u) {p k n b : Nat} {R W : Nat → Int} {z : Int × Int} (k8 : k < 8) (hp : p < 4) (hb : b < 9) (h : W k = (b : Int)) : m_X10_findsTrail_L24 (n + 1) 220 p k (TS u R W z) = m_X10_findsTrail_L48 (m_X10_findsTrail_L24 n) 220 p k (TS u (gbR R p b) W z) := by
  have h1 := TS_shp R W z hs
  have gb := y_goesBack h1 hp hb
  rw [TS_230, TS_R] at gb
  simp only [m_X10_findsTrail_L24, hgI_k, hgR_k, hpI_k, hpR_k, hpZ_k, haI_k, haR_k, hsI_k, hsZ_k, hlen_k, hlet_p, hret_p, hretZ_0, hretZ_1, hif_p, okk_setV, okk_setF, nV, nF, fV, vF, hcallV_b, hbind_p, haI_n, kk_220 h1, rf_220_26 h1, kk_234 h1, ln_234 h1, k8, TS_234, h, gb]
  rw [if_neg (by omega), if_neg (by omega)]
/-- none is left to try: up a step -/
theorem y_up {u : hS} (hs : shp u) {p k B : Nat} {R W : Nat → Int} {z : Int × Int} (k8 : k < 8) (hB : R 2 = (B : Int)) (K : Nat → Int → Int → hM) : m_X10_findsTrail_L82 K 220 p k 234 k (B : Int) (TS u R W z) = K 220 p ((k : Int) - 1) (TS u R (sup (sup W k (B : Int)) k (-1)) z) := by
  have h1 := TS_shp R W z hs
  have h2 := TS_shp R (sup W k (B : Int)) z hs
  have w1 : w32 ((k : Int) + -1) = (k : Int) - 1 := by
    rw [w32_id ⟨by omega, by omega⟩]
    omega
  simp only [m_X10_findsTrail_L82, hgI_k, hgR_k, hpI_k, hpR_k, hpZ_k, haI_k, haR_k, hsI_k, hsZ_k, hlen_k, hlet_p, hret_p, hretZ_0, hretZ_1, hif_p, okk_setV, okk_setF, nV, nF, fV, vF, haI_n, haI_2, hsI_n, kk_220 h1, kk_234 h1, ln_234 h1, k8, TS_W, kk_220 h2, rf_220_26 h2, kk_234 h2, ln_234 h2, rf_220_20 h2, kk_230 h2, ln_230 h2, lt_c 2 160 rfl, TS_234, TS_230, sup_s, hB, w1]
  rw [if_neg (fun y => y rfl)]
theorem y_down {u : hS} (hs : shp u) {p k B c : Nat} {R W : Nat → Int} {z : Int × Int} (k8 : k < 8) (hp : p < 4) (hB : R 2 = (B : Int)) (B9 : B ≤ 9) (cB : c < B) (K : Nat → Int → Int → hM) : m_X10_findsTrail_L82 K 220 p k 234 k (c : Int) (TS u R W z) = m_X10_findsTrail_L149 K 220 p k (TS u (gvR R p c) (sup W k (c : Int)) (upT ((k : Int) + 1) (gvR R p c (10 + 3 * p)) z)) := by
  have h1 := TS_shp R W z hs
  have h2 := TS_shp R (sup W k (c : Int)) z hs
  have go := y_goesOver h2 hp (b := c) (by omega)
  rw [TS_230, TS_R] at go
  have h3 := TS_shp (gvR R p c) (sup W k (c : Int)) z hs
  have w1 : w32 ((k : Int) + 1) = (k : Int) + 1 := w32_id ⟨by omega, by omega⟩
  have po := fun z => y_personOf0 (TS_shp (gvR R p c) (sup W k (c : Int)) z hs) hp
  have h4 := fun z => TS_shp (gvR R p c) (sup W k (c : Int)) z hs
  have k4 : ∀ z, okk (TS u (gvR R p c) (sup W k (c : Int)) z) 220 10 := fun z => kk_220 (h4 z)
  simp only [m_X10_findsTrail_L82, hgI_k, hgR_k, hpI_k, hpR_k, hpZ_k, haI_k, haR_k, hsI_k, hsZ_k, hlen_k, hlet_p, hret_p, hretZ_0, hretZ_1, hif_p, okk_setV, okk_setF, nV, nF, fV, vF, hcallV_b, hbind_p, haI_n, haI_2, hsI_n, kk_220 h1, kk_234 h1, ln_234 h1, k8, TS_W, kk_220 h2, rf_220_26 h2, kk_234 h2, ln_234 h2, rf_220_20 h2, kk_230 h2, ln_230 h2, lt_c 2 160 rfl, TS_234, TS_230, sup_s, hB, go, k4, TS_28, w1, TS_z1, po, TS_z2]
  rw [if_pos (by omega)]
  unfold upT
  by_cases y : z.1 < (k : Int) + 1
  · rw [if_neg (by omega), if_pos y]
  · rw [if_pos (by omega), if_neg y]
theorem y_L48 {u : hS} (hs : shp u) {S X : Nat → Int} {p B : Nat} (hX : hV u 231 = X) (hB : S 2 = (B : Int)) {kk m i : Nat} (k8 : kk < 8) {q : Int} {L R W : Nat → Int} {z : Int × Int} (hi : i + m = B) (ht : tR S X p B R q L) (hw : W kk = (i : Int) - 1) (K : Nat → Int → Int → hM) : m_X10_findsTrail_L48 K 220 p kk (TS u R W z) = m_X10_findsTrail_L82 K 220 p kk 234 kk (((if z.1 = 8 then B else nxB (opQ S q L) m i : Nat) : Nat) : Int) (TS u R W z) := by
  have h6 := ht.2.2.2.2.2.1
  have h7 := ht.2.2.2.2.2.2
  have r2 : R 2 = (B : Int) := by rw [ht.2.2.1 2 (by omega)]; exact hB
  have h1 := TS_shp R W z hs
  have nb := y_nextBridge h1 h6 (by rw [TS_230]; exact r2) h7 (o := opQ S q L) (fun b hb => by rw [TS_230, TS_n (by decide) (by decide) (by decide), hX]; exact ht.op b hb) (i := i) (m := m) hi hw
  simp only [m_X10_findsTrail_L48, hgI_k, hgR_k, hpI_k, hpR_k, hpZ_k, haI_k, haR_k, hsI_k, hsZ_k, hlen_k, hlet_p, hret_p, hretZ_0, hretZ_1, hif_p, okk_setV, okk_setF, nV, nF, fV, vF, hcallV_b, hbind_p, haI_n, haI_2, kk_220 h1, rf_220_26 h1, kk_234 h1, ln_234 h1, rf_220_20 h1, kk_230 h1, ln_230 h1, lt_c 2 160 rfl, k8, TS_28, TS_234, TS_230, r2, nb]
  by_cases e : z.1 = 8
  · rw [if_neg (fun y => y e), if_pos e]
  · rw [if_pos e, if_neg e]
theorem y_lvl {u : hS} (hs : shp u) {S X : Nat → Int} {p B : Nat} (hX : hV u 231 = X) (hB : S 2 = (B : Int)) (d kk g : Nat) (hk : kk + d = 7) (child : ∀ (c : Nat) (q : Int) (L R W : Nat → Int) (z : Int × Int) (n : Nat), c < B → 0 < L c → 0 ≤ qEnd S (94 + 2 * c) q → tR S X p B R q L → z.1 ≤ 8 → (kk : Int) + 1 ≤ z.1 → g < n → ∃ n' W', n ≤ n' + g ∧ m_X10_findsTrail_L149 (m_X10_findsTrail_L24 n) 220 p kk (TS u (gvR R p c) W z) = m_X10_findsTrail_L24 n' 220 p kk (TS u (gvR R p c) W' (trN S opF B d ((kk : Int) + 1) (qEnd S (94 + 2 * c) q) (lsA L c) z)) ∧ ∀ j, j ≤ kk → W' j = W j) : ∀ (M m i : Nat) (q : Int) (L R W : Nat → Int) (z : Int × Int) (n : Nat), m ≤ M → i + m = B → tR S X p B R q L → W kk = (i : Int) - 1 → z.1 ≤ 8 → (kk : Int) ≤ z.1 → m * (g + 1) < n → ∃ n' W', n ≤ n' + m * (g + 1) ∧ m_X10_findsTrail_L48 (m_X10_findsTrail_L24 n) 220 p kk (TS u R W z) = m_X10_findsTrail_L24 n' 220 p ((kk : Int) - 1) (TS u R W' (trC S opF (trN S opF B d ((kk : Int) + 1)) kk q L m i z)) ∧ ∀ j, j < kk → W' j = W j := by
  have k8 : kk < 8 := by omega
  have done : ∀ (q : Int) (L R W : Nat → Int) (z : Int × Int) (n : Nat), tR S X p B R q L → m_X10_findsTrail_L82 (m_X10_findsTrail_L24 n) 220 p kk 234 kk (B : Int) (TS u R W z) = m_X10_findsTrail_L24 n 220 p ((kk : Int) - 1) (TS u R (sup (sup W kk (B : Int)) kk (-1)) z) := fun q L R W z n ht => y_up hs k8 (by rw [ht.2.2.1 2 (by omega)]; exact hB) _
  intro M
  induction M with
  | zero =>
    intro m i q L R W z n hm hi ht hw h8 hz hn
    obtain rfl : m = 0 := by omega
    have iB : i = B := by omega
    refine ⟨n, sup (sup W kk (B : Int)) kk (-1), by omega, ?_, fun j hj => by rw [sup_n (by omega), sup_n (by omega)]⟩
    rw [y_L48 hs hX hB k8 hi ht hw]
    have e : (if z.1 = 8 then B else nxB (opQ S q L) 0 i : Nat) = B := by
      split
      · rfl
      · exact iB
    rw [e]
    exact done q L R W z n ht
  | succ M ihM =>
    intro m i q L R W z n hm hi ht hw h8 hz hn
    have h6 := ht.2.2.2.2.2.1
    have h7 := ht.2.2.2.2.2.2
    have r2 : R 2 = (B : Int) := by rw [ht.2.2.1 2 (by omega)]; exact hB
    rw [y_L48 hs hX hB k8 hi ht hw]
    by_cases z8 : z.1 = 8
    · refine ⟨n, sup (sup W kk (B : Int)) kk (-1), by omega, ?_, fun j hj => by rw [sup_n (by omega), sup_n (by omega)]⟩
      rw [if_pos z8, trC_8 z8]
      exact done q L R W z n ht
    rw [if_neg z8, trC_skip m i z]
    have nb := nxB_in (opQ S q L) m i
    obtain ⟨c, hc⟩ : ∃ c, c = nxB (opQ S q L) m i := ⟨_, rfl⟩
    rw [← hc] at nb ⊢
    by_cases cB : c = B
    · refine ⟨n, sup (sup W kk (B : Int)) kk (-1), by omega, ?_, fun j hj => by rw [sup_n (by omega), sup_n (by omega)]⟩
      rw [show i + m - c = 0 by omega, cB]
      exact done q L R W z n ht
    have oc := of_decide_eq_true (nb.2.2 (by omega))
    have cB' : c < B := by omega
    obtain ⟨m', hm'⟩ : ∃ m', i + m - c = m' + 1 := ⟨i + m - c - 1, by omega⟩
    rw [hm', trC_s]
    have st : stT S opF (trN S opF B d ((kk : Int) + 1)) kk q L c z = trN S opF B d ((kk : Int) + 1) (qEnd S (94 + 2 * c) q) (lsA L c) (upT ((kk : Int) + 1) (qEnd S (94 + 2 * c) q) z) := by
      unfold stT
      rw [if_pos ⟨z8, oc.1, decide_eq_true oc.2⟩]
    rw [st]
    have gq : gvR R p c (10 + 3 * p) = qEnd S (94 + 2 * c) q := (ht.go cB' oc.2).1
    have up := upT_in (len := (kk : Int) + 1) (q := qEnd S (94 + 2 * c) q) h8 (by omega)
    have mono := trN_mono (S := S) (f := opF) (B := B) d ((kk : Int) + 1) (qEnd S (94 + 2 * c) q) (lsA L c) (upT ((kk : Int) + 1) (qEnd S (94 + 2 * c) q) z) (by omega) up.2.2
    have mle : (m' + 1) * (g + 1) ≤ m * (g + 1) := Nat.mul_le_mul_right _ (by omega)
    rw [Nat.succ_mul] at mle
    obtain ⟨n1, W1, a1, a2, a3⟩ := child c q L R (sup W kk (c : Int)) (upT ((kk : Int) + 1) (qEnd S (94 + 2 * c) q) z) n cB' oc.2 oc.1 ht up.2.2 up.2.1 (by omega)
    obtain ⟨n1, rfl⟩ : ∃ k, n1 = k + 1 := ⟨n1 - 1, by omega⟩
    have w1 : W1 kk = (c : Int) := by
      rw [a3 kk (Nat.le_refl _), sup_s]
    have hd := y_head1 hs (p := p) (k := kk) (n := n1) (b := c) (R := gvR R p c) (W := W1) (z := trN S opF B d ((kk : Int) + 1) (qEnd S (94 + 2 * c) q) (lsA L c) (upT ((kk : Int) + 1) (qEnd S (94 + 2 * c) q) z)) k8 h6 (by omega) w1
    rw [ht.bk cB' oc.1] at hd
    obtain ⟨n', W', b1, b2, b3⟩ := ihM m' (c + 1) q L R W1 _ n1 (by omega) (by omega) ht (by rw [w1]; omega) mono.2 (by omega) (by omega)
    refine ⟨n', W', by omega, ?_, fun j hj => by rw [b3 j hj, a3 j (by omega), sup_n (by omega)]⟩
    rw [← b2, ← hd, ← a2, y_down hs k8 h6 r2 h7 cB', gq]
theorem y_trM {u : hS} (hs : shp u) {S X : Nat → Int} {p B : Nat} (hX : hV u 231 = X) (hB : S 2 = (B : Int)) (B9 : B ≤ 9) : ∀ (d kk : Nat), kk + d = 7 → ∀ (M m i : Nat) (q : Int) (L R W : Nat → Int) (z : Int × Int) (n : Nat), m ≤ M → i + m = B → tR S X p B R q L → W kk = (i : Int) - 1 → z.1 ≤ 8 → (kk : Int) ≤ z.1 → m * stepsT d < n → ∃ n' W', n ≤ n' + m * stepsT d ∧ m_X10_findsTrail_L48 (m_X10_findsTrail_L24 n) 220 p kk (TS u R W z) = m_X10_findsTrail_L24 n' 220 p ((kk : Int) - 1) (TS u R W' (trC S opF (trN S opF B d ((kk : Int) + 1)) kk q L m i z)) ∧ ∀ j, j < kk → W' j = W j := by
  intro d
  induction d with
  | zero =>
    intro kk hk
    refine y_lvl hs hX hB 0 kk 0 hk (fun c q L R W z n _ _ _ _ _ _ _ => ⟨n, W, by omega, ?_, fun _ _ => rfl⟩)
    show _ = m_X10_findsTrail_L24 n 220 p kk (TS u (gvR R p c) W z)
    simp only [m_X10_findsTrail_L149, hgI_k, hgR_k, hpI_k, hpR_k, hpZ_k, haI_k, haR_k, hsI_k, hsZ_k, hlen_k, hlet_p, hret_p, hretZ_0, hretZ_1, hif_p, okk_setV, okk_setF, nV, nF, fV, vF]
    rw [if_pos (by omega)]
  | succ d ih =>
    intro kk hk
    have e : stepsT (d + 1) = (1 + 9 * stepsT d) + 1 := by
      show 2 + 9 * stepsT d = _
      omega
    rw [e]
    refine y_lvl hs hX hB (d + 1) kk (1 + 9 * stepsT d) hk (fun c q L R W z n cB oc q0 ht h8 hz hn => ?_)
    have h1 := TS_shp (gvR R p c) W z hs
    obtain ⟨n, rfl⟩ : ∃ k, n = k + 1 := ⟨n - 1, by omega⟩
    have k18 : kk + 1 < 8 := by omega
    have le : B * stepsT d ≤ 9 * stepsT d := Nat.mul_le_mul_right _ B9
    obtain ⟨n', W', a1, a2, a3⟩ := ih (kk + 1) (by omega) B B 0 (qEnd S (94 + 2 * c) q) (lsA L c) (gvR R p c) (sup W (kk + 1) (-1)) z n (Nat.le_refl _) (by omega) (ht.go cB oc) (by rw [sup_s]; rfl) h8 (by omega) (by omega)
    refine ⟨n', W', by omega, ?_, fun j hj => by rw [a3 j (by omega), sup_n (by omega)]⟩
    have hd := y_head0 hs (p := p) (k := kk + 1) (n := n) (R := gvR R p c) (W := sup W (kk + 1) (-1)) (z := z) k18 (by rw [sup_s]; decide)
    have ek : (((kk + 1 : Nat) : Int) - 1) = (kk : Int) := by omega
    have ek2 : ((kk + 1 : Nat) : Int) = (kk : Int) + 1 := by omega
    rw [ek] at a2
    rw [← hd] at a2
    have tn : trN S opF B (d + 1) ((kk : Int) + 1) (qEnd S (94 + 2 * c) q) (lsA L c) z = trC S opF (trN S opF B d ((((kk + 1 : Nat) : Int)) + 1)) (((kk + 1 : Nat) : Int)) (qEnd S (94 + 2 * c) q) (lsA L c) B 0 z := by
      rw [ek2, trN_s]
    rw [tn, ← a2]
    simp only [m_X10_findsTrail_L149, hgI_k, hgR_k, hpI_k, hpR_k, hpZ_k, haI_k, haR_k, hsI_k, hsZ_k, hlen_k, hlet_p, hret_p, hretZ_0, hretZ_1, hif_p, okk_setV, okk_setF, nV, nF, fV, vF, hsI_n, kk_220 h1, rf_220_26 h1, kk_234 h1, ln_234 h1, k18, ix_s (show kk < 1000000 by omega), TS_W]
    rw [if_neg (by omega)]
theorem stepsT_7 : 9 * stepsT 7 < 999999999 := by decide
theorem y_findsTrail {u : hS} (hs : shp u) {S X : Nat → Int} {p B : Nat} (hS : hV u 230 = S) (hX : hV u 231 = X) (hB : S 2 = (B : Int)) (B9 : B ≤ 9) {q : Int} {L : Nat → Int} (ht : tR S X p B S q L) : ∃ W, m_X10_findsTrail 220 p u = some (0, TS u S W (trN S opF B 8 0 q L (0, q))) := by
  have h6 := ht.2.2.2.2.2.1
  have le : B * stepsT 7 ≤ 9 * stepsT 7 := Nat.mul_le_mul_right _ B9
  have s7 := stepsT_7
  obtain ⟨n', W', a1, a2, a3⟩ := y_trM hs hX hB B9 7 0 (by omega) B B 0 q L S (sup (hV u 234) 0 (-1)) (0, q) 999999999 (Nat.le_refl _) (by omega) ht (by rw [sup_s]; rfl) (show (0 : Int) ≤ 8 by decide) (show ((0 : Nat) : Int) ≤ 0 by decide) (by omega)
  obtain ⟨n', rfl⟩ : ∃ k, n' = k + 1 := ⟨n' - 1, by omega⟩
  refine ⟨W', ?_⟩
  have hd := y_head0 hs (p := p) (k := 0) (n := 999999999) (R := S) (W := sup (hV u 234) 0 (-1)) (z := ((0 : Int), q)) (by decide) (by rw [sup_s]; decide)
  have fin : m_X10_findsTrail_L24 (n' + 1) 220 p (((0 : Nat) : Int) - 1) (TS u S W' (trC S opF (trN S opF B 7 (((0 : Nat) : Int) + 1)) ((0 : Nat) : Int) q L B 0 (0, q))) = some (0, TS u S W' (trN S opF B 8 0 q L (0, q))) := by
    simp only [m_X10_findsTrail_L24, hgI_k, hgR_k, hpI_k, hpR_k, hpZ_k, haI_k, haR_k, hsI_k, hsZ_k, hlen_k, hlet_p, hret_p, hretZ_0, hretZ_1, hif_p, okk_setV, okk_setF, nV, nF, fV, vF]
    rw [if_pos (by decide)]
    rfl
  have all := (hd.trans a2).trans fin
  have st : TS u S (sup (hV u 234) 0 (-1)) (0, q) = hsetV (hsetV (hsetV u 220 28 0) 220 37 q) 234 0 (-1) := by
    unfold TS
    have e1 : hput u 230 S = u := by rw [← hS, hput_self]
    rw [e1, setV_put1 u, setV_put, setV_put1 (hput u 220 (sup (sup (hV u 220) 28 0) 37 q)), hV_put_n (show 234 ≠ 220 by decide), put_comm (show 234 ≠ 220 by decide)]
  rw [st] at all
  rw [← all]
  have po := y_personOf0 (u := hsetV u 220 28 0) hs h6
  have e230 : hV (hsetV u 220 28 0) 230 = S := by
    rw [← hS]
    funext j
    exact hV_setV_a (by decide)
  rw [e230, ht.1] at po
  have z0 : (0 : Nat) < 8 := by decide
  simp only [m_X10_findsTrail, hgI_k, hgR_k, hpI_k, hpR_k, hpZ_k, haI_k, haR_k, hsI_k, hsZ_k, hlen_k, hlet_p, hret_p, hretZ_0, hretZ_1, hif_p, okk_setV, okk_setF, nV, nF, fV, vF, hcallV_b, hbind_p, kk_220 hs, kk_234 hs, rf_220_26 hs, ln_234 hs, po]
  rw [hsI_k (kk_234 (show shp (hsetV (hsetV u 220 28 0) 220 37 q) from hs)) (by decide) (by rw [ln_234 (show shp (hsetV (hsetV u 220 28 0) 220 37 q) from hs)]; decide)]
  rfl
set_option maxRecDepth 100000 in
theorem no46 : ∀ q ∈ refL, ¬ (q.1 = 46 ∧ q.2.1 = 1) := by decide
theorem shp_set46 {u : hS} {x : Nat} (hs : shp u) : shp (hsetF u 46 1 x) := ⟨hs.1, hs.2.1, fun q hq => by
  show (if q.1 = 46 ∧ q.2.1 = 1 then x else hF u q.1 q.2.1) = q.2.2
  rw [if_neg (no46 q hq)]
  exact hs.2.2 q hq⟩
