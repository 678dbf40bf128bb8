/-! the reference's best row of days -/
def QS (u : hS) (R W V : Nat → Int) (M : Int) : hS := hput (hput (hput (hput u 230 R) 234 W) 235 V) 220 (sup (hV u 220) 28 M)
theorem QS_230 (u : hS) (R W V : Nat → Int) (M : Int) : hV (QS u R W V M) 230 = R := by
  unfold QS
  rw [hV_put_n (by decide), hV_put_n (by decide), hV_put_n (by decide), hV_put_s]
theorem QS_234 (u : hS) (R W V : Nat → Int) (M : Int) : hV (QS u R W V M) 234 = W := by
  unfold QS
  rw [hV_put_n (by decide), hV_put_n (by decide), hV_put_s]
theorem QS_235 (u : hS) (R W V : Nat → Int) (M : Int) : hV (QS u R W V M) 235 = V := by
  unfold QS
  rw [hV_put_n (by decide), hV_put_s]
theorem QS_28 (u : hS) (R W V : Nat → Int) (M : Int) : hV (QS u R W V M) 220 28 = M := by
  unfold QS
  rw [hV_put_s, sup_s]
theorem QS_n {u : hS} {R W V : Nat → Int} {M : Int} {a : Nat} (h : a ≠ 230) (h2 : a ≠ 234) (h3 : a ≠ 235) (h4 : a ≠ 220) : hV (QS u R W V M) a = hV u a := by
  unfold QS
  rw [hV_put_n h4, hV_put_n h3, hV_put_n h2, hV_put_n h]
theorem QS_shp {u : hS} (R W V : Nat → Int) (M : Int) (hs : shp u) : shp (QS u R W V M) := hs
theorem QS_R (u : hS) (R R' W V : Nat → Int) (M : Int) : hput (QS u R W V M) 230 R' = QS u R' W V M := by
  unfold QS
  rw [put_comm (show 220 ≠ 230 by decide), put_comm (show 235 ≠ 230 by decide), put_comm (show 234 ≠ 230 by decide), hput_put]
theorem QS_W (u : hS) (R W V : Nat → Int) (M : Int) (i : Nat) (x : Int) : hsetV (QS u R W V M) 234 i x = QS u R (sup W i x) V M := by
  rw [setV_put1, QS_234]
  unfold QS
  rw [put_comm (show 220 ≠ 234 by decide), put_comm (show 235 ≠ 234 by decide), hput_put]
theorem QS_V (u : hS) (R W V : Nat → Int) (M : Int) (i : Nat) (x : Int) : hsetV (QS u R W V M) 235 i x = QS u R W (sup V i x) M := by
  rw [setV_put1, QS_235]
  unfold QS
  rw [put_comm (show 220 ≠ 235 by decide), hput_put]
theorem QS_M (u : hS) (R W V : Nat → Int) (M x : Int) : hsetV (QS u R W V M) 220 28 x = QS u R W V x := by
  unfold QS
  rw [setV_put, sup_sup]
theorem y_kpL {u : hS} (hs : shp u) {nn : Nat} (hn : nn ≤ 6) (R W : Nat → Int) (M : Int) : ∀ (m fl i : Nat) (V : Nat → Int), m < fl → i + m = nn → (∀ j, j < i → V j = W j) → ∃ V', m_X10_keepsRow_L7 fl 220 nn i (QS u R W V M) = some (0, QS u R W V' M) ∧ ∀ j, j < nn → V' j = W j := by
  intro m
  induction m with
  | zero =>
    intro fl i V hf hi hV
    obtain ⟨fl, rfl⟩ : ∃ x, fl = x + 1 := ⟨fl - 1, by omega⟩
    refine ⟨V, ?_, fun j hj => hV j (by omega)⟩
    simp only [m_X10_keepsRow_L7, hgI_k, hgR_k, hpI_k, hpR_k, hpZ_k, haI_k, haR_k, hsI_k, hsZ_k, hlen_k, hlet_p, hret_p, hretZ_0, hretZ_1, hif_p, okk_setV, okk_setF, nV, nF, fV, vF]
    rw [if_pos (by omega)]
  | succ m ih =>
    intro fl i V hf hi hV
    obtain ⟨fl, rfl⟩ : ∃ x, fl = x + 1 := ⟨fl - 1, by omega⟩
    have h1 := QS_shp R W V M hs
    have i8 : i < 8 := by omega
    obtain ⟨V', a1, a2⟩ := ih fl (i + 1) (sup V i (W i)) (by omega) (by omega) (fun j hj => by
      by_cases e : j = i
      · rw [e, sup_s]
      · rw [sup_n e]
        exact hV j (by omega))
    refine ⟨V', ?_, a2⟩
    rw [← a1]
    simp only [m_X10_keepsRow_L7, hgI_k, hgR_k, hpI_k, hpR_k, hpZ_k, haI_k, haR_k, hsI_k, hsZ_k, hlen_k, hlet_p, hret_p, hretZ_0, hretZ_1, hif_p, okk_setV, okk_setF, nV, nF, fV, vF, haI_n, hsI_n, kk_220 h1, rf_220_26 h1, rf_220_27 h1, kk_234 h1, ln_234 h1, kk_235 h1, ln_235 h1, i8, QS_234, QS_V, ix_s (show i < 1000000 by omega)]
    rw [if_neg (by omega)]
theorem y_keeps {u : hS} (hs : shp u) {nn : Nat} (hn : nn ≤ 6) (R W V : Nat → Int) (M x : Int) : ∃ V', m_X10_keepsRow 220 nn x (QS u R W V M) = some (0, QS u R W V' x) ∧ ∀ j, j < nn → V' j = W j := by
  obtain ⟨V', a1, a2⟩ := y_kpL hs hn R W x nn 1000000000 0 V (by omega) (by omega) (fun j hj => by omega)
  refine ⟨V', ?_, a2⟩
  have h1 := QS_shp R W V M hs
  simp only [m_X10_keepsRow, hgI_k, hgR_k, hpI_k, hpR_k, hpZ_k, haI_k, haR_k, hsI_k, hsZ_k, hlen_k, hlet_p, hret_p, hretZ_0, hretZ_1, hif_p, okk_setV, okk_setF, nV, nF, fV, vF, kk_220 h1, QS_M]
  exact a1
/-- the reference's row while days are searched -/
def lR (S X : Nat → Int) (p B nn : Nat) (h : Int) (R : Nat → Int) (q : Int) (L : Nat → Int) : Prop := tR S X p B R q L ∧ R (11 + 3 * p) = h ∧ (0 ≤ S 5 ∧ S 5 ≤ 8) ∧ (0 ≤ S 6 ∧ S 6 ≤ 999) ∧ WW S ∧ S 2 = (B : Int) ∧ (1 ≤ nn ∧ nn ≤ 6)
theorem lR.go {S X : Nat → Int} {p B nn : Nat} {h : Int} {R : Nat → Int} {q : Int} {L : Nat → Int} (l : lR S X p B nn h R q L) {b : Nat} (hb : b < B) (ho : 0 < L b) : lR S X p B nn h (gvR R p b) (qEnd S (94 + 2 * b) q) (lsA L b) := by
  refine ⟨l.1.go hb ho, ?_, l.2.2⟩
  unfold gvR
  rw [sup_n (by omega), sup_n (by omega)]
  exact l.2.1
theorem lR.pay {S X : Nat → Int} {p B nn : Nat} {h : Int} {R : Nat → Int} {q : Int} {L : Nat → Int} (l : lR S X p B nn h R q L) {u : hS} (hs : shp u) (W V : Nat → Int) (M : Int) {k : Nat} (hk : k < 100) : m_X10_payAt 220 p (R (10 + 3 * p)) (w32 (R 6 + k)) (QS u R W V M) = some (gaS S p k q, QS u R W V M) := by
  obtain ⟨t, l1, l2, l3, l4, l5, l6⟩ := l
  have h1 := QS_shp R W V M hs
  have r5 : R 5 = S 5 := t.2.2.1 5 (by omega)
  have r6 : R 6 = S 6 := t.2.2.1 6 (by omega)
  have ww : WW R := fun w hw => by
    rw [r5] at hw
    rw [t.2.2.1 (131 + 4 * w) (by omega)]
    exact l4 w hw
  have z := y_payG h1 (by rw [QS_230, r5]; exact l2) (by rw [QS_230]; exact ww) p q (S 6 + k)
  rw [QS_230, r5, gpS_cg (fun j hj => t.2.2.1 j (by omega))] at z
  have e : w32 (R 6 + (k : Int)) = S 6 + k := by
    rw [r6, w32_id ⟨by omega, by omega⟩]
  rw [t.1, e]
  exact z
/-- what is done once a day's crossing is chosen -/
def tlF (K : Nat → Int → Int → Int → Int → hM) (p : Int) (nn e k : Int) : hM :=
  hif (k ≥ ((w32 (nn - 1)))) (
hcallV 10 220 (m_X10_personOf 220 p 0) fun v12 =>
  hcallV 10 220 (m_X10_personOf 220 p 1) fun v13 =>
  hif (v12 ≠ v13) (
K 220 p nn e k) (
hgI 10 220 28 fun v14 =>
  hif (e ≤ v14) (
K 220 p nn e k) (
hcallV 10 220 (m_X10_keepsRow 220 nn e) fun _ =>
  K 220 p nn e k))) (
hlet (w32 (k + 1)) fun (w15 : Int) =>
  hgR 10 220 26 fun v16 =>
  hsI 20 v16 w15 ((-2)) <|
  K 220 p nn e w15)
theorem y_dnB {u : hS} (hs : shp u) {S X : Nat → Int} {p B nn : Nat} {h q : Int} {R L : Nat → Int} (l : lR S X p B nn h R q L) {k c : Nat} (hk : k < nn) (cB : c < B) (oc : 0 < L c) (q0 : 0 ≤ qEnd S (94 + 2 * c) q) (K : Nat → Int → Int → Int → Int → hM) {e : Int} (he : 0 ≤ e ∧ e ≤ 800 * k) (W V : Nat → Int) (M : Int) (g : gaS S p k (qEnd S (94 + 2 * c) q) ≤ 800 ∧ 0 ≤ gaS S p k (qEnd S (94 + 2 * c) q)) : m_X10_findsLife_L104 K 220 p nn e k 234 k (c : Int) (QS u R W V M) = tlF K p nn (e + gaS S p k (qEnd S (94 + 2 * c) q)) k (QS u (gvR R p c) (sup W k (c : Int)) V M) := by
  have hp := l.1.2.2.2.2.2.1
  have B9 := l.1.2.2.2.2.2.2
  have n6 := l.2.2.2.2.2.2
  have k8 : k < 8 := by omega
  have h1 := QS_shp R W V M hs
  have h2 := QS_shp R (sup W k (c : Int)) V M hs
  have h3 := QS_shp (gvR R p c) (sup W k (c : Int)) V M hs
  have r2 : R 2 = (B : Int) := by rw [l.1.2.2.1 2 (by omega)]; exact l.2.2.2.2.2.1
  have go := y_goesOver h2 hp (b := c) (by omega)
  rw [QS_230, QS_R] at go
  have po := y_personOf0 h3 hp
  rw [QS_230] at po
  have pa := (l.go cB oc).pay hs (sup W k (c : Int)) V M (k := k) (by omega)
  have w1 : w32 (e + gaS S p k (qEnd S (94 + 2 * c) q)) = e + gaS S p k (qEnd S (94 + 2 * c) q) := w32_id ⟨by omega, by omega⟩
  simp only [m_X10_findsLife_L104, hlet_p, hif_p, hgR_k, hgI_k, hcallV_b, hbind_p, haI_n, haI_2, haI_6, hsI_n, kk_220 h1, kk_234 h1, ln_234 h1, k8, QS_W, kk_220 h2, rf_220_26 h2, kk_234 h2, ln_234 h2, rf_220_20 h2, kk_230 h2, ln_230 h2, lt_c 2 160 rfl, QS_234, QS_230, sup_s, r2, go, kk_220 h3, po, rf_220_20 h3, kk_230 h3, ln_230 h3, lt_c 6 160 rfl, pa, w1]
  rw [if_pos (by omega)]
  unfold tlF
  simp only [hlet_p, hif_p, hgR_k, hgI_k, hcallV_b, hbind_p, po, kk_220 h3, rf_220_26 h3]
theorem y_dnS {u : hS} (hs : shp u) {S X : Nat → Int} {p B nn : Nat} {h q : Int} {R L : Nat → Int} (l : lR S X p B nn h R q L) {k : Nat} (hk : k < nn) (K : Nat → Int → Int → Int → Int → hM) {e : Int} (he : 0 ≤ e ∧ e ≤ 800 * k) (W V : Nat → Int) (M : Int) (g : gaS S p k q ≤ 800 ∧ 0 ≤ gaS S p k q) : m_X10_findsLife_L104 K 220 p nn e k 234 k (-1) (QS u R W V M) = tlF K p nn (e + gaS S p k q) k (QS u R (sup W k (-1)) V M) := by
  have hp := l.1.2.2.2.2.2.1
  have B9 := l.1.2.2.2.2.2.2
  have n6 := l.2.2.2.2.2.2
  have k8 : k < 8 := by omega
  have h1 := QS_shp R W V M hs
  have h2 := QS_shp R (sup W k (-1)) V M hs
  have r2 : R 2 = (B : Int) := by rw [l.1.2.2.1 2 (by omega)]; exact l.2.2.2.2.2.1
  have go : m_X10_goesOver 220 p (-1) (QS u R (sup W k (-1)) V M) = some (0, QS u R (sup W k (-1)) V M) := by
    simp only [m_X10_goesOver, hif_p, hret_p]
    rw [if_neg (by decide)]
  have po := y_personOf0 h2 hp
  rw [QS_230] at po
  have pa := l.pay hs (sup W k (-1)) V M (k := k) (by omega)
  have w1 : w32 (e + gaS S p k q) = e + gaS S p k q := w32_id ⟨by omega, by omega⟩
  simp only [m_X10_findsLife_L104, hlet_p, hif_p, hgR_k, hgI_k, hcallV_b, hbind_p, haI_n, haI_2, haI_6, hsI_n, kk_220 h1, kk_234 h1, ln_234 h1, k8, QS_W, kk_220 h2, rf_220_26 h2, kk_234 h2, ln_234 h2, rf_220_20 h2, kk_230 h2, ln_230 h2, lt_c 2 160 rfl, QS_234, QS_230, sup_s, r2, go, po, lt_c 6 160 rfl, pa, w1]
  rw [if_pos (by omega)]
  unfold tlF
  simp only [hlet_p, hif_p, hgR_k, hgI_k, hcallV_b, hbind_p, po, kk_220 h2, rf_220_26 h2]
theorem y_upF {u : hS} (hs : shp u) {p k B nn : Nat} {R : Nat → Int} (k8 : k < 8) (hB : R 2 = (B : Int)) (K : Nat → Int → Int → Int → Int → hM) (e : Int) (W V : Nat → Int) (M : Int) : m_X10_findsLife_L104 K 220 p nn e k 234 k (B : Int) (QS u R W V M) = K 220 p nn e ((k : Int) - 1) (QS u R (sup (sup W k (B : Int)) k (-2)) V M) := by
  have h1 := QS_shp R W V M hs
  have h2 := QS_shp R (sup W k (B : Int)) V M hs
  have w1 : w32 ((k : Int) + -1) = (k : Int) - 1 := by
    rw [w32_id ⟨by omega, by omega⟩]
    omega
  simp only [m_X10_findsLife_L104, hgI_k, hgR_k, hpI_k, hpR_k, hpZ_k, haI_k, haR_k, hsI_k, hsZ_k, hlen_k, hlet_p, hret_p, hretZ_0, hretZ_1, hif_p, okk_setV, okk_setF, nV, nF, fV, vF, haI_n, haI_2, hsI_n, kk_220 h1, kk_234 h1, ln_234 h1, k8, QS_W, kk_220 h2, rf_220_26 h2, kk_234 h2, ln_234 h2, rf_220_20 h2, kk_230 h2, ln_230 h2, lt_c 2 160 rfl, QS_234, QS_230, sup_s, hB, w1]
  rw [if_neg (fun y => y rfl)]
theorem y_hdN {u : hS} (hs : shp u) {p nn k n : Nat} {e : Int} {R W V : Nat → Int} {M : Int} (k8 : k < 8) (h : W k = -2) : m_X10_findsLife_L18 (n + 1) 220 p nn e k (QS u R W V M) = m_X10_findsLife_L104 (m_X10_findsLife_L18 n) 220 p nn e k 234 k (-1) (QS u R W V M) := by
  have h1 := QS_shp R W V M hs
  simp only [m_X10_findsLife_L18, m_X10_findsLife_L70, hgI_k, hgR_k, hpI_k, hpR_k, hpZ_k, haI_k, haR_k, hsI_k, hsZ_k, hlen_k, hlet_p, hret_p, hretZ_0, hretZ_1, hif_p, okk_setV, okk_setF, nV, nF, fV, vF, haI_n, kk_220 h1, rf_220_26 h1, kk_234 h1, ln_234 h1, k8, QS_234, h]
  rw [if_neg (by omega), if_pos (by decide), if_neg (by decide)]
theorem y_hdB {u : hS} (hs : shp u) {S X : Nat → Int} {p B nn : Nat} {h q : Int} {R L : Nat → Int} (hX : hV u 231 = X) (l : lR S X p B nn h R q L) {k n m i : Nat} (hk : k < nn) (hi : i + m = B) {e : Int} {W V : Nat → Int} {M : Int} (hw : W k = (i : Int) - 1) (K : Nat → Int → Int → Int → Int → hM) : m_X10_findsLife_L70 K 220 p nn e k (QS u R W V M) = m_X10_findsLife_L104 K 220 p nn e k 234 k (nxB (opQ S q L) m i : Int) (QS u R W V M) := by
  have h6 := l.1.2.2.2.2.2.1
  have h7 := l.1.2.2.2.2.2.2
  have n6 := l.2.2.2.2.2.2
  have k8 : k < 8 := by omega
  have r2 : R 2 = (B : Int) := by rw [l.1.2.2.1 2 (by omega)]; exact l.2.2.2.2.2.1
  have h1 := QS_shp R W V M hs
  have nb := y_nextBridge h1 h6 (by rw [QS_230]; exact r2) h7 (o := opQ S q L) (fun b hb => by rw [QS_230, QS_n (by decide) (by decide) (by decide) (by decide), hX]; exact l.1.op b hb) (i := i) (m := m) hi hw
  simp only [m_X10_findsLife_L70, hgI_k, hgR_k, hpI_k, hpR_k, hpZ_k, haI_k, haR_k, hsI_k, hsZ_k, hlen_k, hlet_p, hret_p, hretZ_0, hretZ_1, hif_p, okk_setV, okk_setF, nV, nF, fV, vF, hcallV_b, hbind_p, haI_n, kk_220 h1, rf_220_26 h1, kk_234 h1, ln_234 h1, k8, QS_234, nb]
  rw [if_pos (by rw [hw]; omega)]
/-- back from a child -/
theorem y_bkB {u : hS} (hs : shp u) {S X : Nat → Int} {p B nn : Nat} {h q : Int} {R L : Nat → Int} (l : lR S X p B nn h R q L) {k n c : Nat} (hk : k < nn) (cB : c < B) (oc : 0 < L c) (q0 : 0 ≤ qEnd S (94 + 2 * c) q) {e : Int} (he : 0 ≤ e ∧ e ≤ 800 * k) {W V : Nat → Int} {M : Int} (hw : W k = (c : Int)) (g : gaS S p k (qEnd S (94 + 2 * c) q) ≤ 800 ∧ 0 ≤ gaS S p k (qEnd S (94 + 2 * c) q)) : m_X10_findsLife_L18 (n + 1) 220 p nn (e + gaS S p k (qEnd S (94 + 2 * c) q)) k (QS u (gvR R p c) W V M) = m_X10_findsLife_L70 (m_X10_findsLife_L18 n) 220 p nn e k (QS u R W V M) := by
  have hp := l.1.2.2.2.2.2.1
  have B9 := l.1.2.2.2.2.2.2
  have n6 := l.2.2.2.2.2.2
  have k8 : k < 8 := by omega
  have h1 := QS_shp (gvR R p c) W V M hs
  have po := y_personOf0 h1 hp
  rw [QS_230] at po
  have pa := (l.go cB oc).pay hs W V M (k := k) (by omega)
  have gb := y_goesBack h1 hp (b := c) (by omega)
  rw [QS_230, QS_R, l.1.bk cB q0] at gb
  have w1 : w32 (e + gaS S p k (qEnd S (94 + 2 * c) q) - gaS S p k (qEnd S (94 + 2 * c) q)) = e := by
    rw [w32_id ⟨by omega, by omega⟩]
    omega
  simp only [m_X10_findsLife_L18, hgI_k, hgR_k, hpI_k, hpR_k, hpZ_k, haI_k, haR_k, hsI_k, hsZ_k, hlen_k, hlet_p, hret_p, hretZ_0, hretZ_1, hif_p, okk_setV, okk_setF, nV, nF, fV, vF, hcallV_b, hbind_p, haI_n, haI_6, kk_220 h1, rf_220_26 h1, rf_220_20 h1, kk_234 h1, ln_234 h1, kk_230 h1, ln_230 h1, lt_c 6 160 rfl, k8, QS_234, QS_230, hw, po, pa, gb, w1]
  rw [if_neg (by omega), if_neg (by omega)]
theorem y_bkS {u : hS} (hs : shp u) {S X : Nat → Int} {p B nn : Nat} {h q : Int} {R L : Nat → Int} (l : lR S X p B nn h R q L) {k n : Nat} (hk : k < nn) {e : Int} (he : 0 ≤ e ∧ e ≤ 800 * k) {W V : Nat → Int} {M : Int} (hw : W k = -1) (g : gaS S p k q ≤ 800 ∧ 0 ≤ gaS S p k q) : m_X10_findsLife_L18 (n + 1) 220 p nn (e + gaS S p k q) k (QS u R W V M) = m_X10_findsLife_L70 (m_X10_findsLife_L18 n) 220 p nn e k (QS u R W V M) := by
  have hp := l.1.2.2.2.2.2.1
  have B9 := l.1.2.2.2.2.2.2
  have n6 := l.2.2.2.2.2.2
  have k8 : k < 8 := by omega
  have h1 := QS_shp R W V M hs
  have po := y_personOf0 h1 hp
  rw [QS_230] at po
  have pa := l.pay hs W V M (k := k) (by omega)
  have gb : m_X10_goesBack 220 p (-1) (QS u R W V M) = some (0, QS u R W V M) := by
    simp only [m_X10_goesBack, hif_p, hret_p]
    rw [if_neg (by decide)]
  have w1 : w32 (e + gaS S p k q - gaS S p k q) = e := by
    rw [w32_id ⟨by omega, by omega⟩]
    omega
  simp only [m_X10_findsLife_L18, hgI_k, hgR_k, hpI_k, hpR_k, hpZ_k, haI_k, haR_k, hsI_k, hsZ_k, hlen_k, hlet_p, hret_p, hretZ_0, hretZ_1, hif_p, okk_setV, okk_setF, nV, nF, fV, vF, hcallV_b, hbind_p, haI_n, haI_6, kk_220 h1, rf_220_26 h1, rf_220_20 h1, kk_234 h1, ln_234 h1, kk_230 h1, ln_230 h1, lt_c 6 160 rfl, k8, QS_234, QS_230, hw, po, pa, gb, w1]
  rw [if_neg (by omega), if_neg (by decide)]
