/-! the reference's best row of days, searched -/
theorem liC_skip {S : Nat → Int} {G : Nat → Int → Int} {rc : lRc} {k : Nat} {q : Int} {L : Nat → Int} {e : Int} {r : Nat → Int} : ∀ m i z, liC S G opF ctT rc k q L e r m i z = liC S G opF ctT rc k q L e r (i + m - nxB (opQ S q L) m i) (nxB (opQ S q L) m i) z := by
  intro m
  induction m with
  | zero =>
    intro i z
    show z = liC S G opF ctT rc k q L e r (i + 0 - i) i z
    rw [show i + 0 - i = 0 by omega]
    rfl
  | succ m ih =>
    intro i z
    show _ = liC S G opF ctT rc k q L e r (i + (m + 1) - (if opQ S q L i = true then i else nxB (opQ S q L) m (i + 1))) (if opQ S q L i = true then i else nxB (opQ S q L) m (i + 1)) z
    by_cases h : opQ S q L i = true
    · rw [if_pos h, show i + (m + 1) - i = m + 1 by omega]
    · rw [if_neg h, liC_s]
      have s : stL S G opF ctT rc k q L e r i z = z := by
        unfold stL
        rw [if_neg (fun y => h (decide_eq_true ⟨y.1, of_decide_eq_true y.2.1⟩))]
      rw [s, ih (i + 1) z, show i + 1 + m = i + (m + 1) by omega]
def chF (u : hS) (S X : Nat → Int) (p B nn : Nat) (h : Int) (d k g : Nat) : Prop := ∀ (q : Int) (L R W V r : Nat → Int) (z : lZ) (e : Int) (n : Nat), lR S X p B nn h R q L → plM nn (k + 1) W V r z → 0 ≤ e ∧ e ≤ 800 * ((k + 1 : Nat) : Int) → g < n → ∃ n' W' V', n ≤ n' + g ∧ tlF (m_X10_findsLife_L18 n) p nn e k (QS u R W V z.1) = m_X10_findsLife_L18 n' 220 p nn e k (QS u R W' V' (liN S B (gaS S p) h opF ctT d (k + 1) q L e r z).1) ∧ plM nn (k + 1) W' V' r (liN S B (gaS S p) h opF ctT d (k + 1) q L e r z)
theorem y_lvB {u : hS} (hs : shp u) {S X : Nat → Int} {p B nn : Nat} {h : Int} (hX : hV u 231 = X) (gi : ∀ k q, 0 ≤ gaS S p k q ∧ gaS S p k q ≤ 800) {d k g : Nat} (hk : k < nn) (child : chF u S X p B nn h d k g) {q : Int} {L R : Nat → Int} (l : lR S X p B nn h R q L) {e : Int} (he : 0 ≤ e ∧ e ≤ 800 * k) (r : Nat → Int) : ∀ (M m i : Nat) (W V : Nat → Int) (z : lZ) (n : Nat), m ≤ M → i + m = B → plM nn k W V r z → W k = (i : Int) - 1 → m * (g + 1) < n → ∃ n' W' V', n ≤ n' + m * (g + 1) ∧ m_X10_findsLife_L70 (m_X10_findsLife_L18 n) 220 p nn e k (QS u R W V z.1) = m_X10_findsLife_L18 n' 220 p nn e ((k : Int) - 1) (QS u R W' V' (liC S (gaS S p) opF ctT (liN S B (gaS S p) h opF ctT d (k + 1)) k q L e r m i z).1) ∧ plM nn k W' V' r (liC S (gaS S p) opF ctT (liN S B (gaS S p) h opF ctT d (k + 1)) k q L e r m i z) := by
  have n6 := l.2.2.2.2.2.2
  have k8 : k < 8 := by omega
  have r2 : R 2 = (B : Int) := by rw [l.1.2.2.1 2 (by omega)]; exact l.2.2.2.2.2.1
  intro M
  induction M with
  | zero =>
    intro m i W V z n hm hi pm hw hn
    obtain rfl : m = 0 := by omega
    have iB : i = B := by omega
    refine ⟨n, sup (sup W k (B : Int)) k (-2), V, by omega, ?_, fun j hj => by rw [sup_n (by omega), sup_n (by omega)]; exact pm.1 j hj, pm.2⟩
    rw [y_hdB hs hX l (n := n) hk hi hw]
    have e0 : nxB (opQ S q L) 0 i = B := iB
    rw [e0, y_upF hs k8 r2]
    rfl
  | succ M ihM =>
    intro m i W V z n hm hi pm hw hn
    rw [y_hdB hs hX l (n := n) hk hi hw, liC_skip m i z]
    have nb := nxB_in (opQ S q L) m i
    obtain ⟨c, hc⟩ : ∃ c, c = nxB (opQ S q L) m i := ⟨_, rfl⟩
    rw [← hc] at nb ⊢
    by_cases cB : c = B
    · refine ⟨n, sup (sup W k (B : Int)) k (-2), V, by omega, ?_, ?_⟩
      · rw [show i + m - c = 0 by omega, cB, y_upF hs k8 r2]
        rfl
      · rw [show i + m - c = 0 by omega]
        exact ⟨fun j hj => by rw [sup_n (by omega), sup_n (by omega)]; exact pm.1 j hj, pm.2⟩
    have oc := of_decide_eq_true (nb.2.2 (by omega))
    have cB' : c < B := by omega
    obtain ⟨m', hm'⟩ : ∃ m', i + m - c = m' + 1 := ⟨i + m - c - 1, by omega⟩
    rw [hm', liC_s]
    have gq := gi k (qEnd S (94 + 2 * c) q)
    have st : stL S (gaS S p) opF ctT (liN S B (gaS S p) h opF ctT d (k + 1)) k q L e r c z = liN S B (gaS S p) h opF ctT d (k + 1) (qEnd S (94 + 2 * c) q) (lsA L c) (e + gaS S p k (qEnd S (94 + 2 * c) q)) (sup r k (c : Int)) z := by
      unfold stL
      rw [if_pos ⟨oc.1, decide_eq_true oc.2, rfl⟩]
    rw [st]
    have mle : (m' + 1) * (g + 1) ≤ m * (g + 1) := Nat.mul_le_mul_right _ (by omega)
    rw [Nat.succ_mul] at mle
    rw [y_dnB hs l hk cB' oc.2 oc.1 _ he W V z.1 ⟨gq.2, gq.1⟩]
    obtain ⟨n1, W1, V1, a1, a2, a3⟩ := child (qEnd S (94 + 2 * c) q) (lsA L c) (gvR R p c) (sup W k (c : Int)) V (sup r k (c : Int)) z (e + gaS S p k (qEnd S (94 + 2 * c) q)) n (l.go cB' oc.2) ⟨fun j hj => by
      by_cases x : j = k
      · rw [x, sup_s, sup_s]
      · rw [sup_n x, sup_n x]
        exact pm.1 j (by omega), pm.2⟩ (by omega) (by omega)
    obtain ⟨n1, rfl⟩ : ∃ x, n1 = x + 1 := ⟨n1 - 1, by omega⟩
    have w1 : W1 k = (c : Int) := by
      rw [a3.1 k (by omega), sup_s]
    have pm1 : plM nn k W1 V1 r (liN S B (gaS S p) h opF ctT d (k + 1) (qEnd S (94 + 2 * c) q) (lsA L c) (e + gaS S p k (qEnd S (94 + 2 * c) q)) (sup r k (c : Int)) z) := ⟨fun j hj => by rw [a3.1 j (by omega), sup_n (by omega)], a3.2⟩
    obtain ⟨n', W', V', b1, b2, b3⟩ := ihM m' (c + 1) W1 V1 _ n1 (by omega) (by omega) pm1 (by rw [w1]; omega) (by omega)
    refine ⟨n', W', V', by omega, ?_, b3⟩
    rw [a2, y_bkB hs l hk cB' oc.2 oc.1 he w1 ⟨gq.2, gq.1⟩, b2]
/-- one whole node -/
theorem y_ndF {u : hS} (hs : shp u) {S X : Nat → Int} {p B nn : Nat} {h : Int} (hX : hV u 231 = X) (gi : ∀ k q, 0 ≤ gaS S p k q ∧ gaS S p k q ≤ 800) {d k g : Nat} (hk : k < nn) (child : chF u S X p B nn h d k g) {q : Int} {L R : Nat → Int} (l : lR S X p B nn h R q L) {e : Int} (he : 0 ≤ e ∧ e ≤ 800 * k) {r W V : Nat → Int} {z : lZ} {n : Nat} (pm : plM nn k W V r z) (hw : W k = -2) (hn : 10 * (g + 1) < n) : ∃ n' W' V', n ≤ n' + 10 * (g + 1) ∧ m_X10_findsLife_L18 (n + 1) 220 p nn e k (QS u R W V z.1) = m_X10_findsLife_L18 n' 220 p nn e ((k : Int) - 1) (QS u R W' V' (liN S B (gaS S p) h opF ctT (d + 1) k q L e r z).1) ∧ plM nn k W' V' r (liN S B (gaS S p) h opF ctT (d + 1) k q L e r z) := by
  have n6 := l.2.2.2.2.2.2
  have B9 := l.1.2.2.2.2.2.2
  have k8 : k < 8 := by omega
  have gq := gi k q
  rw [y_hdN hs k8 hw, y_dnS hs l hk _ he W V z.1 ⟨gq.2, gq.1⟩]
  obtain ⟨n1, W1, V1, a1, a2, a3⟩ := child q L R (sup W k (-1)) V (sup r k (-1)) z (e + gaS S p k q) n l ⟨fun j hj => by
    by_cases x : j = k
    · rw [x, sup_s, sup_s]
    · rw [sup_n x, sup_n x]
      exact pm.1 j (by omega), pm.2⟩ (by omega) (by omega)
  obtain ⟨n1, rfl⟩ : ∃ x, n1 = x + 1 := ⟨n1 - 1, by omega⟩
  have w1 : W1 k = -1 := by
    rw [a3.1 k (by omega), sup_s]
  have st : stay (gaS S p) ctT (liN S B (gaS S p) h opF ctT d (k + 1)) k q L e r z = liN S B (gaS S p) h opF ctT d (k + 1) q L (e + gaS S p k q) (sup r k (-1)) z := by
    unfold stay
    rw [if_pos (show ctT k q e z.1 = true from rfl)]
  have pm1 : plM nn k W1 V1 r (liN S B (gaS S p) h opF ctT d (k + 1) q L (e + gaS S p k q) (sup r k (-1)) z) := ⟨fun j hj => by rw [a3.1 j (by omega), sup_n (by omega)], a3.2⟩
  have ble : B * (g + 1) ≤ 9 * (g + 1) := Nat.mul_le_mul_right _ B9
  obtain ⟨n', W', V', b1, b2, b3⟩ := y_lvB hs hX gi hk child l he r B B 0 W1 V1 _ n1 (Nat.le_refl _) (by omega) pm1 (by rw [w1]; rfl) (by omega)
  refine ⟨n', W', V', by omega, ?_, ?_⟩
  · rw [a2, y_bkS hs l hk he w1 ⟨gq.2, gq.1⟩, b2, liN_s, st]
  · rw [liN_s, st]
    exact b3
def cstL : Nat → Nat
  | 0 => 0
  | d + 1 => 1 + 10 * (cstL d + 1)
theorem y_chF {u : hS} (hs : shp u) {S X : Nat → Int} {p B nn : Nat} {h : Int} (hX : hV u 231 = X) (gi : ∀ k q, 0 ≤ gaS S p k q ∧ gaS S p k q ≤ 800) : ∀ (d k : Nat), k + d + 1 = nn → chF u S X p B nn h d k (cstL d) := by
  intro d
  induction d with
  | zero =>
    intro k hk q L R W V r z e n l pm he hn
    have hp := l.1.2.2.2.2.2.1
    have n6 := l.2.2.2.2.2.2
    have h1 := QS_shp R W V z.1 hs
    have p0 := y_personOf0 h1 hp
    have p1 := y_personOf1 h1 hp
    rw [QS_230] at p0 p1
    rw [l.1.1] at p0
    rw [l.2.1] at p1
    have wn : (k : Int) ≥ w32 ((nn : Int) - 1) := by
      rw [w32_id ⟨by omega, by omega⟩]
      omega
    have lf : liN S B (gaS S p) h opF ctT 0 (k + 1) q L e r z = if q = h ∧ z.1 < e then (e, r) else z := rfl
    rw [lf]
    by_cases c : q = h ∧ z.1 < e
    · obtain ⟨V', v1, v2⟩ := y_keeps hs n6.2 R W V z.1 e
      rw [if_pos c]
      refine ⟨n, W, V', by omega, ?_, pm.1, fun j hj => by rw [v2 j hj]; exact pm.1 j (by omega)⟩
      unfold tlF
      simp only [hlet_p, hif_p, hgR_k, hgI_k, hcallV_b, hbind_p, kk_220 h1, p0, p1, QS_28, v1]
      rw [if_pos wn, if_neg (fun y => y c.1), if_neg (by omega)]
    · rw [if_neg c]
      refine ⟨n, W, V, by omega, ?_, pm⟩
      unfold tlF
      simp only [hlet_p, hif_p, hgR_k, hgI_k, hcallV_b, hbind_p, kk_220 h1, p0, p1, QS_28]
      rw [if_pos wn]
      by_cases y : q = h
      · rw [if_neg (fun x => x y), if_pos (by
          apply Classical.byContradiction
          intro o
          exact c ⟨y, by omega⟩)]
      · rw [if_pos y]
  | succ d ih =>
    intro k hk q L R W V r z e n l pm he hn
    have n6 := l.2.2.2.2.2.2
    have h1 := QS_shp R W V z.1 hs
    have cs : cstL (d + 1) = 1 + 10 * (cstL d + 1) := rfl
    rw [cs] at hn ⊢
    obtain ⟨n, rfl⟩ : ∃ x, n = x + 1 := ⟨n - 1, by omega⟩
    have k18 : k + 1 < 8 := by omega
    obtain ⟨n', W', V', a1, a2, a3⟩ := y_ndF hs hX gi (d := d) (k := k + 1) (g := cstL d) (by omega) (ih (k + 1) (by omega)) l (e := e) he (r := r) (W := sup W (k + 1) (-2)) (V := V) (z := z) (n := n) ⟨fun j hj => by rw [sup_n (by omega)]; exact pm.1 j hj, pm.2⟩ sup_s (by omega)
    refine ⟨n', W', V', by omega, ?_, a3⟩
    have ek : (((k + 1 : Nat) : Int) - 1) = (k : Int) := by omega
    rw [ek] at a2
    rw [← a2]
    have wn : ¬ (k : Int) ≥ w32 ((nn : Int) - 1) := by
      rw [w32_id ⟨by omega, by omega⟩]
      omega
    unfold tlF
    simp only [hlet_p, hif_p, hgR_k, hsI_n, kk_220 h1, rf_220_26 h1, kk_234 h1, ln_234 h1, k18, ix_s (show k < 1000000 by omega), QS_W]
    rw [if_neg wn]
theorem cst_5 : ∀ d, d < 6 → 10 * (cstL d + 1) + 10 < 999999999 := by decide
theorem y_findsLife {u : hS} (hs : shp u) {S X : Nat → Int} {p B nn : Nat} {h q : Int} {L : Nat → Int} (hS : hV u 230 = S) (hX : hV u 231 = X) (gi : ∀ k q, 0 ≤ gaS S p k q ∧ gaS S p k q ≤ 800) (l : lR S X p B nn h S q L) (r V0 : Nat → Int) (hV0 : ∀ j, j < nn → hV u 235 j = V0 j) : ∃ W V, m_X10_findsLife 220 p nn u = some (0, QS u S W V (liN S B (gaS S p) h opF ctT nn 0 q L 0 r (-1, V0)).1) ∧ ∀ j, j < nn → V j = (liN S B (gaS S p) h opF ctT nn 0 q L 0 r (-1, V0)).2 j := by
  have n6 := l.2.2.2.2.2.2
  obtain ⟨d, hd⟩ : ∃ d, nn = d + 1 := ⟨nn - 1, by omega⟩
  have c5 := cst_5 d (by omega)
  obtain ⟨n', W', V', a1, a2, a3⟩ := y_ndF hs hX gi (d := d) (k := 0) (g := cstL d) (by omega) (y_chF hs hX gi d 0 (by omega)) l (e := 0) ⟨by omega, by omega⟩ (r := r) (W := sup (hV u 234) 0 (-2)) (V := hV u 235) (z := ((-1 : Int), V0)) (n := 999999999) ⟨fun j hj => by omega, hV0⟩ sup_s (by omega)
  obtain ⟨n', rfl⟩ : ∃ x, n' = x + 1 := ⟨n' - 1, by omega⟩
  rw [← hd] at a2 a3
  refine ⟨W', V', ?_, a3.2⟩
  have fin : m_X10_findsLife_L18 (n' + 1) 220 p nn 0 (((0 : Nat) : Int) - 1) (QS u S W' V' (liN S B (gaS S p) h opF ctT nn 0 q L 0 r (-1, V0)).1) = some (0, QS u S W' V' (liN S B (gaS S p) h opF ctT nn 0 q L 0 r (-1, V0)).1) := by
    simp only [m_X10_findsLife_L18, hgI_k, hgR_k, hpI_k, hpR_k, hpZ_k, haI_k, haR_k, hsI_k, hsZ_k, hlen_k, hlet_p, hret_p, hretZ_0, hretZ_1, hif_p, okk_setV, okk_setF, nV, nF, fV, vF]
    rw [if_pos (by decide)]
  have all := a2.trans fin
  rw [← all]
  have st : QS u S (sup (hV u 234) 0 (-2)) (hV u 235) (-1) = hsetV (hsetV u 220 28 (-1)) 234 0 (-2) := by
    unfold QS
    have e1 : hput u 230 S = u := by rw [← hS, hput_self]
    have e2 : hV (hput u 234 (sup (hV u 234) 0 (-2))) 235 = hV u 235 := hV_put_n (by decide)
    rw [e1, ← e2, hput_self, setV_put1 u, setV_put1 (hput u 220 (sup (hV u 220) 28 (-1))), hV_put_n (show 234 ≠ 220 by decide), put_comm (show 234 ≠ 220 by decide)]
  show _ = m_X10_findsLife_L18 (999999999 + 1) 220 p nn 0 ((0 : Nat) : Int) (QS u S (sup (hV u 234) 0 (-2)) (hV u 235) (-1))
  rw [st]
  simp only [m_X10_findsLife, hgI_k, hgR_k, hpI_k, hpR_k, hpZ_k, haI_k, haR_k, hsI_k, hsZ_k, hlen_k, hlet_p, hret_p, hretZ_0, hretZ_1, hif_p, okk_setV, okk_setF, nV, nF, fV, vF, kk_220 hs, kk_234 hs, rf_220_26 hs, ln_234 hs]
  rw [hsI_k (kk_234 (show shp (hsetV u 220 28 (-1)) from hs)) (by decide) (by rw [ln_234 (show shp (hsetV u 220 28 (-1)) from hs)]; decide)]
  rfl
