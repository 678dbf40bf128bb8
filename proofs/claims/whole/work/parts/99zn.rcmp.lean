/-! two sums compared, both readers -/
theorem tk.k {cd op : Nat → Int} {M a : Nat} {ts : List Bool} {k k' : Nat} (h : tk cd op M a ts k) (h1 : k ≤ k') (h2 : k' ≤ 60) : tk cd op M a ts k' := ⟨h.1, h.2.1, h.2.2.1, by have := h.2.2.2.1; omega, h2⟩
def eq2 (B : Nat → Int) (n p : Nat) : Bool := decide (chr B n p ≠ 61 ∧ p + 1 < n ∧ B (p + 1) = 61)
theorem eq2_i {B : Nat → Int} {n p : Nat} (h : eq2 B n p = true) : chr B n p ≠ 61 ∧ p + 1 < n ∧ B (p + 1) = 61 := of_decide_eq_true h
theorem eq2_m {B : Nat → Int} {n p : Nat} (h : chr B n p ≠ 61 ∧ p + 1 < n ∧ B (p + 1) = 61) : eq2 B n p = true := decide_eq_true h
def sgC (B : Nat → Int) (n p : Nat) : Int := if eq2 B n p then (if chr B n p = 60 then 108 else 103) else chr B n p
def sgP (B : Nat → Int) (n p : Nat) : Nat := if eq2 B n p then p + 2 else p + 1
def sgX (B : Nat → Int) (n p : Nat) : Int := if chr B n p = 60 then (if eq2 B n p then 1 else 0) else if chr B n p = 61 then 2 else if eq2 B n p then 3 else 4
theorem sgC_n {B : Nat → Int} {n p : Nat} (h : chr B n p = 60 ∨ chr B n p = 61 ∨ chr B n p = 62) : isCmp (sgC B n p) ∧ sgC B n p ≠ 0 ∧ sgC B n p ≠ 1 ∧ ∀ o, w32 (w32 (6 + sgX B n p) + w32 (16 * 0)) = sgn (sgC B n p) o := by
  unfold sgC sgX
  by_cases e : eq2 B n p
  · have ne := (eq2_i e).1
    rcases h with h | h | h
    · simp only [if_pos e, h, if_pos]
      exact ⟨by decide, by decide, by decide, fun _ => rfl⟩
    · exact absurd h ne
    · rw [if_pos e, h, if_neg (by decide), if_neg (by decide), if_neg (by decide), if_pos e]
      exact ⟨by decide, by decide, by decide, fun _ => rfl⟩
  · rcases h with h | h | h
    · rw [if_neg e, h, if_pos rfl, if_neg e]
      exact ⟨by decide, by decide, by decide, fun _ => rfl⟩
    · rw [if_neg e, h, if_neg (by decide), if_pos rfl]
      exact ⟨by decide, by decide, by decide, fun _ => rfl⟩
    · rw [if_neg e, h, if_neg (by decide), if_neg (by decide), if_neg e]
      exact ⟨by decide, by decide, by decide, fun _ => rfl⟩
theorem sgP_b {B : Nat → Int} {n p : Nat} (h : p < n) : p < sgP B n p ∧ sgP B n p ≤ n := by
  unfold sgP
  by_cases e : eq2 B n p
  · rw [if_pos e]
    have := (eq2_i e).2.1
    omega
  · rw [if_neg e]
    omega
theorem x_sign {n : Nat} {B : Nat → Int} {u : hS} (h : cTp n B u) {Q : Nat} (ru : RuA u Q) (q54 : 54 ≤ Q) (cd op : Nat → Int) (M : Int) {k : Nat} (k6 : k ≤ 60) (s : Int) {p : Nat} (hp : p ≤ n) (ss : sk B n p = p) (hc : chr B n p = 60 ∨ chr B n p = 61 ∨ chr B n p = 62) : m_X3_readSign Q 2 (tS (RM u Q cd op M k) (p : Int) s 0) = some (sgC B n p, tS (RM u Q cd op M ((k + 1 : Nat) : Int)) ((sgP B n p : Nat) : Int) s (if k < 60 then 0 else ((1 + 8 * p + 3 : Nat) : Int))) := by
  have hs := h.1
  have n4 := h.2.2.2
  have lt : p < n := chr_lt (B := B) (by omega)
  have p6 : p < 1000000 := by omega
  have p7 : p + 1 < 1000000 := by omega
  have k2 : ∀ cd op (M k P s f : Int), okk (tS (RM u Q cd op M k) P s f) 2 6 := fun _ _ _ _ _ _ _ => by rw [tS_k, RM_k]; exact kk_2 hs
  have N := c_next (RM_tp h q54 cd op M k) s 0 hp
  rw [ss] at N
  have C := x_count ru q54 hs cd op M k6 (show p ≤ 400 by omega) (p : Int) s 0
  have l45 : m_X3_readSign_L45 Q 2 (chr B n p) (p : Int) (tS (RM u Q cd op M k) (p : Int) s 0) = some (sgC B n p, tS (RM u Q cd op M ((k + 1 : Nat) : Int)) ((sgP B n p : Nat) : Int) s (if k < 60 then 0 else ((1 + 8 * p + 3 : Nat) : Int))) := by
    unfold m_X3_readSign_L45
    rw [hcallV_b (by rw [tS_k, RM_k]; exact ru.k0), C, hbind_p, hpI_k (k2 _ _ _ _ _ _ _), tS_w2, ix_s p6, if_pos rfl, hif_p]
    generalize (if k < 60 then (0 : Int) else ((1 + 8 * p + 3 : Nat) : Int)) = f
    unfold sgC sgP
    by_cases e : eq2 B n p
    · obtain ⟨e1, e2, e3⟩ := eq2_i e
      have rd : haI 22 3 ((p + 1 : Nat) : Int) = fun (g : Int → hM) (st : hS) => haI 22 3 ((p + 1 : Nat) : Int) g st := rfl
      rw [if_neg e1, if_pos e, if_pos e, hgI_k (k2 _ _ _ _ _ _ _), tS_2, hgI_k (k2 _ _ _ _ _ _ _), tS_1, RM_o (by omega), h.2.1, hif_p, if_neg (by omega), hgR_k (k2 _ _ _ _ _ _ _), tS_F, RM_F, rf_2_0 hs, hgI_k (k2 _ _ _ _ _ _ _), tS_2, haI_n (by rw [tS_k, RM_k]; exact kk_3 hs) (by rw [tS_N, RM_N, ln_3 hs]; omega), tS_o (by decide), RM_o (by omega), h.2.2.1, hif_p, if_neg (fun z => z e3), hgI_k (k2 _ _ _ _ _ _ _), tS_2, hpI_k (k2 _ _ _ _ _ _ _), tS_w2, ix_s p7, hif_p]
      by_cases c6 : chr B n p = 60
      · rw [if_pos c6, if_neg (fun z => z c6)]
        rfl
      · rw [if_neg c6, if_pos c6]
        rfl
    · rw [if_neg e, if_neg e]
      by_cases e1 : chr B n p = 61
      · rw [if_pos e1]
        rfl
      · rw [if_neg e1, hgI_k (k2 _ _ _ _ _ _ _), tS_2, hgI_k (k2 _ _ _ _ _ _ _), tS_1, RM_o (by omega), h.2.1, hif_p]
        by_cases e2 : p + 1 < n
        · have e3 : B (p + 1) ≠ 61 := fun z => e (eq2_m ⟨e1, e2, z⟩)
          rw [if_neg (by omega), hgR_k (k2 _ _ _ _ _ _ _), tS_F, RM_F, rf_2_0 hs, hgI_k (k2 _ _ _ _ _ _ _), tS_2, haI_n (by rw [tS_k, RM_k]; exact kk_3 hs) (by rw [tS_N, RM_N, ln_3 hs]; omega), tS_o (by decide), RM_o (by omega), h.2.2.1, hif_p, if_pos e3]
          rfl
        · rw [if_pos (by omega)]
          rfl
  unfold m_X3_readSign
  rw [hgI_k (k2 _ _ _ _ _ _ _), tS_4, hif_p, if_pos rfl, hcallV_b (k2 _ _ _ _ _ _ _), N, hbind_p, hlet_p, hgI_k (k2 _ _ _ _ _ _ _), tS_2, hlet_p, hif_p]
  by_cases c1 : chr B n p = 60
  · rw [if_pos c1, l45]
  · rw [if_neg c1, hif_p]
    by_cases c2 : chr B n p = 61
    · rw [if_pos c2, l45]
    · rw [if_neg c2, hif_p, if_pos (by omega), l45]
theorem x_signX {n : Nat} {B : Nat → Int} {u : hS} (h : cTp n B u) {Q : Nat} (ru : RuA u Q) (q54 : 54 ≤ Q) (cd op : Nat → Int) (M k : Int) (s : Int) {p : Nat} (hp : p ≤ n) (ss : sk B n p = p) (hc : ¬ (chr B n p = 60 ∨ chr B n p = 61 ∨ chr B n p = 62)) : m_X3_readSign Q 2 (tS (RM u Q cd op M k) (p : Int) s 0) = some (-1, tS (RM u Q cd op M k) (p : Int) s ((1 + 8 * p : Nat) : Int)) := by
  have hs := h.1
  have n4 := h.2.2.2
  have k2 : ∀ cd op (M k P s f : Int), okk (tS (RM u Q cd op M k) P s f) 2 6 := fun _ _ _ _ _ _ _ => by rw [tS_k, RM_k]; exact kk_2 hs
  have N := c_next (RM_tp h q54 cd op M k) s 0 hp
  rw [ss] at N
  have F := x_fail (u := RM u Q cd op M k) (by rw [RM_shp]; exact hs) (p : Int) s 0 (w := p) (by omega) (k := 0) (by decide)
  rw [if_pos rfl] at F
  have F : m_X6_fail 2 (p : Int) 0 _ = _ := F
  unfold m_X3_readSign
  rw [hgI_k (k2 _ _ _ _ _ _ _), tS_4, hif_p, if_pos rfl, hcallV_b (k2 _ _ _ _ _ _ _), N, hbind_p, hlet_p, hgI_k (k2 _ _ _ _ _ _ _), tS_2, hlet_p, hif_p, if_neg (by omega), hif_p, if_neg (by omega), hif_p, if_neg (by omega), hcallV_b (k2 _ _ _ _ _ _ _), F, hbind_p]
  rfl
theorem x_signF {n : Nat} {B : Nat → Int} {u : hS} (h : cTp n B u) {Q : Nat} (ru : RuA u Q) (q54 : 54 ≤ Q) (cd op : Nat → Int) (M k p s : Int) {f : Int} (hf : f ≠ 0) : m_X3_readSign Q 2 (tS (RM u Q cd op M k) p s f) = some (-1, tS (RM u Q cd op M k) p s f) := by
  have hs := h.1
  unfold m_X3_readSign
  rw [hgI_k (by rw [tS_k, RM_k]; exact kk_2 hs), tS_4, hif_p, if_neg hf]
  rfl
theorem x_sumFF {n : Nat} {B : Nat → Int} {u : hS} (h : cTp n B u) {Q : Nat} (ru : RuA u Q) (q54 : 54 ≤ Q) (cd op : Nat → Int) {M : Nat} (M4 : M ≤ 400) (k s : Int) {f : Int} (hf : f ≠ 0) {p : Nat} (hp : p ≤ n) : ∃ (cd' op' : Nat → Int) (M' p' : Nat), M' ≤ 400 ∧ p' ≤ n ∧ m_X3_readSum Q 2 (tS (RM u Q cd op M k) (p : Int) s f) = some (0, tS (RM u Q cd' op' (M' : Int) k) (p' : Int) s f) := by
  obtain ⟨cd', op', M', p', e1, e2, e3⟩ := x_sumF h ru q54 (-1) cd op M4 k s hf hp 0 999999998
  refine ⟨cd', op', M', p', e1, e2, ?_⟩
  unfold m_X3_readSum
  rw [hcallV_b (by rw [tS_k, RM_k]; exact ru.k0), x_valF ru q54 cd op M k p s h.1 hf, hbind_p, hlet_p, hlet_p, hlet_p, e3]
theorem y_sign {n : Nat} {B : Nat → Int} (hB : byB B n) {r : Nat} (r6 : r < 6) (v : hS) (hv : rTp n B v) (h11 : hV v 220 11 = (r : Int)) (Z O : Nat → Int) (M : Int) {k : Nat} (k6 : k ≤ 60) (dp oc m : Int) {p : Nat} (lt : p < n) (hc : chr B n p = 60 ∨ chr B n p = 61 ∨ chr B n p = 62) : m_X10_compare_L44 220 (chr B n p) (p : Int) (rS (RX v r Z M O k dp oc) (p : Int) 0 m) = if k < 60 then hbind (m_X10_sum 220 (rS (RX v r Z M O ((k + 1 : Nat) : Int) dp oc) ((sgP B n p : Nat) : Int) 0 m)) (fun v2 => hif (v2 ≠ 0) (hcallV 10 220 (m_X10_puts 220 (w32 (6 + sgX B n p)) 0) fun _ => hretZ 1) (hretZ 0)) else some (0, rS (RX v r Z M O k dp oc) ((sgP B n p : Nat) : Int) ((1 + 8 * p + 3 : Nat) : Int) m) := by
  have n4 := hv.2.2.2
  have p6 : p < 1000000 := by omega
  have p7 : p + 1 < 1000000 := by omega
  have l105 : ∀ (w P : Int), (w = if eq2 B n p then 1 else 0) → m_X10_compare_L105 220 (chr B n p) (p : Int) w (rS (RX v r Z M O k dp oc) P 0 m) = if k < 60 then hbind (m_X10_sum 220 (rS (RX v r Z M O ((k + 1 : Nat) : Int) dp oc) P 0 m)) (fun v2 => hif (v2 ≠ 0) (hcallV 10 220 (m_X10_puts 220 (w32 (6 + sgX B n p)) 0) fun _ => hretZ 1) (hretZ 0)) else some (0, rS (RX v r Z M O k dp oc) P ((1 + 8 * p + 3 : Nat) : Int) m) := fun w P hw => by
    have l152 : ∀ x : Int, x = sgX B n p → m_X10_compare_L152 220 x (rS (RX v r Z M O ((k + 1 : Nat) : Int) dp oc) P 0 m) = hbind (m_X10_sum 220 (rS (RX v r Z M O ((k + 1 : Nat) : Int) dp oc) P 0 m)) (fun v2 => hif (v2 ≠ 0) (hcallV 10 220 (m_X10_puts 220 (w32 (6 + sgX B n p)) 0) fun _ => hretZ 1) (hretZ 0)) := fun x hx => by
      unfold m_X10_compare_L152
      rw [hlet_p, X_cv hv, hx]
    unfold m_X10_compare_L105
    rw [X_cv hv, y_makes hv h11 r6 Z M O k6 dp oc _ _ (show p ≤ n by omega)]
    by_cases kk : k < 60
    · rw [if_pos kk, if_pos kk, hbind_p, hif_p, if_pos (by decide), hif_p]
      unfold sgX at l152 ⊢
      by_cases c1 : chr B n p = 60
      · rw [if_neg (fun z => z c1), hif_p]
        rw [if_pos c1] at l152 ⊢
        by_cases e : eq2 B n p
        · rw [if_pos e] at hw l152 ⊢
          rw [hw, if_neg (by decide)]
          exact l152 1 rfl
        · rw [if_neg e] at hw l152 ⊢
          rw [hw, if_pos rfl]
          exact l152 0 rfl
      · rw [if_pos c1, hif_p]
        rw [if_neg c1] at l152 ⊢
        by_cases c2 : chr B n p = 61
        · rw [if_neg (fun z => z c2)]
          rw [if_pos c2] at l152 ⊢
          exact l152 2 rfl
        · rw [if_pos c2, hif_p]
          rw [if_neg c2] at l152 ⊢
          by_cases e : eq2 B n p
          · rw [if_pos e] at hw l152 ⊢
            rw [hw, if_neg (by decide)]
            exact l152 3 rfl
          · rw [if_neg e] at hw l152 ⊢
            rw [hw, if_pos rfl]
            exact l152 4 rfl
    · rw [if_neg kk, if_neg kk, hbind_p, hif_p, if_neg (by decide), hretZ_0]
  have l89 : m_X10_compare_L89 220 (chr B n p) (p : Int) (rS (RX v r Z M O k dp oc) ((p + 1 : Nat) : Int) 0 m) = m_X10_compare_L105 220 (chr B n p) (p : Int) 0 (rS (RX v r Z M O k dp oc) ((p + 1 : Nat) : Int) 0 m) := by
    unfold m_X10_compare_L89 m_X10_compare_L90
    rw [hlet_p, hif_p, if_pos rfl]
  unfold m_X10_compare_L44
  rw [X_g8 hv, X_p8 hv, ix_s p6, hif_p]
  by_cases e : eq2 B n p
  · obtain ⟨e1, e2, e3⟩ := eq2_i e
    rw [if_neg e1, X_g8 hv, X_g1 hv, hif_p, if_neg (by omega), X_r0 hv, X_g8 hv, X_a221 hv e2, hif_p, if_neg (fun z => z e3)]
    unfold m_X10_compare_L90
    rw [hlet_p, hif_p, if_neg (by decide), X_g8 hv, X_p8 hv, ix_s p7]
    unfold sgP
    rw [if_pos e]
    exact l105 1 ((p + 2 : Nat) : Int) (by rw [if_pos e])
  · have r9 := l89.trans (l105 0 ((p + 1 : Nat) : Int) (by rw [if_neg e]))
    unfold sgP
    rw [if_neg e]
    by_cases e1 : chr B n p = 61
    · rw [if_pos e1, r9]
    · rw [if_neg e1, X_g8 hv, X_g1 hv, hif_p]
      by_cases e2 : p + 1 < n
      · have e3 : B (p + 1) ≠ 61 := fun z => e (eq2_m ⟨e1, e2, z⟩)
        rw [if_neg (by omega), X_r0 hv, X_g8 hv, X_a221 hv e2, hif_p, if_pos e3, r9]
      · rw [if_pos (by omega), r9]
theorem j_cmp {n : Nat} {B : Nat → Int} (hB : byB B n) {u : hS} (h : cTp n B u) {Q r : Nat} (ru : RuA u Q) (q54 : 54 ≤ Q) (r6 : r < 6) {p M k a : Nat} {cd op : Nat → Int} {ts : List Bool} (t : tk cd op M a ts k) (Mp : M ≤ p) (hp : p ≤ n) (E : hM) (hE : ∀ st, E st = some (0, st)) : ∀ s : Int, ∃ (f p' k' M' : Nat) (s' : Int) (cd' op' : Nat → Int), (hcallV 3 Q (m_X3_readSum Q 2) fun _ => hcallV 3 Q (m_X3_readSign Q 2) fun v3 => hlet v3 fun w4 => hcallV 3 Q (m_X3_readSum Q 2) fun _ => hcallV 3 Q (m_X3_emit Q w4 0) fun _ => E) (tS (RM u Q cd op M k) (p : Int) s 0) = some (0, tS (RM u Q cd' op' M' k') (p' : Int) s' (f : Int)) ∧ p' ≤ n ∧ M' ≤ 400 ∧ (f = 0 → p < p' ∧ mv p M cd op p' M' cd' op' ∧ tk cd' op' M' a (true :: ts) k') ∧ ∀ (v : hS) (Z O : Nat → Int) (dp oc m : Int), rTp n B v → hV v 220 11 = (r : Int) → zk r Z cd op M → refO v r Z O dp oc (m_X10_compare 220) (rS (RX v r Z M O k dp oc) (p : Int) 0 m) f p' k' M' cd' op' := by
  intro s
  have n4 := h.2.2.2
  have kQ : ∀ cd op (M k P s f : Int), okk (tS (RM u Q cd op M k) P s f) Q 3 := fun _ _ _ _ _ _ _ => by rw [tS_k, RM_k]; exact ru.k0
  have z0 : ¬ ((0 : Int) ≠ 0) := fun z => z rfl
  obtain ⟨f1, p1, k1, M1, s1, cd1, op1, S1, sp1, sM1, sg1, sr1⟩ := j_sum hB h ru q54 r6 t Mp hp s
  -- where the class has met a fault before the second sum
  have fin : ∀ (cd op : Nat → Int) (M : Nat) (k : Int) (p : Nat) (s : Int) (f : Int) (w : Int), M ≤ 400 → p ≤ n → f ≠ 0 → ∃ (cd' op' : Nat → Int) (M' p' : Nat), M' ≤ 400 ∧ p' ≤ n ∧ (hcallV 3 Q (m_X3_readSum Q 2) fun _ => hcallV 3 Q (m_X3_emit Q w 0) fun _ => E) (tS (RM u Q cd op M k) (p : Int) s f) = some (0, tS (RM u Q cd' op' (M' : Int) k) (p' : Int) s f) := fun cd op M k p s f w h1 h2 h3 => by
    obtain ⟨cd2, op2, M2, p2, e1, e2, e3⟩ := x_sumFF h ru q54 cd op h1 k s h3 h2
    obtain ⟨cd3, op3, M3, e4, e5⟩ := x_emitJ ru q54 cd2 op2 e1 k (p2 : Int) s f w 0
    exact ⟨cd3, op3, M3, p2, e4, e2, by rw [hcallV_b (kQ _ _ _ _ _ _ _), e3, hbind_p, hcallV_b (kQ _ _ _ _ _ _ _), e5, hbind_p, hE]⟩
  by_cases z : f1 = 0
  · obtain ⟨g1, gs, g2, g3⟩ := sg1 z
    subst z
    have g2' := g2.2.1
    have k16 := g3.2.2.2.2
    by_cases C : chr B n p1 = 60 ∨ chr B n p1 = 61 ∨ chr B n p1 = 62
    · have lt : p1 < n := chr_lt (B := B) (by omega)
      have pb := sgP_b (B := B) lt
      have Sg := x_sign h ru q54 cd1 op1 M1 k16 s1 sp1 gs C
      obtain ⟨cn1, cn2, cn3, cn4⟩ := sgC_n C
      have ref1 : ∀ (v : hS) (Z O : Nat → Int) (dp oc m : Int), rTp n B v → hV v 220 11 = (r : Int) → zk r Z cd op M → ∃ Z1 m1, zF r Z Z1 ∧ zk r Z1 cd1 op1 M1 ∧ m_X10_compare 220 (rS (RX v r Z M O k dp oc) (p : Int) 0 m) = if k1 < 60 then hbind (m_X10_sum 220 (rS (RX v r Z1 M1 O ((k1 + 1 : Nat) : Int) dp oc) ((sgP B n p1 : Nat) : Int) 0 m1)) (fun v2 => hif (v2 ≠ 0) (hcallV 10 220 (m_X10_puts 220 (w32 (6 + sgX B n p1)) 0) fun _ => hretZ 1) (hretZ 0)) else some (0, rS (RX v r Z1 M1 O k1 dp oc) ((sgP B n p1 : Nat) : Int) ((1 + 8 * p1 + 3 : Nat) : Int) m1) := fun v Z O dp oc m hv h11 hz => by
        obtain ⟨Z1, m1, P1, K1, X1, x1, x2, x3⟩ := sr1 v Z O dp oc m hv h11 hz
        obtain ⟨x4, x5, x6, x7⟩ := x3 rfl
        refine ⟨Z1, m1, x2, x7, ?_⟩
        have See := r_see (RX_tp hv r Z1 M1 O k1 dp oc) 0 m1 sp1
        rw [gs] at See
        have l44 := y_sign hB r6 v hv h11 Z1 O M1 k16 dp oc m1 lt C
        unfold m_X10_compare
        rw [X_cv hv, x1, hbind_p, x4, x5, x6, if_pos rfl, hif_p, if_pos (by decide)]
        show (hcallV 10 220 (m_X10_see 220) _) (rS (RX v r Z1 M1 O k1 dp oc) (p1 : Int) 0 m1) = _
        rw [X_cv hv, See, hbind_p, hlet_p, X_g8 hv, hlet_p, hif_p]
        by_cases c1 : chr B n p1 = 60
        · rw [if_pos c1, l44]
        · rw [if_neg c1, hif_p]
          by_cases c2 : chr B n p1 = 61
          · rw [if_pos c2, l44]
          · rw [if_neg c2, hif_p, if_pos (by omega), l44]
      have cls : (hcallV 3 Q (m_X3_readSum Q 2) fun _ => hcallV 3 Q (m_X3_readSign Q 2) fun v3 => hlet v3 fun w4 => hcallV 3 Q (m_X3_readSum Q 2) fun _ => hcallV 3 Q (m_X3_emit Q w4 0) fun _ => E) (tS (RM u Q cd op M k) (p : Int) s 0) = (hcallV 3 Q (m_X3_readSum Q 2) fun _ => hcallV 3 Q (m_X3_emit Q (sgC B n p1) 0) fun _ => E) (tS (RM u Q cd1 op1 M1 ((k1 + 1 : Nat) : Int)) ((sgP B n p1 : Nat) : Int) s1 (if k1 < 60 then 0 else ((1 + 8 * p1 + 3 : Nat) : Int))) := by
        rw [hcallV_b (kQ _ _ _ _ _ _ _), S1, hbind_p]
        show (hcallV 3 Q (m_X3_readSign Q 2) _) (tS (RM u Q cd1 op1 M1 k1) (p1 : Int) s1 0) = _
        rw [hcallV_b (kQ _ _ _ _ _ _ _), Sg, hbind_p, hlet_p]
      by_cases kk : k1 < 60
      · rw [if_pos kk] at cls
        obtain ⟨f2, p2, k2, M2, s2, cd2, op2, S2, sp2, sM2, sg2, sr2⟩ := j_sum hB h ru q54 r6 (g3.k (show k1 ≤ k1 + 1 by omega) (by omega)) (show M1 ≤ sgP B n p1 by omega) pb.2 s1
        by_cases z2 : f2 = 0
        · obtain ⟨v1, v2, v3, v4⟩ := sg2 z2
          subst z2
          have v3' := v3.2.1
          have M24 : M2 < 400 := by omega
          have l3 := v4.2.2.2.1
          refine ⟨0, p2, k2, M2 + 1, s2, sup cd2 M2 (sgC B n p1), sup op2 M2 0, ?_, sp2, by omega, fun _ => ⟨by omega, ⟨by have := g2.1; have := v3.1; omega, by omega, fun j hj => ?_⟩, tk_e v4 (ty_cmp cn1 _) (okO_n cn2 cn3 0) (by simp only [List.length_cons] at l3 ⊢; omega) v4.2.2.2.2⟩, fun v Z O dp oc m hv h11 hz => ?_⟩
          · rw [cls, hcallV_b (kQ _ _ _ _ _ _ _), S2, hbind_p, hcallV_b (kQ _ _ _ _ _ _ _), x_emit ru q54 cd2 op2 M24, hbind_p, hE]
          · have a1 := v3.2.2 j (by have := g2.1; omega)
            have a2 := g2.2.2 j hj
            have a3 := g2.1
            have a4 := v3.1
            rw [sup_n (by omega), sup_n (by omega)]
            exact ⟨a1.1.trans a2.1, a1.2.trans a2.2⟩
          · obtain ⟨Z1, m1, y1, y2, y3⟩ := ref1 v Z O dp oc m hv h11 hz
            obtain ⟨Z2, m2, P1, K1, X1, x1, x2, x3⟩ := sr2 v Z1 O dp oc m1 hv h11 y2
            obtain ⟨x4, x5, x6, x7⟩ := x3 rfl
            refine refO_g (sup Z2 (400 * r + M2) (w32 (w32 (6 + sgX B n p1) + w32 (16 * 0)))) m2 ?_ ((y1.tr x2).tr (zF.s M24)) (x7.s (cn4 0))
            rw [y3, if_pos kk, x1, hbind_p, x4, x5, x6, if_pos rfl, hif_p, if_pos (by decide), X_cv hv]
            show hbind (m_X10_puts 220 _ 0 (rS (RX v r Z2 M2 O k2 dp oc) (p2 : Int) 0 m2)) _ = _
            rw [y_puts hv h11 r6 Z2 M24, hbind_p, hretZ_1]
        · obtain ⟨cd3, op3, M3, e4, e5⟩ := x_emitJ ru q54 cd2 op2 sM2 (k2 : Int) (p2 : Int) s2 (f2 : Int) (sgC B n p1) 0
          refine ⟨f2, p2, k2, M3, s2, cd3, op3, ?_, sp2, e4, fun y => absurd y z2, fun v Z O dp oc m hv h11 hz => ?_⟩
          · rw [cls, hcallV_b (kQ _ _ _ _ _ _ _), S2, hbind_p, hcallV_b (kQ _ _ _ _ _ _ _), e5, hbind_p, hE]
          · obtain ⟨Z1, m1, y1, y2, y3⟩ := ref1 v Z O dp oc m hv h11 hz
            obtain ⟨Z2, m2, P1, K1, X1, x1, x2, x3⟩ := sr2 v Z1 O dp oc m1 hv h11 y2
            refine refO_b z2 Z2 m2 P1 K1 X1 ?_ (y1.tr x2)
            rw [y3, if_pos kk, x1, hbind_p, if_neg z2, hif_p, if_neg z0, hretZ_0]
      · rw [if_neg kk] at cls
        obtain ⟨cd3, op3, M3, p3, e4, e5, e6⟩ := fin cd1 op1 M1 ((k1 + 1 : Nat) : Int) (sgP B n p1) s1 ((1 + 8 * p1 + 3 : Nat) : Int) (sgC B n p1) sM1 pb.2 (by omega)
        refine ⟨1 + 8 * p1 + 3, p3, k1 + 1, M3, s1, cd3, op3, cls.trans e6, e5, e4, fun y => absurd y (by omega), fun v Z O dp oc m hv h11 hz => ?_⟩
        obtain ⟨Z1, m1, y1, y2, y3⟩ := ref1 v Z O dp oc m hv h11 hz
        refine refO_b (by omega) Z1 m1 ((sgP B n p1 : Nat) : Int) (k1 : Int) (M1 : Int) ?_ y1
        rw [y3, if_neg kk]
    · have Sg := x_signX h ru q54 cd1 op1 M1 k1 s1 sp1 gs C
      obtain ⟨cd3, op3, M3, p3, e4, e5, e6⟩ := fin cd1 op1 M1 (k1 : Int) p1 s1 ((1 + 8 * p1 : Nat) : Int) (-1) sM1 sp1 (by omega)
      refine ⟨1 + 8 * p1, p3, k1, M3, s1, cd3, op3, ?_, e5, e4, fun y => absurd y (by omega), fun v Z O dp oc m hv h11 hz => ?_⟩
      · rw [hcallV_b (kQ _ _ _ _ _ _ _), S1, hbind_p]
        show (hcallV 3 Q (m_X3_readSign Q 2) _) (tS (RM u Q cd1 op1 M1 k1) (p1 : Int) s1 0) = _
        rw [hcallV_b (kQ _ _ _ _ _ _ _), Sg, hbind_p, hlet_p, e6]
      · obtain ⟨Z1, m1, P1, K1, X1, x1, x2, x3⟩ := sr1 v Z O dp oc m hv h11 hz
        obtain ⟨x4, x5, x6, x7⟩ := x3 rfl
        have See := r_see (RX_tp hv r Z1 M1 O k1 dp oc) 0 m1 sp1
        rw [gs] at See
        have F := y_fails (u := RX v r Z1 M1 O k1 dp oc) (by rw [RX_shp]; exact hv.1) (p1 : Int) m1 (at' := p1) (by omega) (j := 0) (by decide)
        have F : m_X10_fails 220 0 _ _ = _ := F
        refine refO_b (by omega) Z1 m1 (p1 : Int) (k1 : Int) (M1 : Int) ?_ x2
        unfold m_X10_compare
        rw [X_cv hv, x1, hbind_p, x4, x5, x6, if_pos rfl, hif_p, if_pos (by decide)]
        show (hcallV 10 220 (m_X10_see 220) _) (rS (RX v r Z1 M1 O k1 dp oc) (p1 : Int) 0 m1) = _
        rw [X_cv hv, See, hbind_p, hlet_p, X_g8 hv, hlet_p, hif_p, if_neg (fun y => C (.inl y)), hif_p, if_neg (fun y => C (.inr (.inl y))), hif_p, if_neg (fun y => C (.inr (.inr y))), X_cv hv, F, hbind_p]
        rfl
  · obtain ⟨cd3, op3, M3, p3, e4, e5, e6⟩ := fin cd1 op1 M1 (k1 : Int) p1 s1 (f1 : Int) (-1) sM1 sp1 (by omega)
    refine ⟨f1, p3, k1, M3, s1, cd3, op3, ?_, e5, e4, fun y => absurd y z, fun v Z O dp oc m hv h11 hz => ?_⟩
    · rw [hcallV_b (kQ _ _ _ _ _ _ _), S1, hbind_p, hcallV_b (kQ _ _ _ _ _ _ _), x_signF h ru q54 cd1 op1 _ _ _ _ (by omega), hbind_p, hlet_p, e6]
    · obtain ⟨Z1, m1, P1, K1, X1, x1, x2, x3⟩ := sr1 v Z O dp oc m hv h11 hz
      refine refO_b z Z1 m1 P1 K1 X1 ?_ x2
      unfold m_X10_compare
      rw [X_cv hv, x1, hbind_p, if_neg z, hif_p, if_neg z0, hretZ_0]
